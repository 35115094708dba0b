set_option maxRecDepth 100000 in
theorem dAX7_after_0 : decode cX7_after 0 = .ok (.aload_n 0, 1) ∧ decode cX7_after 1 = .ok (.aload_n 1, 1) ∧ decode cX7_after 2 = .ok (.invokevirtual 167, 3) ∧ decode cX7_after 5 = .ok (.aload_n 0, 1) ∧ decode cX7_after 6 = .ok (.iload_n 2, 1) ∧ decode cX7_after 7 = .ok (.iload_n 3, 1) ∧ decode cX7_after 8 = .ok (.invokevirtual 171, 3) ∧ decode cX7_after 11 = .ok (.ireturn, 1) := by decide +kernel
theorem dX7_after_0 : decode cX7_after 0 = .ok (.aload_n 0, 1) := dAX7_after_0.1
theorem dX7_after_1 : decode cX7_after 1 = .ok (.aload_n 1, 1) := dAX7_after_0.2.1
theorem dX7_after_2 : decode cX7_after 2 = .ok (.invokevirtual 167, 3) := dAX7_after_0.2.2.1
theorem dX7_after_5 : decode cX7_after 5 = .ok (.aload_n 0, 1) := dAX7_after_0.2.2.2.1
theorem dX7_after_6 : decode cX7_after 6 = .ok (.iload_n 2, 1) := dAX7_after_0.2.2.2.2.1
theorem dX7_after_7 : decode cX7_after 7 = .ok (.iload_n 3, 1) := dAX7_after_0.2.2.2.2.2.1
theorem dX7_after_8 : decode cX7_after 8 = .ok (.invokevirtual 171, 3) := dAX7_after_0.2.2.2.2.2.2.1
theorem dX7_after_11 : decode cX7_after 11 = .ok (.ireturn, 1) := dAX7_after_0.2.2.2.2.2.2.2
set_option maxRecDepth 100000 in
theorem dAX7_ask_0 : decode cX7_ask 0 = .ok (.aload_n 0, 1) ∧ decode cX7_ask 1 = .ok (.invokevirtual 175, 3) ∧ decode cX7_ask 4 = .ok (.aload_n 0, 1) ∧ decode cX7_ask 5 = .ok (.getfield 187, 3) ∧ decode cX7_ask 8 = .ok (.ifCond .eq 10, 3) ∧ decode cX7_ask 11 = .ok (.aload_n 0, 1) ∧ decode cX7_ask 12 = .ok (.invokevirtual 395, 3) ∧ decode cX7_ask 15 = .ok (.goto 8, 3) := by decide +kernel
theorem dX7_ask_0 : decode cX7_ask 0 = .ok (.aload_n 0, 1) := dAX7_ask_0.1
theorem dX7_ask_1 : decode cX7_ask 1 = .ok (.invokevirtual 175, 3) := dAX7_ask_0.2.1
theorem dX7_ask_4 : decode cX7_ask 4 = .ok (.aload_n 0, 1) := dAX7_ask_0.2.2.1
theorem dX7_ask_5 : decode cX7_ask 5 = .ok (.getfield 187, 3) := dAX7_ask_0.2.2.2.1
theorem dX7_ask_8 : decode cX7_ask 8 = .ok (.ifCond .eq 10, 3) := dAX7_ask_0.2.2.2.2.1
theorem dX7_ask_11 : decode cX7_ask 11 = .ok (.aload_n 0, 1) := dAX7_ask_0.2.2.2.2.2.1
theorem dX7_ask_12 : decode cX7_ask 12 = .ok (.invokevirtual 395, 3) := dAX7_ask_0.2.2.2.2.2.2.1
theorem dX7_ask_15 : decode cX7_ask 15 = .ok (.goto 8, 3) := dAX7_ask_0.2.2.2.2.2.2.2
set_option maxRecDepth 100000 in
theorem dAX7_ask_1 : decode cX7_ask 18 = .ok (.aload_n 0, 1) ∧ decode cX7_ask 19 = .ok (.iconst 1, 1) ∧ decode cX7_ask 20 = .ok (.invokevirtual 178, 3) ∧ decode cX7_ask 23 = .ok (.ireturn, 1) := by decide +kernel
theorem dX7_ask_18 : decode cX7_ask 18 = .ok (.aload_n 0, 1) := dAX7_ask_1.1
theorem dX7_ask_19 : decode cX7_ask 19 = .ok (.iconst 1, 1) := dAX7_ask_1.2.1
theorem dX7_ask_20 : decode cX7_ask 20 = .ok (.invokevirtual 178, 3) := dAX7_ask_1.2.2.1
theorem dX7_ask_23 : decode cX7_ask 23 = .ok (.ireturn, 1) := dAX7_ask_1.2.2.2
set_option maxRecDepth 100000 in
theorem dAX7_askBreaths_0 : decode cX7_askBreaths 0 = .ok (.aload_n 0, 1) ∧ decode cX7_askBreaths 1 = .ok (.invokevirtual 175, 3) ∧ decode cX7_askBreaths 4 = .ok (.aload_n 0, 1) ∧ decode cX7_askBreaths 5 = .ok (.iload_n 1, 1) ∧ decode cX7_askBreaths 6 = .ok (.iconst 0, 1) ∧ decode cX7_askBreaths 7 = .ok (.bipush 99, 2) ∧ decode cX7_askBreaths 9 = .ok (.invokestatic 163, 3) ∧ decode cX7_askBreaths 12 = .ok (.invokevirtual 307, 3) := by decide +kernel
theorem dX7_askBreaths_0 : decode cX7_askBreaths 0 = .ok (.aload_n 0, 1) := dAX7_askBreaths_0.1
theorem dX7_askBreaths_1 : decode cX7_askBreaths 1 = .ok (.invokevirtual 175, 3) := dAX7_askBreaths_0.2.1
theorem dX7_askBreaths_4 : decode cX7_askBreaths 4 = .ok (.aload_n 0, 1) := dAX7_askBreaths_0.2.2.1
theorem dX7_askBreaths_5 : decode cX7_askBreaths 5 = .ok (.iload_n 1, 1) := dAX7_askBreaths_0.2.2.2.1
theorem dX7_askBreaths_6 : decode cX7_askBreaths 6 = .ok (.iconst 0, 1) := dAX7_askBreaths_0.2.2.2.2.1
theorem dX7_askBreaths_7 : decode cX7_askBreaths 7 = .ok (.bipush 99, 2) := dAX7_askBreaths_0.2.2.2.2.2.1
theorem dX7_askBreaths_9 : decode cX7_askBreaths 9 = .ok (.invokestatic 163, 3) := dAX7_askBreaths_0.2.2.2.2.2.2.1
theorem dX7_askBreaths_12 : decode cX7_askBreaths 12 = .ok (.invokevirtual 307, 3) := dAX7_askBreaths_0.2.2.2.2.2.2.2
set_option maxRecDepth 100000 in
theorem dAX7_askBreaths_1 : decode cX7_askBreaths 15 = .ok (.istore_n 2, 1) ∧ decode cX7_askBreaths 16 = .ok (.iload_n 2, 1) ∧ decode cX7_askBreaths 17 = .ok (.ifCond .eq 9, 3) ∧ decode cX7_askBreaths 20 = .ok (.aload_n 0, 1) ∧ decode cX7_askBreaths 21 = .ok (.iload_n 2, 1) ∧ decode cX7_askBreaths 22 = .ok (.invokevirtual 178, 3) ∧ decode cX7_askBreaths 25 = .ok (.ireturn, 1) ∧ decode cX7_askBreaths 26 = .ok (.aload_n 0, 1) := by decide +kernel
theorem dX7_askBreaths_15 : decode cX7_askBreaths 15 = .ok (.istore_n 2, 1) := dAX7_askBreaths_1.1
theorem dX7_askBreaths_16 : decode cX7_askBreaths 16 = .ok (.iload_n 2, 1) := dAX7_askBreaths_1.2.1
theorem dX7_askBreaths_17 : decode cX7_askBreaths 17 = .ok (.ifCond .eq 9, 3) := dAX7_askBreaths_1.2.2.1
theorem dX7_askBreaths_20 : decode cX7_askBreaths 20 = .ok (.aload_n 0, 1) := dAX7_askBreaths_1.2.2.2.1
theorem dX7_askBreaths_21 : decode cX7_askBreaths 21 = .ok (.iload_n 2, 1) := dAX7_askBreaths_1.2.2.2.2.1
theorem dX7_askBreaths_22 : decode cX7_askBreaths 22 = .ok (.invokevirtual 178, 3) := dAX7_askBreaths_1.2.2.2.2.2.1
theorem dX7_askBreaths_25 : decode cX7_askBreaths 25 = .ok (.ireturn, 1) := dAX7_askBreaths_1.2.2.2.2.2.2.1
theorem dX7_askBreaths_26 : decode cX7_askBreaths 26 = .ok (.aload_n 0, 1) := dAX7_askBreaths_1.2.2.2.2.2.2.2
set_option maxRecDepth 100000 in
theorem dAX7_askBreaths_2 : decode cX7_askBreaths 27 = .ok (.iconst 0, 1) ∧ decode cX7_askBreaths 28 = .ok (.putfield 258, 3) ∧ decode cX7_askBreaths 31 = .ok (.aload_n 0, 1) ∧ decode cX7_askBreaths 32 = .ok (.iconst 0, 1) ∧ decode cX7_askBreaths 33 = .ok (.putfield 268, 3) ∧ decode cX7_askBreaths 36 = .ok (.aload_n 0, 1) ∧ decode cX7_askBreaths 37 = .ok (.iload_n 1, 1) ∧ decode cX7_askBreaths 38 = .ok (.invokevirtual 311, 3) := by decide +kernel
theorem dX7_askBreaths_27 : decode cX7_askBreaths 27 = .ok (.iconst 0, 1) := dAX7_askBreaths_2.1
theorem dX7_askBreaths_28 : decode cX7_askBreaths 28 = .ok (.putfield 258, 3) := dAX7_askBreaths_2.2.1
theorem dX7_askBreaths_31 : decode cX7_askBreaths 31 = .ok (.aload_n 0, 1) := dAX7_askBreaths_2.2.2.1
theorem dX7_askBreaths_32 : decode cX7_askBreaths 32 = .ok (.iconst 0, 1) := dAX7_askBreaths_2.2.2.2.1
theorem dX7_askBreaths_33 : decode cX7_askBreaths 33 = .ok (.putfield 268, 3) := dAX7_askBreaths_2.2.2.2.2.1
theorem dX7_askBreaths_36 : decode cX7_askBreaths 36 = .ok (.aload_n 0, 1) := dAX7_askBreaths_2.2.2.2.2.2.1
theorem dX7_askBreaths_37 : decode cX7_askBreaths 37 = .ok (.iload_n 1, 1) := dAX7_askBreaths_2.2.2.2.2.2.2.1
theorem dX7_askBreaths_38 : decode cX7_askBreaths 38 = .ok (.invokevirtual 311, 3) := dAX7_askBreaths_2.2.2.2.2.2.2.2
set_option maxRecDepth 100000 in
theorem dAX7_askBreaths_3 : decode cX7_askBreaths 41 = .ok (.pop, 1) ∧ decode cX7_askBreaths 42 = .ok (.aload_n 0, 1) ∧ decode cX7_askBreaths 43 = .ok (.getfield 258, 3) ∧ decode cX7_askBreaths 46 = .ok (.ireturn, 1) := by decide +kernel
theorem dX7_askBreaths_41 : decode cX7_askBreaths 41 = .ok (.pop, 1) := dAX7_askBreaths_3.1
theorem dX7_askBreaths_42 : decode cX7_askBreaths 42 = .ok (.aload_n 0, 1) := dAX7_askBreaths_3.2.1
theorem dX7_askBreaths_43 : decode cX7_askBreaths 43 = .ok (.getfield 258, 3) := dAX7_askBreaths_3.2.2.1
theorem dX7_askBreaths_46 : decode cX7_askBreaths 46 = .ok (.ireturn, 1) := dAX7_askBreaths_3.2.2.2
set_option maxRecDepth 100000 in
theorem dAX7_askFor_0 : decode cX7_askFor 0 = .ok (.aload_n 0, 1) ∧ decode cX7_askFor 1 = .ok (.aload_n 0, 1) ∧ decode cX7_askFor 2 = .ok (.getfield 20, 3) ∧ decode cX7_askFor 5 = .ok (.bipush 6, 2) ∧ decode cX7_askFor 7 = .ok (.iaload, 1) ∧ decode cX7_askFor 8 = .ok (.iload_n 1, 1) ∧ decode cX7_askFor 9 = .ok (.invokevirtual 303, 3) ∧ decode cX7_askFor 12 = .ok (.ireturn, 1) := by decide +kernel
theorem dX7_askFor_0 : decode cX7_askFor 0 = .ok (.aload_n 0, 1) := dAX7_askFor_0.1
theorem dX7_askFor_1 : decode cX7_askFor 1 = .ok (.aload_n 0, 1) := dAX7_askFor_0.2.1
theorem dX7_askFor_2 : decode cX7_askFor 2 = .ok (.getfield 20, 3) := dAX7_askFor_0.2.2.1
theorem dX7_askFor_5 : decode cX7_askFor 5 = .ok (.bipush 6, 2) := dAX7_askFor_0.2.2.2.1
theorem dX7_askFor_7 : decode cX7_askFor 7 = .ok (.iaload, 1) := dAX7_askFor_0.2.2.2.2.1
theorem dX7_askFor_8 : decode cX7_askFor 8 = .ok (.iload_n 1, 1) := dAX7_askFor_0.2.2.2.2.2.1
theorem dX7_askFor_9 : decode cX7_askFor 9 = .ok (.invokevirtual 303, 3) := dAX7_askFor_0.2.2.2.2.2.2.1
theorem dX7_askFor_12 : decode cX7_askFor 12 = .ok (.ireturn, 1) := dAX7_askFor_0.2.2.2.2.2.2.2
set_option maxRecDepth 100000 in
theorem dAX7_askLeaves_0 : decode cX7_askLeaves 0 = .ok (.aload_n 0, 1) ∧ decode cX7_askLeaves 1 = .ok (.invokevirtual 175, 3) ∧ decode cX7_askLeaves 4 = .ok (.aload_n 0, 1) ∧ decode cX7_askLeaves 5 = .ok (.getfield 187, 3) ∧ decode cX7_askLeaves 8 = .ok (.ifCond .ne 9, 3) ∧ decode cX7_askLeaves 11 = .ok (.aload_n 0, 1) ∧ decode cX7_askLeaves 12 = .ok (.iconst 1, 1) ∧ decode cX7_askLeaves 13 = .ok (.invokevirtual 178, 3) := by decide +kernel
theorem dX7_askLeaves_0 : decode cX7_askLeaves 0 = .ok (.aload_n 0, 1) := dAX7_askLeaves_0.1
theorem dX7_askLeaves_1 : decode cX7_askLeaves 1 = .ok (.invokevirtual 175, 3) := dAX7_askLeaves_0.2.1
theorem dX7_askLeaves_4 : decode cX7_askLeaves 4 = .ok (.aload_n 0, 1) := dAX7_askLeaves_0.2.2.1
theorem dX7_askLeaves_5 : decode cX7_askLeaves 5 = .ok (.getfield 187, 3) := dAX7_askLeaves_0.2.2.2.1
theorem dX7_askLeaves_8 : decode cX7_askLeaves 8 = .ok (.ifCond .ne 9, 3) := dAX7_askLeaves_0.2.2.2.2.1
theorem dX7_askLeaves_11 : decode cX7_askLeaves 11 = .ok (.aload_n 0, 1) := dAX7_askLeaves_0.2.2.2.2.2.1
theorem dX7_askLeaves_12 : decode cX7_askLeaves 12 = .ok (.iconst 1, 1) := dAX7_askLeaves_0.2.2.2.2.2.2.1
theorem dX7_askLeaves_13 : decode cX7_askLeaves 13 = .ok (.invokevirtual 178, 3) := dAX7_askLeaves_0.2.2.2.2.2.2.2
set_option maxRecDepth 100000 in
theorem dAX7_askLeaves_1 : decode cX7_askLeaves 16 = .ok (.ireturn, 1) ∧ decode cX7_askLeaves 17 = .ok (.aload_n 0, 1) ∧ decode cX7_askLeaves 18 = .ok (.invokevirtual 395, 3) ∧ decode cX7_askLeaves 21 = .ok (.istore_n 1, 1) ∧ decode cX7_askLeaves 22 = .ok (.iload_n 1, 1) ∧ decode cX7_askLeaves 23 = .ok (.ifCond .ge 8, 3) ∧ decode cX7_askLeaves 26 = .ok (.bipush (-2), 2) ∧ decode cX7_askLeaves 28 = .ok (.goto 8, 3) := by decide +kernel
theorem dX7_askLeaves_16 : decode cX7_askLeaves 16 = .ok (.ireturn, 1) := dAX7_askLeaves_1.1
theorem dX7_askLeaves_17 : decode cX7_askLeaves 17 = .ok (.aload_n 0, 1) := dAX7_askLeaves_1.2.1
theorem dX7_askLeaves_18 : decode cX7_askLeaves 18 = .ok (.invokevirtual 395, 3) := dAX7_askLeaves_1.2.2.1
theorem dX7_askLeaves_21 : decode cX7_askLeaves 21 = .ok (.istore_n 1, 1) := dAX7_askLeaves_1.2.2.2.1
theorem dX7_askLeaves_22 : decode cX7_askLeaves 22 = .ok (.iload_n 1, 1) := dAX7_askLeaves_1.2.2.2.2.1
theorem dX7_askLeaves_23 : decode cX7_askLeaves 23 = .ok (.ifCond .ge 8, 3) := dAX7_askLeaves_1.2.2.2.2.2.1
theorem dX7_askLeaves_26 : decode cX7_askLeaves 26 = .ok (.bipush (-2), 2) := dAX7_askLeaves_1.2.2.2.2.2.2.1
theorem dX7_askLeaves_28 : decode cX7_askLeaves 28 = .ok (.goto 8, 3) := dAX7_askLeaves_1.2.2.2.2.2.2.2
set_option maxRecDepth 100000 in
theorem dAX7_askLeaves_2 : decode cX7_askLeaves 31 = .ok (.aload_n 0, 1) ∧ decode cX7_askLeaves 32 = .ok (.iload_n 1, 1) ∧ decode cX7_askLeaves 33 = .ok (.invokevirtual 392, 3) ∧ decode cX7_askLeaves 36 = .ok (.ireturn, 1) := by decide +kernel
theorem dX7_askLeaves_31 : decode cX7_askLeaves 31 = .ok (.aload_n 0, 1) := dAX7_askLeaves_2.1
theorem dX7_askLeaves_32 : decode cX7_askLeaves 32 = .ok (.iload_n 1, 1) := dAX7_askLeaves_2.2.1
theorem dX7_askLeaves_33 : decode cX7_askLeaves 33 = .ok (.invokevirtual 392, 3) := dAX7_askLeaves_2.2.2.1
theorem dX7_askLeaves_36 : decode cX7_askLeaves 36 = .ok (.ireturn, 1) := dAX7_askLeaves_2.2.2.2
set_option maxRecDepth 100000 in
theorem dAX7_askedFirst_0 : decode cX7_askedFirst 0 = .ok (.aload_n 0, 1) ∧ decode cX7_askedFirst 1 = .ok (.iconst (-1), 1) ∧ decode cX7_askedFirst 2 = .ok (.invokevirtual 389, 3) ∧ decode cX7_askedFirst 5 = .ok (.pop, 1) ∧ decode cX7_askedFirst 6 = .ok (.bipush (-2), 2) ∧ decode cX7_askedFirst 8 = .ok (.istore_n 1, 1) ∧ decode cX7_askedFirst 9 = .ok (.iconst 0, 1) ∧ decode cX7_askedFirst 10 = .ok (.istore_n 2, 1) := by decide +kernel
theorem dX7_askedFirst_0 : decode cX7_askedFirst 0 = .ok (.aload_n 0, 1) := dAX7_askedFirst_0.1
theorem dX7_askedFirst_1 : decode cX7_askedFirst 1 = .ok (.iconst (-1), 1) := dAX7_askedFirst_0.2.1
theorem dX7_askedFirst_2 : decode cX7_askedFirst 2 = .ok (.invokevirtual 389, 3) := dAX7_askedFirst_0.2.2.1
theorem dX7_askedFirst_5 : decode cX7_askedFirst 5 = .ok (.pop, 1) := dAX7_askedFirst_0.2.2.2.1
theorem dX7_askedFirst_6 : decode cX7_askedFirst 6 = .ok (.bipush (-2), 2) := dAX7_askedFirst_0.2.2.2.2.1
theorem dX7_askedFirst_8 : decode cX7_askedFirst 8 = .ok (.istore_n 1, 1) := dAX7_askedFirst_0.2.2.2.2.2.1
theorem dX7_askedFirst_9 : decode cX7_askedFirst 9 = .ok (.iconst 0, 1) := dAX7_askedFirst_0.2.2.2.2.2.2.1
theorem dX7_askedFirst_10 : decode cX7_askedFirst 10 = .ok (.istore_n 2, 1) := dAX7_askedFirst_0.2.2.2.2.2.2.2
set_option maxRecDepth 100000 in
theorem dAX7_askedFirst_1 : decode cX7_askedFirst 11 = .ok (.iload_n 2, 1) ∧ decode cX7_askedFirst 12 = .ok (.aload_n 0, 1) ∧ decode cX7_askedFirst 13 = .ok (.getfield 20, 3) ∧ decode cX7_askedFirst 16 = .ok (.iconst 3, 1) ∧ decode cX7_askedFirst 17 = .ok (.iaload, 1) ∧ decode cX7_askedFirst 18 = .ok (.if_icmp .ge 35, 3) ∧ decode cX7_askedFirst 21 = .ok (.aload_n 0, 1) ∧ decode cX7_askedFirst 22 = .ok (.getfield 377, 3) := by decide +kernel
theorem dX7_askedFirst_11 : decode cX7_askedFirst 11 = .ok (.iload_n 2, 1) := dAX7_askedFirst_1.1
theorem dX7_askedFirst_12 : decode cX7_askedFirst 12 = .ok (.aload_n 0, 1) := dAX7_askedFirst_1.2.1
theorem dX7_askedFirst_13 : decode cX7_askedFirst 13 = .ok (.getfield 20, 3) := dAX7_askedFirst_1.2.2.1
theorem dX7_askedFirst_16 : decode cX7_askedFirst 16 = .ok (.iconst 3, 1) := dAX7_askedFirst_1.2.2.2.1
theorem dX7_askedFirst_17 : decode cX7_askedFirst 17 = .ok (.iaload, 1) := dAX7_askedFirst_1.2.2.2.2.1
theorem dX7_askedFirst_18 : decode cX7_askedFirst 18 = .ok (.if_icmp .ge 35, 3) := dAX7_askedFirst_1.2.2.2.2.2.1
theorem dX7_askedFirst_21 : decode cX7_askedFirst 21 = .ok (.aload_n 0, 1) := dAX7_askedFirst_1.2.2.2.2.2.2.1
theorem dX7_askedFirst_22 : decode cX7_askedFirst 22 = .ok (.getfield 377, 3) := dAX7_askedFirst_1.2.2.2.2.2.2.2
set_option maxRecDepth 100000 in
theorem dAX7_askedFirst_2 : decode cX7_askedFirst 25 = .ok (.ifCond .le 28, 3) ∧ decode cX7_askedFirst 28 = .ok (.iload_n 1, 1) ∧ decode cX7_askedFirst 29 = .ok (.ifCond .lt 16, 3) ∧ decode cX7_askedFirst 32 = .ok (.aload_n 0, 1) ∧ decode cX7_askedFirst 33 = .ok (.iload_n 2, 1) ∧ decode cX7_askedFirst 34 = .ok (.invokevirtual 392, 3) ∧ decode cX7_askedFirst 37 = .ok (.aload_n 0, 1) ∧ decode cX7_askedFirst 38 = .ok (.iload_n 1, 1) := by decide +kernel
theorem dX7_askedFirst_25 : decode cX7_askedFirst 25 = .ok (.ifCond .le 28, 3) := dAX7_askedFirst_2.1
theorem dX7_askedFirst_28 : decode cX7_askedFirst 28 = .ok (.iload_n 1, 1) := dAX7_askedFirst_2.2.1
theorem dX7_askedFirst_29 : decode cX7_askedFirst 29 = .ok (.ifCond .lt 16, 3) := dAX7_askedFirst_2.2.2.1
theorem dX7_askedFirst_32 : decode cX7_askedFirst 32 = .ok (.aload_n 0, 1) := dAX7_askedFirst_2.2.2.2.1
theorem dX7_askedFirst_33 : decode cX7_askedFirst 33 = .ok (.iload_n 2, 1) := dAX7_askedFirst_2.2.2.2.2.1
theorem dX7_askedFirst_34 : decode cX7_askedFirst 34 = .ok (.invokevirtual 392, 3) := dAX7_askedFirst_2.2.2.2.2.2.1
theorem dX7_askedFirst_37 : decode cX7_askedFirst 37 = .ok (.aload_n 0, 1) := dAX7_askedFirst_2.2.2.2.2.2.2.1
theorem dX7_askedFirst_38 : decode cX7_askedFirst 38 = .ok (.iload_n 1, 1) := dAX7_askedFirst_2.2.2.2.2.2.2.2
set_option maxRecDepth 100000 in
theorem dAX7_askedFirst_3 : decode cX7_askedFirst 39 = .ok (.invokevirtual 392, 3) ∧ decode cX7_askedFirst 42 = .ok (.if_icmp .ge 5, 3) ∧ decode cX7_askedFirst 45 = .ok (.iload_n 2, 1) ∧ decode cX7_askedFirst 46 = .ok (.istore_n 1, 1) ∧ decode cX7_askedFirst 47 = .ok (.iinc 2 1, 3) ∧ decode cX7_askedFirst 50 = .ok (.goto (-39), 3) ∧ decode cX7_askedFirst 53 = .ok (.iload_n 1, 1) ∧ decode cX7_askedFirst 54 = .ok (.ireturn, 1) := by decide +kernel
theorem dX7_askedFirst_39 : decode cX7_askedFirst 39 = .ok (.invokevirtual 392, 3) := dAX7_askedFirst_3.1
theorem dX7_askedFirst_42 : decode cX7_askedFirst 42 = .ok (.if_icmp .ge 5, 3) := dAX7_askedFirst_3.2.1
theorem dX7_askedFirst_45 : decode cX7_askedFirst 45 = .ok (.iload_n 2, 1) := dAX7_askedFirst_3.2.2.1
theorem dX7_askedFirst_46 : decode cX7_askedFirst 46 = .ok (.istore_n 1, 1) := dAX7_askedFirst_3.2.2.2.1
theorem dX7_askedFirst_47 : decode cX7_askedFirst 47 = .ok (.iinc 2 1, 3) := dAX7_askedFirst_3.2.2.2.2.1
theorem dX7_askedFirst_50 : decode cX7_askedFirst 50 = .ok (.goto (-39), 3) := dAX7_askedFirst_3.2.2.2.2.2.1
theorem dX7_askedFirst_53 : decode cX7_askedFirst 53 = .ok (.iload_n 1, 1) := dAX7_askedFirst_3.2.2.2.2.2.2.1
theorem dX7_askedFirst_54 : decode cX7_askedFirst 54 = .ok (.ireturn, 1) := dAX7_askedFirst_3.2.2.2.2.2.2.2
set_option maxRecDepth 100000 in
theorem dAX7_asks_0 : decode cX7_asks 0 = .ok (.aload_n 0, 1) ∧ decode cX7_asks 1 = .ok (.invokevirtual 175, 3) ∧ decode cX7_asks 4 = .ok (.aload_n 0, 1) ∧ decode cX7_asks 5 = .ok (.iload_n 1, 1) ∧ decode cX7_asks 6 = .ok (.iconst 0, 1) ∧ decode cX7_asks 7 = .ok (.bipush 99, 2) ∧ decode cX7_asks 9 = .ok (.invokestatic 163, 3) ∧ decode cX7_asks 12 = .ok (.invokevirtual 307, 3) := by decide +kernel
theorem dX7_asks_0 : decode cX7_asks 0 = .ok (.aload_n 0, 1) := dAX7_asks_0.1
theorem dX7_asks_1 : decode cX7_asks 1 = .ok (.invokevirtual 175, 3) := dAX7_asks_0.2.1
theorem dX7_asks_4 : decode cX7_asks 4 = .ok (.aload_n 0, 1) := dAX7_asks_0.2.2.1
theorem dX7_asks_5 : decode cX7_asks 5 = .ok (.iload_n 1, 1) := dAX7_asks_0.2.2.2.1
theorem dX7_asks_6 : decode cX7_asks 6 = .ok (.iconst 0, 1) := dAX7_asks_0.2.2.2.2.1
theorem dX7_asks_7 : decode cX7_asks 7 = .ok (.bipush 99, 2) := dAX7_asks_0.2.2.2.2.2.1
theorem dX7_asks_9 : decode cX7_asks 9 = .ok (.invokestatic 163, 3) := dAX7_asks_0.2.2.2.2.2.2.1
theorem dX7_asks_12 : decode cX7_asks 12 = .ok (.invokevirtual 307, 3) := dAX7_asks_0.2.2.2.2.2.2.2
set_option maxRecDepth 100000 in
theorem dAX7_asks_1 : decode cX7_asks 15 = .ok (.istore_n 2, 1) ∧ decode cX7_asks 16 = .ok (.iload_n 2, 1) ∧ decode cX7_asks 17 = .ok (.ifCond .eq 9, 3) ∧ decode cX7_asks 20 = .ok (.aload_n 0, 1) ∧ decode cX7_asks 21 = .ok (.iload_n 2, 1) ∧ decode cX7_asks 22 = .ok (.invokevirtual 178, 3) ∧ decode cX7_asks 25 = .ok (.ireturn, 1) ∧ decode cX7_asks 26 = .ok (.aload_n 0, 1) := by decide +kernel
theorem dX7_asks_15 : decode cX7_asks 15 = .ok (.istore_n 2, 1) := dAX7_asks_1.1
theorem dX7_asks_16 : decode cX7_asks 16 = .ok (.iload_n 2, 1) := dAX7_asks_1.2.1
theorem dX7_asks_17 : decode cX7_asks 17 = .ok (.ifCond .eq 9, 3) := dAX7_asks_1.2.2.1
theorem dX7_asks_20 : decode cX7_asks 20 = .ok (.aload_n 0, 1) := dAX7_asks_1.2.2.2.1
theorem dX7_asks_21 : decode cX7_asks 21 = .ok (.iload_n 2, 1) := dAX7_asks_1.2.2.2.2.1
theorem dX7_asks_22 : decode cX7_asks 22 = .ok (.invokevirtual 178, 3) := dAX7_asks_1.2.2.2.2.2.1
theorem dX7_asks_25 : decode cX7_asks 25 = .ok (.ireturn, 1) := dAX7_asks_1.2.2.2.2.2.2.1
theorem dX7_asks_26 : decode cX7_asks 26 = .ok (.aload_n 0, 1) := dAX7_asks_1.2.2.2.2.2.2.2
set_option maxRecDepth 100000 in
theorem dAX7_asks_2 : decode cX7_asks 27 = .ok (.iconst 0, 1) ∧ decode cX7_asks 28 = .ok (.putfield 258, 3) ∧ decode cX7_asks 31 = .ok (.aload_n 0, 1) ∧ decode cX7_asks 32 = .ok (.iconst 0, 1) ∧ decode cX7_asks 33 = .ok (.putfield 268, 3) ∧ decode cX7_asks 36 = .ok (.aload_n 0, 1) ∧ decode cX7_asks 37 = .ok (.iload_n 1, 1) ∧ decode cX7_asks 38 = .ok (.invokevirtual 311, 3) := by decide +kernel
theorem dX7_asks_27 : decode cX7_asks 27 = .ok (.iconst 0, 1) := dAX7_asks_2.1
theorem dX7_asks_28 : decode cX7_asks 28 = .ok (.putfield 258, 3) := dAX7_asks_2.2.1
theorem dX7_asks_31 : decode cX7_asks 31 = .ok (.aload_n 0, 1) := dAX7_asks_2.2.2.1
theorem dX7_asks_32 : decode cX7_asks 32 = .ok (.iconst 0, 1) := dAX7_asks_2.2.2.2.1
theorem dX7_asks_33 : decode cX7_asks 33 = .ok (.putfield 268, 3) := dAX7_asks_2.2.2.2.2.1
theorem dX7_asks_36 : decode cX7_asks 36 = .ok (.aload_n 0, 1) := dAX7_asks_2.2.2.2.2.2.1
theorem dX7_asks_37 : decode cX7_asks 37 = .ok (.iload_n 1, 1) := dAX7_asks_2.2.2.2.2.2.2.1
theorem dX7_asks_38 : decode cX7_asks 38 = .ok (.invokevirtual 311, 3) := dAX7_asks_2.2.2.2.2.2.2.2
set_option maxRecDepth 100000 in
theorem dAX7_asks_3 : decode cX7_asks 41 = .ok (.ifCond .eq 7, 3) ∧ decode cX7_asks 44 = .ok (.iconst 1, 1) ∧ decode cX7_asks 45 = .ok (.goto 4, 3) ∧ decode cX7_asks 48 = .ok (.iconst 0, 1) ∧ decode cX7_asks 49 = .ok (.ireturn, 1) := by decide +kernel
theorem dX7_asks_41 : decode cX7_asks 41 = .ok (.ifCond .eq 7, 3) := dAX7_asks_3.1
theorem dX7_asks_44 : decode cX7_asks 44 = .ok (.iconst 1, 1) := dAX7_asks_3.2.1
theorem dX7_asks_45 : decode cX7_asks 45 = .ok (.goto 4, 3) := dAX7_asks_3.2.2.1
theorem dX7_asks_48 : decode cX7_asks 48 = .ok (.iconst 0, 1) := dAX7_asks_3.2.2.2.1
theorem dX7_asks_49 : decode cX7_asks 49 = .ok (.ireturn, 1) := dAX7_asks_3.2.2.2.2
set_option maxRecDepth 100000 in
theorem dAX7_back_0 : decode cX7_back 0 = .ok (.aload_n 0, 1) ∧ decode cX7_back 1 = .ok (.invokevirtual 175, 3) ∧ decode cX7_back 4 = .ok (.iload_n 1, 1) ∧ decode cX7_back 5 = .ok (.iconst 0, 1) ∧ decode cX7_back 6 = .ok (.aload_n 0, 1) ∧ decode cX7_back 7 = .ok (.getfield 193, 3) ∧ decode cX7_back 10 = .ok (.iconst 1, 1) ∧ decode cX7_back 11 = .ok (.isub, 1) := by decide +kernel
theorem dX7_back_0 : decode cX7_back 0 = .ok (.aload_n 0, 1) := dAX7_back_0.1
theorem dX7_back_1 : decode cX7_back 1 = .ok (.invokevirtual 175, 3) := dAX7_back_0.2.1
theorem dX7_back_4 : decode cX7_back 4 = .ok (.iload_n 1, 1) := dAX7_back_0.2.2.1
theorem dX7_back_5 : decode cX7_back 5 = .ok (.iconst 0, 1) := dAX7_back_0.2.2.2.1
theorem dX7_back_6 : decode cX7_back 6 = .ok (.aload_n 0, 1) := dAX7_back_0.2.2.2.2.1
theorem dX7_back_7 : decode cX7_back 7 = .ok (.getfield 193, 3) := dAX7_back_0.2.2.2.2.2.1
theorem dX7_back_10 : decode cX7_back 10 = .ok (.iconst 1, 1) := dAX7_back_0.2.2.2.2.2.2.1
theorem dX7_back_11 : decode cX7_back 11 = .ok (.isub, 1) := dAX7_back_0.2.2.2.2.2.2.2
set_option maxRecDepth 100000 in
theorem dAX7_back_1 : decode cX7_back 12 = .ok (.invokestatic 163, 3) ∧ decode cX7_back 15 = .ok (.ifCond .ne 9, 3) ∧ decode cX7_back 18 = .ok (.aload_n 0, 1) ∧ decode cX7_back 19 = .ok (.iconst 1, 1) ∧ decode cX7_back 20 = .ok (.invokevirtual 429, 3) ∧ decode cX7_back 23 = .ok (.ireturn, 1) ∧ decode cX7_back 24 = .ok (.aload_n 0, 1) ∧ decode cX7_back 25 = .ok (.getfield 38, 3) := by decide +kernel
theorem dX7_back_12 : decode cX7_back 12 = .ok (.invokestatic 163, 3) := dAX7_back_1.1
theorem dX7_back_15 : decode cX7_back 15 = .ok (.ifCond .ne 9, 3) := dAX7_back_1.2.1
theorem dX7_back_18 : decode cX7_back 18 = .ok (.aload_n 0, 1) := dAX7_back_1.2.2.1
theorem dX7_back_19 : decode cX7_back 19 = .ok (.iconst 1, 1) := dAX7_back_1.2.2.2.1
theorem dX7_back_20 : decode cX7_back 20 = .ok (.invokevirtual 429, 3) := dAX7_back_1.2.2.2.2.1
theorem dX7_back_23 : decode cX7_back 23 = .ok (.ireturn, 1) := dAX7_back_1.2.2.2.2.2.1
theorem dX7_back_24 : decode cX7_back 24 = .ok (.aload_n 0, 1) := dAX7_back_1.2.2.2.2.2.2.1
theorem dX7_back_25 : decode cX7_back 25 = .ok (.getfield 38, 3) := dAX7_back_1.2.2.2.2.2.2.2
set_option maxRecDepth 100000 in
theorem dAX7_back_2 : decode cX7_back 28 = .ok (.bipush 90, 2) ∧ decode cX7_back 30 = .ok (.iload_n 1, 1) ∧ decode cX7_back 31 = .ok (.imul, 1) ∧ decode cX7_back 32 = .ok (.aload_n 0, 1) ∧ decode cX7_back 33 = .ok (.getfield 32, 3) ∧ decode cX7_back 36 = .ok (.iconst 0, 1) ∧ decode cX7_back 37 = .ok (.bipush 90, 2) ∧ decode cX7_back 39 = .ok (.invokestatic 156, 3) := by decide +kernel
theorem dX7_back_28 : decode cX7_back 28 = .ok (.bipush 90, 2) := dAX7_back_2.1
theorem dX7_back_30 : decode cX7_back 30 = .ok (.iload_n 1, 1) := dAX7_back_2.2.1
theorem dX7_back_31 : decode cX7_back 31 = .ok (.imul, 1) := dAX7_back_2.2.2.1
theorem dX7_back_32 : decode cX7_back 32 = .ok (.aload_n 0, 1) := dAX7_back_2.2.2.2.1
theorem dX7_back_33 : decode cX7_back 33 = .ok (.getfield 32, 3) := dAX7_back_2.2.2.2.2.1
theorem dX7_back_36 : decode cX7_back 36 = .ok (.iconst 0, 1) := dAX7_back_2.2.2.2.2.2.1
theorem dX7_back_37 : decode cX7_back 37 = .ok (.bipush 90, 2) := dAX7_back_2.2.2.2.2.2.2.1
theorem dX7_back_39 : decode cX7_back 39 = .ok (.invokestatic 156, 3) := dAX7_back_2.2.2.2.2.2.2.2
set_option maxRecDepth 100000 in
theorem dAX7_back_3 : decode cX7_back 42 = .ok (.aload_n 0, 1) ∧ decode cX7_back 43 = .ok (.iconst 0, 1) ∧ decode cX7_back 44 = .ok (.putfield 190, 3) ∧ decode cX7_back 47 = .ok (.iconst 1, 1) ∧ decode cX7_back 48 = .ok (.ireturn, 1) := by decide +kernel
theorem dX7_back_42 : decode cX7_back 42 = .ok (.aload_n 0, 1) := dAX7_back_3.1
theorem dX7_back_43 : decode cX7_back 43 = .ok (.iconst 0, 1) := dAX7_back_3.2.1
theorem dX7_back_44 : decode cX7_back 44 = .ok (.putfield 190, 3) := dAX7_back_3.2.2.1
theorem dX7_back_47 : decode cX7_back 47 = .ok (.iconst 1, 1) := dAX7_back_3.2.2.2.1
theorem dX7_back_48 : decode cX7_back 48 = .ok (.ireturn, 1) := dAX7_back_3.2.2.2.2
set_option maxRecDepth 100000 in
theorem dAX7_begins_0 : decode cX7_begins 0 = .ok (.aload_n 0, 1) ∧ decode cX7_begins 1 = .ok (.aload_n 1, 1) ∧ decode cX7_begins 2 = .ok (.invokevirtual 120, 3) ∧ decode cX7_begins 5 = .ok (.ifCond .ne 5, 3) ∧ decode cX7_begins 8 = .ok (.iconst 0, 1) ∧ decode cX7_begins 9 = .ok (.ireturn, 1) ∧ decode cX7_begins 10 = .ok (.iload_n 2, 1) ∧ decode cX7_begins 11 = .ok (.ifCond .ne 12, 3) := by decide +kernel
theorem dX7_begins_0 : decode cX7_begins 0 = .ok (.aload_n 0, 1) := dAX7_begins_0.1
theorem dX7_begins_1 : decode cX7_begins 1 = .ok (.aload_n 1, 1) := dAX7_begins_0.2.1
theorem dX7_begins_2 : decode cX7_begins 2 = .ok (.invokevirtual 120, 3) := dAX7_begins_0.2.2.1
theorem dX7_begins_5 : decode cX7_begins 5 = .ok (.ifCond .ne 5, 3) := dAX7_begins_0.2.2.2.1
theorem dX7_begins_8 : decode cX7_begins 8 = .ok (.iconst 0, 1) := dAX7_begins_0.2.2.2.2.1
theorem dX7_begins_9 : decode cX7_begins 9 = .ok (.ireturn, 1) := dAX7_begins_0.2.2.2.2.2.1
theorem dX7_begins_10 : decode cX7_begins 10 = .ok (.iload_n 2, 1) := dAX7_begins_0.2.2.2.2.2.2.1
theorem dX7_begins_11 : decode cX7_begins 11 = .ok (.ifCond .ne 12, 3) := dAX7_begins_0.2.2.2.2.2.2.2
set_option maxRecDepth 100000 in
theorem dAX7_begins_1 : decode cX7_begins 14 = .ok (.aload_n 0, 1) ∧ decode cX7_begins 15 = .ok (.iconst 5, 1) ∧ decode cX7_begins 16 = .ok (.aload_n 0, 1) ∧ decode cX7_begins 17 = .ok (.getfield 84, 3) ∧ decode cX7_begins 20 = .ok (.invokevirtual 130, 3) ∧ decode cX7_begins 23 = .ok (.aload_n 0, 1) ∧ decode cX7_begins 24 = .ok (.getfield 23, 3) ∧ decode cX7_begins 27 = .ok (.iconst 5, 1) := by decide +kernel
theorem dX7_begins_14 : decode cX7_begins 14 = .ok (.aload_n 0, 1) := dAX7_begins_1.1
theorem dX7_begins_15 : decode cX7_begins 15 = .ok (.iconst 5, 1) := dAX7_begins_1.2.1
theorem dX7_begins_16 : decode cX7_begins 16 = .ok (.aload_n 0, 1) := dAX7_begins_1.2.2.1
theorem dX7_begins_17 : decode cX7_begins 17 = .ok (.getfield 84, 3) := dAX7_begins_1.2.2.2.1
theorem dX7_begins_20 : decode cX7_begins 20 = .ok (.invokevirtual 130, 3) := dAX7_begins_1.2.2.2.2.1
theorem dX7_begins_23 : decode cX7_begins 23 = .ok (.aload_n 0, 1) := dAX7_begins_1.2.2.2.2.2.1
theorem dX7_begins_24 : decode cX7_begins 24 = .ok (.getfield 23, 3) := dAX7_begins_1.2.2.2.2.2.2.1
theorem dX7_begins_27 : decode cX7_begins 27 = .ok (.iconst 5, 1) := dAX7_begins_1.2.2.2.2.2.2.2
set_option maxRecDepth 100000 in
theorem dAX7_begins_2 : decode cX7_begins 28 = .ok (.iaload, 1) ∧ decode cX7_begins 29 = .ok (.ifCond .ne 13, 3) ∧ decode cX7_begins 32 = .ok (.aload_n 0, 1) ∧ decode cX7_begins 33 = .ok (.bipush 6, 2) ∧ decode cX7_begins 35 = .ok (.aload_n 0, 1) ∧ decode cX7_begins 36 = .ok (.getfield 84, 3) ∧ decode cX7_begins 39 = .ok (.invokevirtual 130, 3) ∧ decode cX7_begins 42 = .ok (.aload_n 0, 1) := by decide +kernel
theorem dX7_begins_28 : decode cX7_begins 28 = .ok (.iaload, 1) := dAX7_begins_2.1
theorem dX7_begins_29 : decode cX7_begins 29 = .ok (.ifCond .ne 13, 3) := dAX7_begins_2.2.1
theorem dX7_begins_32 : decode cX7_begins 32 = .ok (.aload_n 0, 1) := dAX7_begins_2.2.2.1
theorem dX7_begins_33 : decode cX7_begins 33 = .ok (.bipush 6, 2) := dAX7_begins_2.2.2.2.1
theorem dX7_begins_35 : decode cX7_begins 35 = .ok (.aload_n 0, 1) := dAX7_begins_2.2.2.2.2.1
theorem dX7_begins_36 : decode cX7_begins 36 = .ok (.getfield 84, 3) := dAX7_begins_2.2.2.2.2.2.1
theorem dX7_begins_39 : decode cX7_begins 39 = .ok (.invokevirtual 130, 3) := dAX7_begins_2.2.2.2.2.2.2.1
theorem dX7_begins_42 : decode cX7_begins 42 = .ok (.aload_n 0, 1) := dAX7_begins_2.2.2.2.2.2.2.2
set_option maxRecDepth 100000 in
theorem dAX7_begins_3 : decode cX7_begins 43 = .ok (.invokevirtual 196, 3) ∧ decode cX7_begins 46 = .ok (.iconst 1, 1) ∧ decode cX7_begins 47 = .ok (.ireturn, 1) := by decide +kernel
theorem dX7_begins_43 : decode cX7_begins 43 = .ok (.invokevirtual 196, 3) := dAX7_begins_3.1
theorem dX7_begins_46 : decode cX7_begins 46 = .ok (.iconst 1, 1) := dAX7_begins_3.2.1
theorem dX7_begins_47 : decode cX7_begins 47 = .ok (.ireturn, 1) := dAX7_begins_3.2.2
set_option maxRecDepth 100000 in
theorem dAX7_best_0 : decode cX7_best 0 = .ok (.aload_n 0, 1) ∧ decode cX7_best 1 = .ok (.invokevirtual 175, 3) ∧ decode cX7_best 4 = .ok (.aload_n 0, 1) ∧ decode cX7_best 5 = .ok (.iload_n 1, 1) ∧ decode cX7_best 6 = .ok (.invokevirtual 242, 3) ∧ decode cX7_best 9 = .ok (.ifCond .eq 11, 3) ∧ decode cX7_best 12 = .ok (.aload_n 0, 1) ∧ decode cX7_best 13 = .ok (.iload_n 1, 1) := by decide +kernel
theorem dX7_best_0 : decode cX7_best 0 = .ok (.aload_n 0, 1) := dAX7_best_0.1
theorem dX7_best_1 : decode cX7_best 1 = .ok (.invokevirtual 175, 3) := dAX7_best_0.2.1
theorem dX7_best_4 : decode cX7_best 4 = .ok (.aload_n 0, 1) := dAX7_best_0.2.2.1
theorem dX7_best_5 : decode cX7_best 5 = .ok (.iload_n 1, 1) := dAX7_best_0.2.2.2.1
theorem dX7_best_6 : decode cX7_best 6 = .ok (.invokevirtual 242, 3) := dAX7_best_0.2.2.2.2.1
theorem dX7_best_9 : decode cX7_best 9 = .ok (.ifCond .eq 11, 3) := dAX7_best_0.2.2.2.2.2.1
theorem dX7_best_12 : decode cX7_best 12 = .ok (.aload_n 0, 1) := dAX7_best_0.2.2.2.2.2.2.1
theorem dX7_best_13 : decode cX7_best 13 = .ok (.iload_n 1, 1) := dAX7_best_0.2.2.2.2.2.2.2
set_option maxRecDepth 100000 in
theorem dAX7_best_1 : decode cX7_best 14 = .ok (.invokevirtual 287, 3) ∧ decode cX7_best 17 = .ok (.goto 8, 3) ∧ decode cX7_best 20 = .ok (.aload_n 0, 1) ∧ decode cX7_best 21 = .ok (.iconst 1, 1) ∧ decode cX7_best 22 = .ok (.invokevirtual 178, 3) ∧ decode cX7_best 25 = .ok (.ireturn, 1) := by decide +kernel
theorem dX7_best_14 : decode cX7_best 14 = .ok (.invokevirtual 287, 3) := dAX7_best_1.1
theorem dX7_best_17 : decode cX7_best 17 = .ok (.goto 8, 3) := dAX7_best_1.2.1
theorem dX7_best_20 : decode cX7_best 20 = .ok (.aload_n 0, 1) := dAX7_best_1.2.2.1
theorem dX7_best_21 : decode cX7_best 21 = .ok (.iconst 1, 1) := dAX7_best_1.2.2.2.1
theorem dX7_best_22 : decode cX7_best 22 = .ok (.invokevirtual 178, 3) := dAX7_best_1.2.2.2.2.1
theorem dX7_best_25 : decode cX7_best 25 = .ok (.ireturn, 1) := dAX7_best_1.2.2.2.2.2
set_option maxRecDepth 100000 in
theorem dAX7_bestOf_0 : decode cX7_bestOf 0 = .ok (.aload_n 0, 1) ∧ decode cX7_bestOf 1 = .ok (.getfield 20, 3) ∧ decode cX7_bestOf 4 = .ok (.bipush 9, 2) ∧ decode cX7_bestOf 6 = .ok (.iload_n 1, 1) ∧ decode cX7_bestOf 7 = .ok (.iadd, 1) ∧ decode cX7_bestOf 8 = .ok (.iaload, 1) ∧ decode cX7_bestOf 9 = .ok (.iconst 1, 1) ∧ decode cX7_bestOf 10 = .ok (.if_icmp .eq 19, 3) := by decide +kernel
theorem dX7_bestOf_0 : decode cX7_bestOf 0 = .ok (.aload_n 0, 1) := dAX7_bestOf_0.1
theorem dX7_bestOf_1 : decode cX7_bestOf 1 = .ok (.getfield 20, 3) := dAX7_bestOf_0.2.1
theorem dX7_bestOf_4 : decode cX7_bestOf 4 = .ok (.bipush 9, 2) := dAX7_bestOf_0.2.2.1
theorem dX7_bestOf_6 : decode cX7_bestOf 6 = .ok (.iload_n 1, 1) := dAX7_bestOf_0.2.2.2.1
theorem dX7_bestOf_7 : decode cX7_bestOf 7 = .ok (.iadd, 1) := dAX7_bestOf_0.2.2.2.2.1
theorem dX7_bestOf_8 : decode cX7_bestOf 8 = .ok (.iaload, 1) := dAX7_bestOf_0.2.2.2.2.2.1
theorem dX7_bestOf_9 : decode cX7_bestOf 9 = .ok (.iconst 1, 1) := dAX7_bestOf_0.2.2.2.2.2.2.1
theorem dX7_bestOf_10 : decode cX7_bestOf 10 = .ok (.if_icmp .eq 19, 3) := dAX7_bestOf_0.2.2.2.2.2.2.2
set_option maxRecDepth 100000 in
theorem dAX7_bestOf_1 : decode cX7_bestOf 13 = .ok (.aload_n 0, 1) ∧ decode cX7_bestOf 14 = .ok (.getfield 20, 3) ∧ decode cX7_bestOf 17 = .ok (.bipush 9, 2) ∧ decode cX7_bestOf 19 = .ok (.iload_n 1, 1) ∧ decode cX7_bestOf 20 = .ok (.iadd, 1) ∧ decode cX7_bestOf 21 = .ok (.iaload, 1) ∧ decode cX7_bestOf 22 = .ok (.iconst 2, 1) ∧ decode cX7_bestOf 23 = .ok (.if_icmp .eq 6, 3) := by decide +kernel
theorem dX7_bestOf_13 : decode cX7_bestOf 13 = .ok (.aload_n 0, 1) := dAX7_bestOf_1.1
theorem dX7_bestOf_14 : decode cX7_bestOf 14 = .ok (.getfield 20, 3) := dAX7_bestOf_1.2.1
theorem dX7_bestOf_17 : decode cX7_bestOf 17 = .ok (.bipush 9, 2) := dAX7_bestOf_1.2.2.1
theorem dX7_bestOf_19 : decode cX7_bestOf 19 = .ok (.iload_n 1, 1) := dAX7_bestOf_1.2.2.2.1
theorem dX7_bestOf_20 : decode cX7_bestOf 20 = .ok (.iadd, 1) := dAX7_bestOf_1.2.2.2.2.1
theorem dX7_bestOf_21 : decode cX7_bestOf 21 = .ok (.iaload, 1) := dAX7_bestOf_1.2.2.2.2.2.1
theorem dX7_bestOf_22 : decode cX7_bestOf 22 = .ok (.iconst 2, 1) := dAX7_bestOf_1.2.2.2.2.2.2.1
theorem dX7_bestOf_23 : decode cX7_bestOf 23 = .ok (.if_icmp .eq 6, 3) := dAX7_bestOf_1.2.2.2.2.2.2.2
set_option maxRecDepth 100000 in
theorem dAX7_bestOf_2 : decode cX7_bestOf 26 = .ok (.bipush (-2), 2) ∧ decode cX7_bestOf 28 = .ok (.ireturn, 1) ∧ decode cX7_bestOf 29 = .ok (.iconst 0, 1) ∧ decode cX7_bestOf 30 = .ok (.istore_n 2, 1) ∧ decode cX7_bestOf 31 = .ok (.aload_n 0, 1) ∧ decode cX7_bestOf 32 = .ok (.aload_n 0, 1) ∧ decode cX7_bestOf 33 = .ok (.getfield 32, 3) ∧ decode cX7_bestOf 36 = .ok (.aload_n 0, 1) := by decide +kernel
theorem dX7_bestOf_26 : decode cX7_bestOf 26 = .ok (.bipush (-2), 2) := dAX7_bestOf_2.1
theorem dX7_bestOf_28 : decode cX7_bestOf 28 = .ok (.ireturn, 1) := dAX7_bestOf_2.2.1
theorem dX7_bestOf_29 : decode cX7_bestOf 29 = .ok (.iconst 0, 1) := dAX7_bestOf_2.2.2.1
theorem dX7_bestOf_30 : decode cX7_bestOf 30 = .ok (.istore_n 2, 1) := dAX7_bestOf_2.2.2.2.1
theorem dX7_bestOf_31 : decode cX7_bestOf 31 = .ok (.aload_n 0, 1) := dAX7_bestOf_2.2.2.2.2.1
theorem dX7_bestOf_32 : decode cX7_bestOf 32 = .ok (.aload_n 0, 1) := dAX7_bestOf_2.2.2.2.2.2.1
theorem dX7_bestOf_33 : decode cX7_bestOf 33 = .ok (.getfield 32, 3) := dAX7_bestOf_2.2.2.2.2.2.2.1
theorem dX7_bestOf_36 : decode cX7_bestOf 36 = .ok (.aload_n 0, 1) := dAX7_bestOf_2.2.2.2.2.2.2.2
set_option maxRecDepth 100000 in
theorem dAX7_bestOf_3 : decode cX7_bestOf 37 = .ok (.getfield 32, 3) ∧ decode cX7_bestOf 40 = .ok (.iconst 4, 1) ∧ decode cX7_bestOf 41 = .ok (.iload_n 1, 1) ∧ decode cX7_bestOf 42 = .ok (.imul, 1) ∧ decode cX7_bestOf 43 = .ok (.iload_n 2, 1) ∧ decode cX7_bestOf 44 = .ok (.iadd, 1) ∧ decode cX7_bestOf 45 = .ok (.iaload, 1) ∧ decode cX7_bestOf 46 = .ok (.invokevirtual 254, 3) := by decide +kernel
theorem dX7_bestOf_37 : decode cX7_bestOf 37 = .ok (.getfield 32, 3) := dAX7_bestOf_3.1
theorem dX7_bestOf_40 : decode cX7_bestOf 40 = .ok (.iconst 4, 1) := dAX7_bestOf_3.2.1
theorem dX7_bestOf_41 : decode cX7_bestOf 41 = .ok (.iload_n 1, 1) := dAX7_bestOf_3.2.2.1
theorem dX7_bestOf_42 : decode cX7_bestOf 42 = .ok (.imul, 1) := dAX7_bestOf_3.2.2.2.1
theorem dX7_bestOf_43 : decode cX7_bestOf 43 = .ok (.iload_n 2, 1) := dAX7_bestOf_3.2.2.2.2.1
theorem dX7_bestOf_44 : decode cX7_bestOf 44 = .ok (.iadd, 1) := dAX7_bestOf_3.2.2.2.2.2.1
theorem dX7_bestOf_45 : decode cX7_bestOf 45 = .ok (.iaload, 1) := dAX7_bestOf_3.2.2.2.2.2.2.1
theorem dX7_bestOf_46 : decode cX7_bestOf 46 = .ok (.invokevirtual 254, 3) := dAX7_bestOf_3.2.2.2.2.2.2.2
set_option maxRecDepth 100000 in
theorem dAX7_bestOf_4 : decode cX7_bestOf 49 = .ok (.aload_n 0, 1) ∧ decode cX7_bestOf 50 = .ok (.aload_n 0, 1) ∧ decode cX7_bestOf 51 = .ok (.getfield 32, 3) ∧ decode cX7_bestOf 54 = .ok (.iload_n 1, 1) ∧ decode cX7_bestOf 55 = .ok (.invokevirtual 254, 3) ∧ decode cX7_bestOf 58 = .ok (.if_icmp .eq 9, 3) ∧ decode cX7_bestOf 61 = .ok (.iinc 2 1, 3) ∧ decode cX7_bestOf 64 = .ok (.goto (-33), 3) := by decide +kernel
theorem dX7_bestOf_49 : decode cX7_bestOf 49 = .ok (.aload_n 0, 1) := dAX7_bestOf_4.1
theorem dX7_bestOf_50 : decode cX7_bestOf 50 = .ok (.aload_n 0, 1) := dAX7_bestOf_4.2.1
theorem dX7_bestOf_51 : decode cX7_bestOf 51 = .ok (.getfield 32, 3) := dAX7_bestOf_4.2.2.1
theorem dX7_bestOf_54 : decode cX7_bestOf 54 = .ok (.iload_n 1, 1) := dAX7_bestOf_4.2.2.2.1
theorem dX7_bestOf_55 : decode cX7_bestOf 55 = .ok (.invokevirtual 254, 3) := dAX7_bestOf_4.2.2.2.2.1
theorem dX7_bestOf_58 : decode cX7_bestOf 58 = .ok (.if_icmp .eq 9, 3) := dAX7_bestOf_4.2.2.2.2.2.1
theorem dX7_bestOf_61 : decode cX7_bestOf 61 = .ok (.iinc 2 1, 3) := dAX7_bestOf_4.2.2.2.2.2.2.1
theorem dX7_bestOf_64 : decode cX7_bestOf 64 = .ok (.goto (-33), 3) := dAX7_bestOf_4.2.2.2.2.2.2.2
set_option maxRecDepth 100000 in
theorem dAX7_bestOf_5 : decode cX7_bestOf 67 = .ok (.aload_n 0, 1) ∧ decode cX7_bestOf 68 = .ok (.getfield 32, 3) ∧ decode cX7_bestOf 71 = .ok (.iconst 4, 1) ∧ decode cX7_bestOf 72 = .ok (.iload_n 1, 1) ∧ decode cX7_bestOf 73 = .ok (.imul, 1) ∧ decode cX7_bestOf 74 = .ok (.iload_n 2, 1) ∧ decode cX7_bestOf 75 = .ok (.iadd, 1) ∧ decode cX7_bestOf 76 = .ok (.iaload, 1) := by decide +kernel
theorem dX7_bestOf_67 : decode cX7_bestOf 67 = .ok (.aload_n 0, 1) := dAX7_bestOf_5.1
theorem dX7_bestOf_68 : decode cX7_bestOf 68 = .ok (.getfield 32, 3) := dAX7_bestOf_5.2.1
theorem dX7_bestOf_71 : decode cX7_bestOf 71 = .ok (.iconst 4, 1) := dAX7_bestOf_5.2.2.1
theorem dX7_bestOf_72 : decode cX7_bestOf 72 = .ok (.iload_n 1, 1) := dAX7_bestOf_5.2.2.2.1
theorem dX7_bestOf_73 : decode cX7_bestOf 73 = .ok (.imul, 1) := dAX7_bestOf_5.2.2.2.2.1
theorem dX7_bestOf_74 : decode cX7_bestOf 74 = .ok (.iload_n 2, 1) := dAX7_bestOf_5.2.2.2.2.2.1
theorem dX7_bestOf_75 : decode cX7_bestOf 75 = .ok (.iadd, 1) := dAX7_bestOf_5.2.2.2.2.2.2.1
theorem dX7_bestOf_76 : decode cX7_bestOf 76 = .ok (.iaload, 1) := dAX7_bestOf_5.2.2.2.2.2.2.2
theorem dX7_bestOf_77 : decode cX7_bestOf 77 = .ok (.ireturn, 1) := by decide +kernel
set_option maxRecDepth 100000 in
theorem dAX7_boundWhy_0 : decode cX7_boundWhy 0 = .ok (.aload_n 0, 1) ∧ decode cX7_boundWhy 1 = .ok (.getfield 187, 3) ∧ decode cX7_boundWhy 4 = .ok (.ifCond .ne 7, 3) ∧ decode cX7_boundWhy 7 = .ok (.iconst 1, 1) ∧ decode cX7_boundWhy 8 = .ok (.goto 33, 3) ∧ decode cX7_boundWhy 11 = .ok (.iload_n 1, 1) ∧ decode cX7_boundWhy 12 = .ok (.iconst 0, 1) ∧ decode cX7_boundWhy 13 = .ok (.bipush 99, 2) := by decide +kernel
theorem dX7_boundWhy_0 : decode cX7_boundWhy 0 = .ok (.aload_n 0, 1) := dAX7_boundWhy_0.1
theorem dX7_boundWhy_1 : decode cX7_boundWhy 1 = .ok (.getfield 187, 3) := dAX7_boundWhy_0.2.1
theorem dX7_boundWhy_4 : decode cX7_boundWhy 4 = .ok (.ifCond .ne 7, 3) := dAX7_boundWhy_0.2.2.1
theorem dX7_boundWhy_7 : decode cX7_boundWhy 7 = .ok (.iconst 1, 1) := dAX7_boundWhy_0.2.2.2.1
theorem dX7_boundWhy_8 : decode cX7_boundWhy 8 = .ok (.goto 33, 3) := dAX7_boundWhy_0.2.2.2.2.1
theorem dX7_boundWhy_11 : decode cX7_boundWhy 11 = .ok (.iload_n 1, 1) := dAX7_boundWhy_0.2.2.2.2.2.1
theorem dX7_boundWhy_12 : decode cX7_boundWhy 12 = .ok (.iconst 0, 1) := dAX7_boundWhy_0.2.2.2.2.2.2.1
theorem dX7_boundWhy_13 : decode cX7_boundWhy 13 = .ok (.bipush 99, 2) := dAX7_boundWhy_0.2.2.2.2.2.2.2
set_option maxRecDepth 100000 in
theorem dAX7_boundWhy_1 : decode cX7_boundWhy 15 = .ok (.invokestatic 163, 3) ∧ decode cX7_boundWhy 18 = .ok (.ifCond .eq 22, 3) ∧ decode cX7_boundWhy 21 = .ok (.iload_n 2, 1) ∧ decode cX7_boundWhy 22 = .ok (.iconst 0, 1) ∧ decode cX7_boundWhy 23 = .ok (.bipush 99, 2) ∧ decode cX7_boundWhy 25 = .ok (.invokestatic 163, 3) ∧ decode cX7_boundWhy 28 = .ok (.ifCond .eq 12, 3) ∧ decode cX7_boundWhy 31 = .ok (.iload_n 1, 1) := by decide +kernel
theorem dX7_boundWhy_15 : decode cX7_boundWhy 15 = .ok (.invokestatic 163, 3) := dAX7_boundWhy_1.1
theorem dX7_boundWhy_18 : decode cX7_boundWhy 18 = .ok (.ifCond .eq 22, 3) := dAX7_boundWhy_1.2.1
theorem dX7_boundWhy_21 : decode cX7_boundWhy 21 = .ok (.iload_n 2, 1) := dAX7_boundWhy_1.2.2.1
theorem dX7_boundWhy_22 : decode cX7_boundWhy 22 = .ok (.iconst 0, 1) := dAX7_boundWhy_1.2.2.2.1
theorem dX7_boundWhy_23 : decode cX7_boundWhy 23 = .ok (.bipush 99, 2) := dAX7_boundWhy_1.2.2.2.2.1
theorem dX7_boundWhy_25 : decode cX7_boundWhy 25 = .ok (.invokestatic 163, 3) := dAX7_boundWhy_1.2.2.2.2.2.1
theorem dX7_boundWhy_28 : decode cX7_boundWhy 28 = .ok (.ifCond .eq 12, 3) := dAX7_boundWhy_1.2.2.2.2.2.2.1
theorem dX7_boundWhy_31 : decode cX7_boundWhy 31 = .ok (.iload_n 1, 1) := dAX7_boundWhy_1.2.2.2.2.2.2.2
set_option maxRecDepth 100000 in
theorem dAX7_boundWhy_2 : decode cX7_boundWhy 32 = .ok (.iload_n 2, 1) ∧ decode cX7_boundWhy 33 = .ok (.if_icmp .ge 7, 3) ∧ decode cX7_boundWhy 36 = .ok (.iconst 0, 1) ∧ decode cX7_boundWhy 37 = .ok (.goto 4, 3) ∧ decode cX7_boundWhy 40 = .ok (.iconst 2, 1) ∧ decode cX7_boundWhy 41 = .ok (.ireturn, 1) := by decide +kernel
theorem dX7_boundWhy_32 : decode cX7_boundWhy 32 = .ok (.iload_n 2, 1) := dAX7_boundWhy_2.1
theorem dX7_boundWhy_33 : decode cX7_boundWhy 33 = .ok (.if_icmp .ge 7, 3) := dAX7_boundWhy_2.2.1
theorem dX7_boundWhy_36 : decode cX7_boundWhy 36 = .ok (.iconst 0, 1) := dAX7_boundWhy_2.2.2.1
theorem dX7_boundWhy_37 : decode cX7_boundWhy 37 = .ok (.goto 4, 3) := dAX7_boundWhy_2.2.2.2.1
theorem dX7_boundWhy_40 : decode cX7_boundWhy 40 = .ok (.iconst 2, 1) := dAX7_boundWhy_2.2.2.2.2.1
theorem dX7_boundWhy_41 : decode cX7_boundWhy 41 = .ok (.ireturn, 1) := dAX7_boundWhy_2.2.2.2.2.2
set_option maxRecDepth 100000 in
theorem dAX7_breathsBy_0 : decode cX7_breathsBy 0 = .ok (.aload_n 0, 1) ∧ decode cX7_breathsBy 1 = .ok (.aload_n 1, 1) ∧ decode cX7_breathsBy 2 = .ok (.ldc 246, 2) ∧ decode cX7_breathsBy 4 = .ok (.ldc 245, 2) ∧ decode cX7_breathsBy 6 = .ok (.invokevirtual 271, 3) ∧ decode cX7_breathsBy 9 = .ok (.pop, 1) ∧ decode cX7_breathsBy 10 = .ok (.aload_n 0, 1) ∧ decode cX7_breathsBy 11 = .ok (.getfield 258, 3) := by decide +kernel
theorem dX7_breathsBy_0 : decode cX7_breathsBy 0 = .ok (.aload_n 0, 1) := dAX7_breathsBy_0.1
theorem dX7_breathsBy_1 : decode cX7_breathsBy 1 = .ok (.aload_n 1, 1) := dAX7_breathsBy_0.2.1
theorem dX7_breathsBy_2 : decode cX7_breathsBy 2 = .ok (.ldc 246, 2) := dAX7_breathsBy_0.2.2.1
theorem dX7_breathsBy_4 : decode cX7_breathsBy 4 = .ok (.ldc 245, 2) := dAX7_breathsBy_0.2.2.2.1
theorem dX7_breathsBy_6 : decode cX7_breathsBy 6 = .ok (.invokevirtual 271, 3) := dAX7_breathsBy_0.2.2.2.2.1
theorem dX7_breathsBy_9 : decode cX7_breathsBy 9 = .ok (.pop, 1) := dAX7_breathsBy_0.2.2.2.2.2.1
theorem dX7_breathsBy_10 : decode cX7_breathsBy 10 = .ok (.aload_n 0, 1) := dAX7_breathsBy_0.2.2.2.2.2.2.1
theorem dX7_breathsBy_11 : decode cX7_breathsBy 11 = .ok (.getfield 258, 3) := dAX7_breathsBy_0.2.2.2.2.2.2.2
theorem dX7_breathsBy_14 : decode cX7_breathsBy 14 = .ok (.ireturn, 1) := by decide +kernel
set_option maxRecDepth 100000 in
theorem dAX7_copy_0 : decode cX7_copy 0 = .ok (.iconst 0, 1) ∧ decode cX7_copy 1 = .ok (.istore 5, 2) ∧ decode cX7_copy 3 = .ok (.iload 5, 2) ∧ decode cX7_copy 5 = .ok (.iload 4, 2) ∧ decode cX7_copy 7 = .ok (.if_icmp .ge 21, 3) ∧ decode cX7_copy 10 = .ok (.aload_n 2, 1) ∧ decode cX7_copy 11 = .ok (.iload_n 3, 1) ∧ decode cX7_copy 12 = .ok (.iload 5, 2) := by decide +kernel
theorem dX7_copy_0 : decode cX7_copy 0 = .ok (.iconst 0, 1) := dAX7_copy_0.1
theorem dX7_copy_1 : decode cX7_copy 1 = .ok (.istore 5, 2) := dAX7_copy_0.2.1
theorem dX7_copy_3 : decode cX7_copy 3 = .ok (.iload 5, 2) := dAX7_copy_0.2.2.1
theorem dX7_copy_5 : decode cX7_copy 5 = .ok (.iload 4, 2) := dAX7_copy_0.2.2.2.1
theorem dX7_copy_7 : decode cX7_copy 7 = .ok (.if_icmp .ge 21, 3) := dAX7_copy_0.2.2.2.2.1
theorem dX7_copy_10 : decode cX7_copy 10 = .ok (.aload_n 2, 1) := dAX7_copy_0.2.2.2.2.2.1
theorem dX7_copy_11 : decode cX7_copy 11 = .ok (.iload_n 3, 1) := dAX7_copy_0.2.2.2.2.2.2.1
theorem dX7_copy_12 : decode cX7_copy 12 = .ok (.iload 5, 2) := dAX7_copy_0.2.2.2.2.2.2.2
set_option maxRecDepth 100000 in
theorem dAX7_copy_1 : decode cX7_copy 14 = .ok (.iadd, 1) ∧ decode cX7_copy 15 = .ok (.aload_n 0, 1) ∧ decode cX7_copy 16 = .ok (.iload_n 1, 1) ∧ decode cX7_copy 17 = .ok (.iload 5, 2) ∧ decode cX7_copy 19 = .ok (.iadd, 1) ∧ decode cX7_copy 20 = .ok (.iaload, 1) ∧ decode cX7_copy 21 = .ok (.iastore, 1) ∧ decode cX7_copy 22 = .ok (.iinc 5 1, 3) := by decide +kernel
theorem dX7_copy_14 : decode cX7_copy 14 = .ok (.iadd, 1) := dAX7_copy_1.1
theorem dX7_copy_15 : decode cX7_copy 15 = .ok (.aload_n 0, 1) := dAX7_copy_1.2.1
theorem dX7_copy_16 : decode cX7_copy 16 = .ok (.iload_n 1, 1) := dAX7_copy_1.2.2.1
theorem dX7_copy_17 : decode cX7_copy 17 = .ok (.iload 5, 2) := dAX7_copy_1.2.2.2.1
theorem dX7_copy_19 : decode cX7_copy 19 = .ok (.iadd, 1) := dAX7_copy_1.2.2.2.2.1
theorem dX7_copy_20 : decode cX7_copy 20 = .ok (.iaload, 1) := dAX7_copy_1.2.2.2.2.2.1
theorem dX7_copy_21 : decode cX7_copy 21 = .ok (.iastore, 1) := dAX7_copy_1.2.2.2.2.2.2.1
theorem dX7_copy_22 : decode cX7_copy 22 = .ok (.iinc 5 1, 3) := dAX7_copy_1.2.2.2.2.2.2.2
set_option maxRecDepth 100000 in
theorem dAX7_copy_2 : decode cX7_copy 25 = .ok (.goto (-22), 3) ∧ decode cX7_copy 28 = .ok (.return_, 1) := by decide +kernel
theorem dX7_copy_25 : decode cX7_copy 25 = .ok (.goto (-22), 3) := dAX7_copy_2.1
theorem dX7_copy_28 : decode cX7_copy 28 = .ok (.return_, 1) := dAX7_copy_2.2
set_option maxRecDepth 100000 in
theorem dAX7_could_0 : decode cX7_could 0 = .ok (.aload_n 0, 1) ∧ decode cX7_could 1 = .ok (.invokevirtual 175, 3) ∧ decode cX7_could 4 = .ok (.aload_n 0, 1) ∧ decode cX7_could 5 = .ok (.getfield 187, 3) ∧ decode cX7_could 8 = .ok (.ifCond .ne 9, 3) ∧ decode cX7_could 11 = .ok (.aload_n 0, 1) ∧ decode cX7_could 12 = .ok (.iconst 1, 1) ∧ decode cX7_could 13 = .ok (.invokevirtual 178, 3) := by decide +kernel
theorem dX7_could_0 : decode cX7_could 0 = .ok (.aload_n 0, 1) := dAX7_could_0.1
theorem dX7_could_1 : decode cX7_could 1 = .ok (.invokevirtual 175, 3) := dAX7_could_0.2.1
theorem dX7_could_4 : decode cX7_could 4 = .ok (.aload_n 0, 1) := dAX7_could_0.2.2.1
theorem dX7_could_5 : decode cX7_could 5 = .ok (.getfield 187, 3) := dAX7_could_0.2.2.2.1
theorem dX7_could_8 : decode cX7_could 8 = .ok (.ifCond .ne 9, 3) := dAX7_could_0.2.2.2.2.1
theorem dX7_could_11 : decode cX7_could 11 = .ok (.aload_n 0, 1) := dAX7_could_0.2.2.2.2.2.1
theorem dX7_could_12 : decode cX7_could 12 = .ok (.iconst 1, 1) := dAX7_could_0.2.2.2.2.2.2.1
theorem dX7_could_13 : decode cX7_could 13 = .ok (.invokevirtual 178, 3) := dAX7_could_0.2.2.2.2.2.2.2
set_option maxRecDepth 100000 in
theorem dAX7_could_1 : decode cX7_could 16 = .ok (.ireturn, 1) ∧ decode cX7_could 17 = .ok (.aload_n 0, 1) ∧ decode cX7_could 18 = .ok (.iconst (-1), 1) ∧ decode cX7_could 19 = .ok (.invokevirtual 389, 3) ∧ decode cX7_could 22 = .ok (.pop, 1) ∧ decode cX7_could 23 = .ok (.aload_n 0, 1) ∧ decode cX7_could 24 = .ok (.getfield 380, 3) ∧ decode cX7_could 27 = .ok (.ireturn, 1) := by decide +kernel
theorem dX7_could_16 : decode cX7_could 16 = .ok (.ireturn, 1) := dAX7_could_1.1
theorem dX7_could_17 : decode cX7_could 17 = .ok (.aload_n 0, 1) := dAX7_could_1.2.1
theorem dX7_could_18 : decode cX7_could 18 = .ok (.iconst (-1), 1) := dAX7_could_1.2.2.1
theorem dX7_could_19 : decode cX7_could 19 = .ok (.invokevirtual 389, 3) := dAX7_could_1.2.2.2.1
theorem dX7_could_22 : decode cX7_could 22 = .ok (.pop, 1) := dAX7_could_1.2.2.2.2.1
theorem dX7_could_23 : decode cX7_could 23 = .ok (.aload_n 0, 1) := dAX7_could_1.2.2.2.2.2.1
theorem dX7_could_24 : decode cX7_could 24 = .ok (.getfield 380, 3) := dAX7_could_1.2.2.2.2.2.2.1
theorem dX7_could_27 : decode cX7_could 27 = .ok (.ireturn, 1) := dAX7_could_1.2.2.2.2.2.2.2
set_option maxRecDepth 100000 in
theorem dAX7_court_0 : decode cX7_court 0 = .ok (.aload_n 0, 1) ∧ decode cX7_court 1 = .ok (.invokevirtual 175, 3) ∧ decode cX7_court 4 = .ok (.iload_n 1, 1) ∧ decode cX7_court 5 = .ok (.iconst 0, 1) ∧ decode cX7_court 6 = .ok (.aload_n 0, 1) ∧ decode cX7_court 7 = .ok (.getfield 71, 3) ∧ decode cX7_court 10 = .ok (.invokestatic 163, 3) ∧ decode cX7_court 13 = .ok (.ifCond .ne 9, 3) := by decide +kernel
theorem dX7_court_0 : decode cX7_court 0 = .ok (.aload_n 0, 1) := dAX7_court_0.1
theorem dX7_court_1 : decode cX7_court 1 = .ok (.invokevirtual 175, 3) := dAX7_court_0.2.1
theorem dX7_court_4 : decode cX7_court 4 = .ok (.iload_n 1, 1) := dAX7_court_0.2.2.1
theorem dX7_court_5 : decode cX7_court 5 = .ok (.iconst 0, 1) := dAX7_court_0.2.2.2.1
theorem dX7_court_6 : decode cX7_court 6 = .ok (.aload_n 0, 1) := dAX7_court_0.2.2.2.2.1
theorem dX7_court_7 : decode cX7_court 7 = .ok (.getfield 71, 3) := dAX7_court_0.2.2.2.2.2.1
theorem dX7_court_10 : decode cX7_court 10 = .ok (.invokestatic 163, 3) := dAX7_court_0.2.2.2.2.2.2.1
theorem dX7_court_13 : decode cX7_court 13 = .ok (.ifCond .ne 9, 3) := dAX7_court_0.2.2.2.2.2.2.2
set_option maxRecDepth 100000 in
theorem dAX7_court_1 : decode cX7_court 16 = .ok (.aload_n 0, 1) ∧ decode cX7_court 17 = .ok (.iconst 2, 1) ∧ decode cX7_court 18 = .ok (.invokevirtual 178, 3) ∧ decode cX7_court 21 = .ok (.ireturn, 1) ∧ decode cX7_court 22 = .ok (.aload_n 0, 1) ∧ decode cX7_court 23 = .ok (.iconst 0, 1) ∧ decode cX7_court 24 = .ok (.putfield 71, 3) ∧ decode cX7_court 27 = .ok (.aload_n 0, 1) := by decide +kernel
theorem dX7_court_16 : decode cX7_court 16 = .ok (.aload_n 0, 1) := dAX7_court_1.1
theorem dX7_court_17 : decode cX7_court 17 = .ok (.iconst 2, 1) := dAX7_court_1.2.1
theorem dX7_court_18 : decode cX7_court 18 = .ok (.invokevirtual 178, 3) := dAX7_court_1.2.2.1
theorem dX7_court_21 : decode cX7_court 21 = .ok (.ireturn, 1) := dAX7_court_1.2.2.2.1
theorem dX7_court_22 : decode cX7_court 22 = .ok (.aload_n 0, 1) := dAX7_court_1.2.2.2.2.1
theorem dX7_court_23 : decode cX7_court 23 = .ok (.iconst 0, 1) := dAX7_court_1.2.2.2.2.2.1
theorem dX7_court_24 : decode cX7_court 24 = .ok (.putfield 71, 3) := dAX7_court_1.2.2.2.2.2.2.1
theorem dX7_court_27 : decode cX7_court 27 = .ok (.aload_n 0, 1) := dAX7_court_1.2.2.2.2.2.2.2
set_option maxRecDepth 100000 in
theorem dAX7_court_2 : decode cX7_court 28 = .ok (.iconst 0, 1) ∧ decode cX7_court 29 = .ok (.putfield 107, 3) ∧ decode cX7_court 32 = .ok (.aload_n 0, 1) ∧ decode cX7_court 33 = .ok (.iconst 0, 1) ∧ decode cX7_court 34 = .ok (.putfield 103, 3) ∧ decode cX7_court 37 = .ok (.iconst 0, 1) ∧ decode cX7_court 38 = .ok (.istore_n 2, 1) ∧ decode cX7_court 39 = .ok (.iload_n 2, 1) := by decide +kernel
theorem dX7_court_28 : decode cX7_court 28 = .ok (.iconst 0, 1) := dAX7_court_2.1
theorem dX7_court_29 : decode cX7_court 29 = .ok (.putfield 107, 3) := dAX7_court_2.2.1
theorem dX7_court_32 : decode cX7_court 32 = .ok (.aload_n 0, 1) := dAX7_court_2.2.2.1
theorem dX7_court_33 : decode cX7_court 33 = .ok (.iconst 0, 1) := dAX7_court_2.2.2.2.1
theorem dX7_court_34 : decode cX7_court 34 = .ok (.putfield 103, 3) := dAX7_court_2.2.2.2.2.1
theorem dX7_court_37 : decode cX7_court 37 = .ok (.iconst 0, 1) := dAX7_court_2.2.2.2.2.2.1
theorem dX7_court_38 : decode cX7_court 38 = .ok (.istore_n 2, 1) := dAX7_court_2.2.2.2.2.2.2.1
theorem dX7_court_39 : decode cX7_court 39 = .ok (.iload_n 2, 1) := dAX7_court_2.2.2.2.2.2.2.2
set_option maxRecDepth 100000 in
theorem dAX7_court_3 : decode cX7_court 40 = .ok (.sipush 287, 3) ∧ decode cX7_court 43 = .ok (.if_icmp .ge 16, 3) ∧ decode cX7_court 46 = .ok (.aload_n 0, 1) ∧ decode cX7_court 47 = .ok (.getfield 23, 3) ∧ decode cX7_court 50 = .ok (.iload_n 2, 1) ∧ decode cX7_court 51 = .ok (.iconst 0, 1) ∧ decode cX7_court 52 = .ok (.iastore, 1) ∧ decode cX7_court 53 = .ok (.iinc 2 1, 3) := by decide +kernel
theorem dX7_court_40 : decode cX7_court 40 = .ok (.sipush 287, 3) := dAX7_court_3.1
theorem dX7_court_43 : decode cX7_court 43 = .ok (.if_icmp .ge 16, 3) := dAX7_court_3.2.1
theorem dX7_court_46 : decode cX7_court 46 = .ok (.aload_n 0, 1) := dAX7_court_3.2.2.1
theorem dX7_court_47 : decode cX7_court 47 = .ok (.getfield 23, 3) := dAX7_court_3.2.2.2.1
theorem dX7_court_50 : decode cX7_court 50 = .ok (.iload_n 2, 1) := dAX7_court_3.2.2.2.2.1
theorem dX7_court_51 : decode cX7_court 51 = .ok (.iconst 0, 1) := dAX7_court_3.2.2.2.2.2.1
theorem dX7_court_52 : decode cX7_court 52 = .ok (.iastore, 1) := dAX7_court_3.2.2.2.2.2.2.1
theorem dX7_court_53 : decode cX7_court 53 = .ok (.iinc 2 1, 3) := dAX7_court_3.2.2.2.2.2.2.2
set_option maxRecDepth 100000 in
theorem dAX7_court_4 : decode cX7_court 56 = .ok (.goto (-17), 3) ∧ decode cX7_court 59 = .ok (.iconst 0, 1) ∧ decode cX7_court 60 = .ok (.istore_n 2, 1) ∧ decode cX7_court 61 = .ok (.iload_n 2, 1) ∧ decode cX7_court 62 = .ok (.bipush 90, 2) ∧ decode cX7_court 64 = .ok (.if_icmp .ge 16, 3) ∧ decode cX7_court 67 = .ok (.aload_n 0, 1) ∧ decode cX7_court 68 = .ok (.getfield 29, 3) := by decide +kernel
theorem dX7_court_56 : decode cX7_court 56 = .ok (.goto (-17), 3) := dAX7_court_4.1
theorem dX7_court_59 : decode cX7_court 59 = .ok (.iconst 0, 1) := dAX7_court_4.2.1
theorem dX7_court_60 : decode cX7_court 60 = .ok (.istore_n 2, 1) := dAX7_court_4.2.2.1
theorem dX7_court_61 : decode cX7_court 61 = .ok (.iload_n 2, 1) := dAX7_court_4.2.2.2.1
theorem dX7_court_62 : decode cX7_court 62 = .ok (.bipush 90, 2) := dAX7_court_4.2.2.2.2.1
theorem dX7_court_64 : decode cX7_court 64 = .ok (.if_icmp .ge 16, 3) := dAX7_court_4.2.2.2.2.2.1
theorem dX7_court_67 : decode cX7_court 67 = .ok (.aload_n 0, 1) := dAX7_court_4.2.2.2.2.2.2.1
theorem dX7_court_68 : decode cX7_court 68 = .ok (.getfield 29, 3) := dAX7_court_4.2.2.2.2.2.2.2
set_option maxRecDepth 100000 in
theorem dAX7_court_5 : decode cX7_court 71 = .ok (.iload_n 2, 1) ∧ decode cX7_court 72 = .ok (.iconst 0, 1) ∧ decode cX7_court 73 = .ok (.iastore, 1) ∧ decode cX7_court 74 = .ok (.iinc 2 1, 3) ∧ decode cX7_court 77 = .ok (.goto (-16), 3) ∧ decode cX7_court 80 = .ok (.aload_n 0, 1) ∧ decode cX7_court 81 = .ok (.getfield 23, 3) ∧ decode cX7_court 84 = .ok (.bipush 6, 2) := by decide +kernel
theorem dX7_court_71 : decode cX7_court 71 = .ok (.iload_n 2, 1) := dAX7_court_5.1
theorem dX7_court_72 : decode cX7_court 72 = .ok (.iconst 0, 1) := dAX7_court_5.2.1
theorem dX7_court_73 : decode cX7_court 73 = .ok (.iastore, 1) := dAX7_court_5.2.2.1
theorem dX7_court_74 : decode cX7_court 74 = .ok (.iinc 2 1, 3) := dAX7_court_5.2.2.2.1
theorem dX7_court_77 : decode cX7_court 77 = .ok (.goto (-16), 3) := dAX7_court_5.2.2.2.2.1
theorem dX7_court_80 : decode cX7_court 80 = .ok (.aload_n 0, 1) := dAX7_court_5.2.2.2.2.2.1
theorem dX7_court_81 : decode cX7_court 81 = .ok (.getfield 23, 3) := dAX7_court_5.2.2.2.2.2.2.1
theorem dX7_court_84 : decode cX7_court 84 = .ok (.bipush 6, 2) := dAX7_court_5.2.2.2.2.2.2.2
set_option maxRecDepth 100000 in
theorem dAX7_court_6 : decode cX7_court 86 = .ok (.iconst (-1), 1) ∧ decode cX7_court 87 = .ok (.iastore, 1) ∧ decode cX7_court 88 = .ok (.aload_n 0, 1) ∧ decode cX7_court 89 = .ok (.iload_n 1, 1) ∧ decode cX7_court 90 = .ok (.putfield 74, 3) ∧ decode cX7_court 93 = .ok (.aload_n 0, 1) ∧ decode cX7_court 94 = .ok (.iconst 0, 1) ∧ decode cX7_court 95 = .ok (.putfield 77, 3) := by decide +kernel
theorem dX7_court_86 : decode cX7_court 86 = .ok (.iconst (-1), 1) := dAX7_court_6.1
theorem dX7_court_87 : decode cX7_court 87 = .ok (.iastore, 1) := dAX7_court_6.2.1
theorem dX7_court_88 : decode cX7_court 88 = .ok (.aload_n 0, 1) := dAX7_court_6.2.2.1
theorem dX7_court_89 : decode cX7_court 89 = .ok (.iload_n 1, 1) := dAX7_court_6.2.2.2.1
theorem dX7_court_90 : decode cX7_court 90 = .ok (.putfield 74, 3) := dAX7_court_6.2.2.2.2.1
theorem dX7_court_93 : decode cX7_court 93 = .ok (.aload_n 0, 1) := dAX7_court_6.2.2.2.2.2.1
theorem dX7_court_94 : decode cX7_court 94 = .ok (.iconst 0, 1) := dAX7_court_6.2.2.2.2.2.2.1
theorem dX7_court_95 : decode cX7_court 95 = .ok (.putfield 77, 3) := dAX7_court_6.2.2.2.2.2.2.2
set_option maxRecDepth 100000 in
theorem dAX7_court_7 : decode cX7_court 98 = .ok (.aload_n 0, 1) ∧ decode cX7_court 99 = .ok (.invokevirtual 124, 3) ∧ decode cX7_court 102 = .ok (.aload_n 0, 1) ∧ decode cX7_court 103 = .ok (.invokevirtual 181, 3) ∧ decode cX7_court 106 = .ok (.aload_n 0, 1) ∧ decode cX7_court 107 = .ok (.getfield 103, 3) ∧ decode cX7_court 110 = .ok (.ifCond .ne 23, 3) ∧ decode cX7_court 113 = .ok (.aload_n 0, 1) := by decide +kernel
theorem dX7_court_98 : decode cX7_court 98 = .ok (.aload_n 0, 1) := dAX7_court_7.1
theorem dX7_court_99 : decode cX7_court 99 = .ok (.invokevirtual 124, 3) := dAX7_court_7.2.1
theorem dX7_court_102 : decode cX7_court 102 = .ok (.aload_n 0, 1) := dAX7_court_7.2.2.1
theorem dX7_court_103 : decode cX7_court 103 = .ok (.invokevirtual 181, 3) := dAX7_court_7.2.2.2.1
theorem dX7_court_106 : decode cX7_court 106 = .ok (.aload_n 0, 1) := dAX7_court_7.2.2.2.2.1
theorem dX7_court_107 : decode cX7_court 107 = .ok (.getfield 103, 3) := dAX7_court_7.2.2.2.2.2.1
theorem dX7_court_110 : decode cX7_court 110 = .ok (.ifCond .ne 23, 3) := dAX7_court_7.2.2.2.2.2.2.1
theorem dX7_court_113 : decode cX7_court 113 = .ok (.aload_n 0, 1) := dAX7_court_7.2.2.2.2.2.2.2
set_option maxRecDepth 100000 in
theorem dAX7_court_8 : decode cX7_court 114 = .ok (.getfield 93, 3) ∧ decode cX7_court 117 = .ok (.bipush 59, 2) ∧ decode cX7_court 119 = .ok (.if_icmp .ne 14, 3) ∧ decode cX7_court 122 = .ok (.aload_n 0, 1) ∧ decode cX7_court 123 = .ok (.invokevirtual 124, 3) ∧ decode cX7_court 126 = .ok (.aload_n 0, 1) ∧ decode cX7_court 127 = .ok (.invokevirtual 181, 3) ∧ decode cX7_court 130 = .ok (.goto (-24), 3) := by decide +kernel
theorem dX7_court_114 : decode cX7_court 114 = .ok (.getfield 93, 3) := dAX7_court_8.1
theorem dX7_court_117 : decode cX7_court 117 = .ok (.bipush 59, 2) := dAX7_court_8.2.1
theorem dX7_court_119 : decode cX7_court 119 = .ok (.if_icmp .ne 14, 3) := dAX7_court_8.2.2.1
theorem dX7_court_122 : decode cX7_court 122 = .ok (.aload_n 0, 1) := dAX7_court_8.2.2.2.1
theorem dX7_court_123 : decode cX7_court 123 = .ok (.invokevirtual 124, 3) := dAX7_court_8.2.2.2.2.1
theorem dX7_court_126 : decode cX7_court 126 = .ok (.aload_n 0, 1) := dAX7_court_8.2.2.2.2.2.1
theorem dX7_court_127 : decode cX7_court 127 = .ok (.invokevirtual 181, 3) := dAX7_court_8.2.2.2.2.2.2.1
theorem dX7_court_130 : decode cX7_court 130 = .ok (.goto (-24), 3) := dAX7_court_8.2.2.2.2.2.2.2
set_option maxRecDepth 100000 in
theorem dAX7_court_9 : decode cX7_court 133 = .ok (.aload_n 0, 1) ∧ decode cX7_court 134 = .ok (.getfield 103, 3) ∧ decode cX7_court 137 = .ok (.ifCond .ne 19, 3) ∧ decode cX7_court 140 = .ok (.aload_n 0, 1) ∧ decode cX7_court 141 = .ok (.getfield 93, 3) ∧ decode cX7_court 144 = .ok (.ifCond .eq 12, 3) ∧ decode cX7_court 147 = .ok (.aload_n 0, 1) ∧ decode cX7_court 148 = .ok (.iconst 1, 1) := by decide +kernel
theorem dX7_court_133 : decode cX7_court 133 = .ok (.aload_n 0, 1) := dAX7_court_9.1
theorem dX7_court_134 : decode cX7_court 134 = .ok (.getfield 103, 3) := dAX7_court_9.2.1
theorem dX7_court_137 : decode cX7_court 137 = .ok (.ifCond .ne 19, 3) := dAX7_court_9.2.2.1
theorem dX7_court_140 : decode cX7_court 140 = .ok (.aload_n 0, 1) := dAX7_court_9.2.2.2.1
theorem dX7_court_141 : decode cX7_court 141 = .ok (.getfield 93, 3) := dAX7_court_9.2.2.2.2.1
theorem dX7_court_144 : decode cX7_court 144 = .ok (.ifCond .eq 12, 3) := dAX7_court_9.2.2.2.2.2.1
theorem dX7_court_147 : decode cX7_court 147 = .ok (.aload_n 0, 1) := dAX7_court_9.2.2.2.2.2.2.1
theorem dX7_court_148 : decode cX7_court 148 = .ok (.iconst 1, 1) := dAX7_court_9.2.2.2.2.2.2.2
set_option maxRecDepth 100000 in
theorem dAX7_court_10 : decode cX7_court 149 = .ok (.aload_n 0, 1) ∧ decode cX7_court 150 = .ok (.getfield 84, 3) ∧ decode cX7_court 153 = .ok (.invokevirtual 130, 3) ∧ decode cX7_court 156 = .ok (.aload_n 0, 1) ∧ decode cX7_court 157 = .ok (.getfield 103, 3) ∧ decode cX7_court 160 = .ok (.ifCond .ne 31, 3) ∧ decode cX7_court 163 = .ok (.aload_n 0, 1) ∧ decode cX7_court 164 = .ok (.getfield 23, 3) := by decide +kernel
theorem dX7_court_149 : decode cX7_court 149 = .ok (.aload_n 0, 1) := dAX7_court_10.1
theorem dX7_court_150 : decode cX7_court 150 = .ok (.getfield 84, 3) := dAX7_court_10.2.1
theorem dX7_court_153 : decode cX7_court 153 = .ok (.invokevirtual 130, 3) := dAX7_court_10.2.2.1
theorem dX7_court_156 : decode cX7_court 156 = .ok (.aload_n 0, 1) := dAX7_court_10.2.2.2.1
theorem dX7_court_157 : decode cX7_court 157 = .ok (.getfield 103, 3) := dAX7_court_10.2.2.2.2.1
theorem dX7_court_160 : decode cX7_court 160 = .ok (.ifCond .ne 31, 3) := dAX7_court_10.2.2.2.2.2.1
theorem dX7_court_163 : decode cX7_court 163 = .ok (.aload_n 0, 1) := dAX7_court_10.2.2.2.2.2.2.1
theorem dX7_court_164 : decode cX7_court 164 = .ok (.getfield 23, 3) := dAX7_court_10.2.2.2.2.2.2.2
set_option maxRecDepth 100000 in
theorem dAX7_court_11 : decode cX7_court 167 = .ok (.iconst 5, 1) ∧ decode cX7_court 168 = .ok (.iaload, 1) ∧ decode cX7_court 169 = .ok (.ifCond .eq 12, 3) ∧ decode cX7_court 172 = .ok (.aload_n 0, 1) ∧ decode cX7_court 173 = .ok (.getfield 23, 3) ∧ decode cX7_court 176 = .ok (.iconst 2, 1) ∧ decode cX7_court 177 = .ok (.iaload, 1) ∧ decode cX7_court 178 = .ok (.ifCond .ne 13, 3) := by decide +kernel
theorem dX7_court_167 : decode cX7_court 167 = .ok (.iconst 5, 1) := dAX7_court_11.1
theorem dX7_court_168 : decode cX7_court 168 = .ok (.iaload, 1) := dAX7_court_11.2.1
theorem dX7_court_169 : decode cX7_court 169 = .ok (.ifCond .eq 12, 3) := dAX7_court_11.2.2.1
theorem dX7_court_172 : decode cX7_court 172 = .ok (.aload_n 0, 1) := dAX7_court_11.2.2.2.1
theorem dX7_court_173 : decode cX7_court 173 = .ok (.getfield 23, 3) := dAX7_court_11.2.2.2.2.1
theorem dX7_court_176 : decode cX7_court 176 = .ok (.iconst 2, 1) := dAX7_court_11.2.2.2.2.2.1
theorem dX7_court_177 : decode cX7_court 177 = .ok (.iaload, 1) := dAX7_court_11.2.2.2.2.2.2.1
theorem dX7_court_178 : decode cX7_court 178 = .ok (.ifCond .ne 13, 3) := dAX7_court_11.2.2.2.2.2.2.2
set_option maxRecDepth 100000 in
theorem dAX7_court_12 : decode cX7_court 181 = .ok (.aload_n 0, 1) ∧ decode cX7_court 182 = .ok (.bipush 6, 2) ∧ decode cX7_court 184 = .ok (.aload_n 0, 1) ∧ decode cX7_court 185 = .ok (.getfield 84, 3) ∧ decode cX7_court 188 = .ok (.invokevirtual 130, 3) ∧ decode cX7_court 191 = .ok (.aload_n 0, 1) ∧ decode cX7_court 192 = .ok (.getfield 103, 3) ∧ decode cX7_court 195 = .ok (.ifCond .eq 9, 3) := by decide +kernel
theorem dX7_court_181 : decode cX7_court 181 = .ok (.aload_n 0, 1) := dAX7_court_12.1
theorem dX7_court_182 : decode cX7_court 182 = .ok (.bipush 6, 2) := dAX7_court_12.2.1
theorem dX7_court_184 : decode cX7_court 184 = .ok (.aload_n 0, 1) := dAX7_court_12.2.2.1
theorem dX7_court_185 : decode cX7_court 185 = .ok (.getfield 84, 3) := dAX7_court_12.2.2.2.1
theorem dX7_court_188 : decode cX7_court 188 = .ok (.invokevirtual 130, 3) := dAX7_court_12.2.2.2.2.1
theorem dX7_court_191 : decode cX7_court 191 = .ok (.aload_n 0, 1) := dAX7_court_12.2.2.2.2.2.1
theorem dX7_court_192 : decode cX7_court 192 = .ok (.getfield 103, 3) := dAX7_court_12.2.2.2.2.2.2.1
theorem dX7_court_195 : decode cX7_court 195 = .ok (.ifCond .eq 9, 3) := dAX7_court_12.2.2.2.2.2.2.2
set_option maxRecDepth 100000 in
theorem dAX7_court_13 : decode cX7_court 198 = .ok (.aload_n 0, 1) ∧ decode cX7_court 199 = .ok (.iconst 4, 1) ∧ decode cX7_court 200 = .ok (.invokevirtual 178, 3) ∧ decode cX7_court 203 = .ok (.ireturn, 1) ∧ decode cX7_court 204 = .ok (.aload_n 0, 1) ∧ decode cX7_court 205 = .ok (.getfield 23, 3) ∧ decode cX7_court 208 = .ok (.bipush 6, 2) ∧ decode cX7_court 210 = .ok (.iaload, 1) := by decide +kernel
theorem dX7_court_198 : decode cX7_court 198 = .ok (.aload_n 0, 1) := dAX7_court_13.1
theorem dX7_court_199 : decode cX7_court 199 = .ok (.iconst 4, 1) := dAX7_court_13.2.1
theorem dX7_court_200 : decode cX7_court 200 = .ok (.invokevirtual 178, 3) := dAX7_court_13.2.2.1
theorem dX7_court_203 : decode cX7_court 203 = .ok (.ireturn, 1) := dAX7_court_13.2.2.2.1
theorem dX7_court_204 : decode cX7_court 204 = .ok (.aload_n 0, 1) := dAX7_court_13.2.2.2.2.1
theorem dX7_court_205 : decode cX7_court 205 = .ok (.getfield 23, 3) := dAX7_court_13.2.2.2.2.2.1
theorem dX7_court_208 : decode cX7_court 208 = .ok (.bipush 6, 2) := dAX7_court_13.2.2.2.2.2.2.1
theorem dX7_court_210 : decode cX7_court 210 = .ok (.iaload, 1) := dAX7_court_13.2.2.2.2.2.2.2
set_option maxRecDepth 100000 in
theorem dAX7_court_14 : decode cX7_court 211 = .ok (.ifCond .ge 18, 3) ∧ decode cX7_court 214 = .ok (.aload_n 0, 1) ∧ decode cX7_court 215 = .ok (.getfield 23, 3) ∧ decode cX7_court 218 = .ok (.bipush 6, 2) ∧ decode cX7_court 220 = .ok (.aload_n 0, 1) ∧ decode cX7_court 221 = .ok (.getfield 23, 3) ∧ decode cX7_court 224 = .ok (.iconst 1, 1) ∧ decode cX7_court 225 = .ok (.iaload, 1) := by decide +kernel
theorem dX7_court_211 : decode cX7_court 211 = .ok (.ifCond .ge 18, 3) := dAX7_court_14.1
theorem dX7_court_214 : decode cX7_court 214 = .ok (.aload_n 0, 1) := dAX7_court_14.2.1
theorem dX7_court_215 : decode cX7_court 215 = .ok (.getfield 23, 3) := dAX7_court_14.2.2.1
theorem dX7_court_218 : decode cX7_court 218 = .ok (.bipush 6, 2) := dAX7_court_14.2.2.2.1
theorem dX7_court_220 : decode cX7_court 220 = .ok (.aload_n 0, 1) := dAX7_court_14.2.2.2.2.1
theorem dX7_court_221 : decode cX7_court 221 = .ok (.getfield 23, 3) := dAX7_court_14.2.2.2.2.2.1
theorem dX7_court_224 : decode cX7_court 224 = .ok (.iconst 1, 1) := dAX7_court_14.2.2.2.2.2.2.1
theorem dX7_court_225 : decode cX7_court 225 = .ok (.iaload, 1) := dAX7_court_14.2.2.2.2.2.2.2
set_option maxRecDepth 100000 in
theorem dAX7_court_15 : decode cX7_court 226 = .ok (.iconst 1, 1) ∧ decode cX7_court 227 = .ok (.isub, 1) ∧ decode cX7_court 228 = .ok (.iastore, 1) ∧ decode cX7_court 229 = .ok (.aload_n 0, 1) ∧ decode cX7_court 230 = .ok (.getfield 23, 3) ∧ decode cX7_court 233 = .ok (.iconst 0, 1) ∧ decode cX7_court 234 = .ok (.aload_n 0, 1) ∧ decode cX7_court 235 = .ok (.getfield 20, 3) := by decide +kernel
theorem dX7_court_226 : decode cX7_court 226 = .ok (.iconst 1, 1) := dAX7_court_15.1
theorem dX7_court_227 : decode cX7_court 227 = .ok (.isub, 1) := dAX7_court_15.2.1
theorem dX7_court_228 : decode cX7_court 228 = .ok (.iastore, 1) := dAX7_court_15.2.2.1
theorem dX7_court_229 : decode cX7_court 229 = .ok (.aload_n 0, 1) := dAX7_court_15.2.2.2.1
theorem dX7_court_230 : decode cX7_court 230 = .ok (.getfield 23, 3) := dAX7_court_15.2.2.2.2.1
theorem dX7_court_233 : decode cX7_court 233 = .ok (.iconst 0, 1) := dAX7_court_15.2.2.2.2.2.1
theorem dX7_court_234 : decode cX7_court 234 = .ok (.aload_n 0, 1) := dAX7_court_15.2.2.2.2.2.2.1
theorem dX7_court_235 : decode cX7_court 235 = .ok (.getfield 20, 3) := dAX7_court_15.2.2.2.2.2.2.2
set_option maxRecDepth 100000 in
theorem dAX7_court_16 : decode cX7_court 238 = .ok (.iconst 0, 1) ∧ decode cX7_court 239 = .ok (.sipush 287, 3) ∧ decode cX7_court 242 = .ok (.invokestatic 156, 3) ∧ decode cX7_court 245 = .ok (.aload_n 0, 1) ∧ decode cX7_court 246 = .ok (.getfield 29, 3) ∧ decode cX7_court 249 = .ok (.iconst 0, 1) ∧ decode cX7_court 250 = .ok (.aload_n 0, 1) ∧ decode cX7_court 251 = .ok (.getfield 26, 3) := by decide +kernel
theorem dX7_court_238 : decode cX7_court 238 = .ok (.iconst 0, 1) := dAX7_court_16.1
theorem dX7_court_239 : decode cX7_court 239 = .ok (.sipush 287, 3) := dAX7_court_16.2.1
theorem dX7_court_242 : decode cX7_court 242 = .ok (.invokestatic 156, 3) := dAX7_court_16.2.2.1
theorem dX7_court_245 : decode cX7_court 245 = .ok (.aload_n 0, 1) := dAX7_court_16.2.2.2.1
theorem dX7_court_246 : decode cX7_court 246 = .ok (.getfield 29, 3) := dAX7_court_16.2.2.2.2.1
theorem dX7_court_249 : decode cX7_court 249 = .ok (.iconst 0, 1) := dAX7_court_16.2.2.2.2.2.1
theorem dX7_court_250 : decode cX7_court 250 = .ok (.aload_n 0, 1) := dAX7_court_16.2.2.2.2.2.2.1
theorem dX7_court_251 : decode cX7_court 251 = .ok (.getfield 26, 3) := dAX7_court_16.2.2.2.2.2.2.2
set_option maxRecDepth 100000 in
theorem dAX7_court_17 : decode cX7_court 254 = .ok (.iconst 0, 1) ∧ decode cX7_court 255 = .ok (.bipush 90, 2) ∧ decode cX7_court 257 = .ok (.invokestatic 156, 3) ∧ decode cX7_court 260 = .ok (.aload_n 0, 1) ∧ decode cX7_court 261 = .ok (.getfield 29, 3) ∧ decode cX7_court 264 = .ok (.iconst 0, 1) ∧ decode cX7_court 265 = .ok (.aload_n 0, 1) ∧ decode cX7_court 266 = .ok (.getfield 32, 3) := by decide +kernel
theorem dX7_court_254 : decode cX7_court 254 = .ok (.iconst 0, 1) := dAX7_court_17.1
theorem dX7_court_255 : decode cX7_court 255 = .ok (.bipush 90, 2) := dAX7_court_17.2.1
theorem dX7_court_257 : decode cX7_court 257 = .ok (.invokestatic 156, 3) := dAX7_court_17.2.2.1
theorem dX7_court_260 : decode cX7_court 260 = .ok (.aload_n 0, 1) := dAX7_court_17.2.2.2.1
theorem dX7_court_261 : decode cX7_court 261 = .ok (.getfield 29, 3) := dAX7_court_17.2.2.2.2.1
theorem dX7_court_264 : decode cX7_court 264 = .ok (.iconst 0, 1) := dAX7_court_17.2.2.2.2.2.1
theorem dX7_court_265 : decode cX7_court 265 = .ok (.aload_n 0, 1) := dAX7_court_17.2.2.2.2.2.2.1
theorem dX7_court_266 : decode cX7_court 266 = .ok (.getfield 32, 3) := dAX7_court_17.2.2.2.2.2.2.2
set_option maxRecDepth 100000 in
theorem dAX7_court_18 : decode cX7_court 269 = .ok (.iconst 0, 1) ∧ decode cX7_court 270 = .ok (.bipush 90, 2) ∧ decode cX7_court 272 = .ok (.invokestatic 156, 3) ∧ decode cX7_court 275 = .ok (.aload_n 0, 1) ∧ decode cX7_court 276 = .ok (.invokevirtual 184, 3) ∧ decode cX7_court 279 = .ok (.aload_n 0, 1) ∧ decode cX7_court 280 = .ok (.iconst 1, 1) ∧ decode cX7_court 281 = .ok (.putfield 187, 3) := by decide +kernel
theorem dX7_court_269 : decode cX7_court 269 = .ok (.iconst 0, 1) := dAX7_court_18.1
theorem dX7_court_270 : decode cX7_court 270 = .ok (.bipush 90, 2) := dAX7_court_18.2.1
theorem dX7_court_272 : decode cX7_court 272 = .ok (.invokestatic 156, 3) := dAX7_court_18.2.2.1
theorem dX7_court_275 : decode cX7_court 275 = .ok (.aload_n 0, 1) := dAX7_court_18.2.2.2.1
theorem dX7_court_276 : decode cX7_court 276 = .ok (.invokevirtual 184, 3) := dAX7_court_18.2.2.2.2.1
theorem dX7_court_279 : decode cX7_court 279 = .ok (.aload_n 0, 1) := dAX7_court_18.2.2.2.2.2.1
theorem dX7_court_280 : decode cX7_court 280 = .ok (.iconst 1, 1) := dAX7_court_18.2.2.2.2.2.2.1
theorem dX7_court_281 : decode cX7_court 281 = .ok (.putfield 187, 3) := dAX7_court_18.2.2.2.2.2.2.2
set_option maxRecDepth 100000 in
theorem dAX7_court_19 : decode cX7_court 284 = .ok (.aload_n 0, 1) ∧ decode cX7_court 285 = .ok (.iconst 0, 1) ∧ decode cX7_court 286 = .ok (.putfield 190, 3) ∧ decode cX7_court 289 = .ok (.aload_n 0, 1) ∧ decode cX7_court 290 = .ok (.iconst 0, 1) ∧ decode cX7_court 291 = .ok (.putfield 193, 3) ∧ decode cX7_court 294 = .ok (.aload_n 0, 1) ∧ decode cX7_court 295 = .ok (.getfield 20, 3) := by decide +kernel
theorem dX7_court_284 : decode cX7_court 284 = .ok (.aload_n 0, 1) := dAX7_court_19.1
theorem dX7_court_285 : decode cX7_court 285 = .ok (.iconst 0, 1) := dAX7_court_19.2.1
theorem dX7_court_286 : decode cX7_court 286 = .ok (.putfield 190, 3) := dAX7_court_19.2.2.1
theorem dX7_court_289 : decode cX7_court 289 = .ok (.aload_n 0, 1) := dAX7_court_19.2.2.2.1
theorem dX7_court_290 : decode cX7_court 290 = .ok (.iconst 0, 1) := dAX7_court_19.2.2.2.2.1
theorem dX7_court_291 : decode cX7_court 291 = .ok (.putfield 193, 3) := dAX7_court_19.2.2.2.2.2.1
theorem dX7_court_294 : decode cX7_court 294 = .ok (.aload_n 0, 1) := dAX7_court_19.2.2.2.2.2.2.1
theorem dX7_court_295 : decode cX7_court 295 = .ok (.getfield 20, 3) := dAX7_court_19.2.2.2.2.2.2.2
set_option maxRecDepth 100000 in
theorem dAX7_court_20 : decode cX7_court 298 = .ok (.iconst 1, 1) ∧ decode cX7_court 299 = .ok (.iaload, 1) ∧ decode cX7_court 300 = .ok (.ireturn, 1) := by decide +kernel
theorem dX7_court_298 : decode cX7_court 298 = .ok (.iconst 1, 1) := dAX7_court_20.1
theorem dX7_court_299 : decode cX7_court 299 = .ok (.iaload, 1) := dAX7_court_20.2.1
theorem dX7_court_300 : decode cX7_court 300 = .ok (.ireturn, 1) := dAX7_court_20.2.2
set_option maxRecDepth 100000 in
theorem dAX7_courtLine_0 : decode cX7_courtLine 0 = .ok (.aload_n 0, 1) ∧ decode cX7_courtLine 1 = .ok (.getfield 23, 3) ∧ decode cX7_courtLine 4 = .ok (.iconst 5, 1) ∧ decode cX7_courtLine 5 = .ok (.iaload, 1) ∧ decode cX7_courtLine 6 = .ok (.ifCond .le 12, 3) ∧ decode cX7_courtLine 9 = .ok (.aload_n 0, 1) ∧ decode cX7_courtLine 10 = .ok (.iconst 3, 1) ∧ decode cX7_courtLine 11 = .ok (.aload_n 0, 1) := by decide +kernel
theorem dX7_courtLine_0 : decode cX7_courtLine 0 = .ok (.aload_n 0, 1) := dAX7_courtLine_0.1
theorem dX7_courtLine_1 : decode cX7_courtLine 1 = .ok (.getfield 23, 3) := dAX7_courtLine_0.2.1
theorem dX7_courtLine_4 : decode cX7_courtLine 4 = .ok (.iconst 5, 1) := dAX7_courtLine_0.2.2.1
theorem dX7_courtLine_5 : decode cX7_courtLine 5 = .ok (.iaload, 1) := dAX7_courtLine_0.2.2.2.1
theorem dX7_courtLine_6 : decode cX7_courtLine 6 = .ok (.ifCond .le 12, 3) := dAX7_courtLine_0.2.2.2.2.1
theorem dX7_courtLine_9 : decode cX7_courtLine 9 = .ok (.aload_n 0, 1) := dAX7_courtLine_0.2.2.2.2.2.1
theorem dX7_courtLine_10 : decode cX7_courtLine 10 = .ok (.iconst 3, 1) := dAX7_courtLine_0.2.2.2.2.2.2.1
theorem dX7_courtLine_11 : decode cX7_courtLine 11 = .ok (.aload_n 0, 1) := dAX7_courtLine_0.2.2.2.2.2.2.2
set_option maxRecDepth 100000 in
theorem dAX7_courtLine_1 : decode cX7_courtLine 12 = .ok (.getfield 84, 3) ∧ decode cX7_courtLine 15 = .ok (.invokevirtual 130, 3) ∧ decode cX7_courtLine 18 = .ok (.aload_n 0, 1) ∧ decode cX7_courtLine 19 = .ok (.getfield 103, 3) ∧ decode cX7_courtLine 22 = .ok (.ifCond .eq 4, 3) ∧ decode cX7_courtLine 25 = .ok (.return_, 1) ∧ decode cX7_courtLine 26 = .ok (.aload_n 0, 1) ∧ decode cX7_courtLine 27 = .ok (.invokevirtual 124, 3) := by decide +kernel
theorem dX7_courtLine_12 : decode cX7_courtLine 12 = .ok (.getfield 84, 3) := dAX7_courtLine_1.1
theorem dX7_courtLine_15 : decode cX7_courtLine 15 = .ok (.invokevirtual 130, 3) := dAX7_courtLine_1.2.1
theorem dX7_courtLine_18 : decode cX7_courtLine 18 = .ok (.aload_n 0, 1) := dAX7_courtLine_1.2.2.1
theorem dX7_courtLine_19 : decode cX7_courtLine 19 = .ok (.getfield 103, 3) := dAX7_courtLine_1.2.2.2.1
theorem dX7_courtLine_22 : decode cX7_courtLine 22 = .ok (.ifCond .eq 4, 3) := dAX7_courtLine_1.2.2.2.2.1
theorem dX7_courtLine_25 : decode cX7_courtLine 25 = .ok (.return_, 1) := dAX7_courtLine_1.2.2.2.2.2.1
theorem dX7_courtLine_26 : decode cX7_courtLine 26 = .ok (.aload_n 0, 1) := dAX7_courtLine_1.2.2.2.2.2.2.1
theorem dX7_courtLine_27 : decode cX7_courtLine 27 = .ok (.invokevirtual 124, 3) := dAX7_courtLine_1.2.2.2.2.2.2.2
set_option maxRecDepth 100000 in
theorem dAX7_courtLine_2 : decode cX7_courtLine 30 = .ok (.aload_n 0, 1) ∧ decode cX7_courtLine 31 = .ok (.getfield 23, 3) ∧ decode cX7_courtLine 34 = .ok (.iconst 0, 1) ∧ decode cX7_courtLine 35 = .ok (.aload_n 0, 1) ∧ decode cX7_courtLine 36 = .ok (.ldc 222, 2) ∧ decode cX7_courtLine 38 = .ok (.iconst 0, 1) ∧ decode cX7_courtLine 39 = .ok (.bipush 100, 2) ∧ decode cX7_courtLine 41 = .ok (.invokevirtual 224, 3) := by decide +kernel
theorem dX7_courtLine_30 : decode cX7_courtLine 30 = .ok (.aload_n 0, 1) := dAX7_courtLine_2.1
theorem dX7_courtLine_31 : decode cX7_courtLine 31 = .ok (.getfield 23, 3) := dAX7_courtLine_2.2.1
theorem dX7_courtLine_34 : decode cX7_courtLine 34 = .ok (.iconst 0, 1) := dAX7_courtLine_2.2.2.1
theorem dX7_courtLine_35 : decode cX7_courtLine 35 = .ok (.aload_n 0, 1) := dAX7_courtLine_2.2.2.2.1
theorem dX7_courtLine_36 : decode cX7_courtLine 36 = .ok (.ldc 222, 2) := dAX7_courtLine_2.2.2.2.2.1
theorem dX7_courtLine_38 : decode cX7_courtLine 38 = .ok (.iconst 0, 1) := dAX7_courtLine_2.2.2.2.2.2.1
theorem dX7_courtLine_39 : decode cX7_courtLine 39 = .ok (.bipush 100, 2) := dAX7_courtLine_2.2.2.2.2.2.2.1
theorem dX7_courtLine_41 : decode cX7_courtLine 41 = .ok (.invokevirtual 224, 3) := dAX7_courtLine_2.2.2.2.2.2.2.2
set_option maxRecDepth 100000 in
theorem dAX7_courtLine_3 : decode cX7_courtLine 44 = .ok (.iastore, 1) ∧ decode cX7_courtLine 45 = .ok (.aload_n 0, 1) ∧ decode cX7_courtLine 46 = .ok (.getfield 103, 3) ∧ decode cX7_courtLine 49 = .ok (.ifCond .ne 10, 3) ∧ decode cX7_courtLine 52 = .ok (.aload_n 0, 1) ∧ decode cX7_courtLine 53 = .ok (.getfield 23, 3) ∧ decode cX7_courtLine 56 = .ok (.iconst 5, 1) ∧ decode cX7_courtLine 57 = .ok (.iconst 1, 1) := by decide +kernel
theorem dX7_courtLine_44 : decode cX7_courtLine 44 = .ok (.iastore, 1) := dAX7_courtLine_3.1
theorem dX7_courtLine_45 : decode cX7_courtLine 45 = .ok (.aload_n 0, 1) := dAX7_courtLine_3.2.1
theorem dX7_courtLine_46 : decode cX7_courtLine 46 = .ok (.getfield 103, 3) := dAX7_courtLine_3.2.2.1
theorem dX7_courtLine_49 : decode cX7_courtLine 49 = .ok (.ifCond .ne 10, 3) := dAX7_courtLine_3.2.2.2.1
theorem dX7_courtLine_52 : decode cX7_courtLine 52 = .ok (.aload_n 0, 1) := dAX7_courtLine_3.2.2.2.2.1
theorem dX7_courtLine_53 : decode cX7_courtLine 53 = .ok (.getfield 23, 3) := dAX7_courtLine_3.2.2.2.2.2.1
theorem dX7_courtLine_56 : decode cX7_courtLine 56 = .ok (.iconst 5, 1) := dAX7_courtLine_3.2.2.2.2.2.2.1
theorem dX7_courtLine_57 : decode cX7_courtLine 57 = .ok (.iconst 1, 1) := dAX7_courtLine_3.2.2.2.2.2.2.2
set_option maxRecDepth 100000 in
theorem dAX7_courtLine_4 : decode cX7_courtLine 58 = .ok (.iastore, 1) ∧ decode cX7_courtLine 59 = .ok (.return_, 1) := by decide +kernel
theorem dX7_courtLine_58 : decode cX7_courtLine 58 = .ok (.iastore, 1) := dAX7_courtLine_4.1
theorem dX7_courtLine_59 : decode cX7_courtLine 59 = .ok (.return_, 1) := dAX7_courtLine_4.2
set_option maxRecDepth 100000 in
theorem dAX7_cutAt_0 : decode cX7_cutAt 0 = .ok (.aload_n 0, 1) ∧ decode cX7_cutAt 1 = .ok (.invokevirtual 175, 3) ∧ decode cX7_cutAt 4 = .ok (.aload_n 0, 1) ∧ decode cX7_cutAt 5 = .ok (.getfield 187, 3) ∧ decode cX7_cutAt 8 = .ok (.ifCond .ne 9, 3) ∧ decode cX7_cutAt 11 = .ok (.aload_n 0, 1) ∧ decode cX7_cutAt 12 = .ok (.iconst 1, 1) ∧ decode cX7_cutAt 13 = .ok (.invokevirtual 178, 3) := by decide +kernel
theorem dX7_cutAt_0 : decode cX7_cutAt 0 = .ok (.aload_n 0, 1) := dAX7_cutAt_0.1
theorem dX7_cutAt_1 : decode cX7_cutAt 1 = .ok (.invokevirtual 175, 3) := dAX7_cutAt_0.2.1
theorem dX7_cutAt_4 : decode cX7_cutAt 4 = .ok (.aload_n 0, 1) := dAX7_cutAt_0.2.2.1
theorem dX7_cutAt_5 : decode cX7_cutAt 5 = .ok (.getfield 187, 3) := dAX7_cutAt_0.2.2.2.1
theorem dX7_cutAt_8 : decode cX7_cutAt 8 = .ok (.ifCond .ne 9, 3) := dAX7_cutAt_0.2.2.2.2.1
theorem dX7_cutAt_11 : decode cX7_cutAt 11 = .ok (.aload_n 0, 1) := dAX7_cutAt_0.2.2.2.2.2.1
theorem dX7_cutAt_12 : decode cX7_cutAt 12 = .ok (.iconst 1, 1) := dAX7_cutAt_0.2.2.2.2.2.2.1
theorem dX7_cutAt_13 : decode cX7_cutAt 13 = .ok (.invokevirtual 178, 3) := dAX7_cutAt_0.2.2.2.2.2.2.2
set_option maxRecDepth 100000 in
theorem dAX7_cutAt_1 : decode cX7_cutAt 16 = .ok (.ireturn, 1) ∧ decode cX7_cutAt 17 = .ok (.aload_n 0, 1) ∧ decode cX7_cutAt 18 = .ok (.aload_n 0, 1) ∧ decode cX7_cutAt 19 = .ok (.getfield 32, 3) ∧ decode cX7_cutAt 22 = .ok (.invokevirtual 293, 3) ∧ decode cX7_cutAt 25 = .ok (.pop, 1) ∧ decode cX7_cutAt 26 = .ok (.iload_n 1, 1) ∧ decode cX7_cutAt 27 = .ok (.iconst 0, 1) := by decide +kernel
theorem dX7_cutAt_16 : decode cX7_cutAt 16 = .ok (.ireturn, 1) := dAX7_cutAt_1.1
theorem dX7_cutAt_17 : decode cX7_cutAt 17 = .ok (.aload_n 0, 1) := dAX7_cutAt_1.2.1
theorem dX7_cutAt_18 : decode cX7_cutAt 18 = .ok (.aload_n 0, 1) := dAX7_cutAt_1.2.2.1
theorem dX7_cutAt_19 : decode cX7_cutAt 19 = .ok (.getfield 32, 3) := dAX7_cutAt_1.2.2.2.1
theorem dX7_cutAt_22 : decode cX7_cutAt 22 = .ok (.invokevirtual 293, 3) := dAX7_cutAt_1.2.2.2.2.1
theorem dX7_cutAt_25 : decode cX7_cutAt 25 = .ok (.pop, 1) := dAX7_cutAt_1.2.2.2.2.2.1
theorem dX7_cutAt_26 : decode cX7_cutAt 26 = .ok (.iload_n 1, 1) := dAX7_cutAt_1.2.2.2.2.2.2.1
theorem dX7_cutAt_27 : decode cX7_cutAt 27 = .ok (.iconst 0, 1) := dAX7_cutAt_1.2.2.2.2.2.2.2
set_option maxRecDepth 100000 in
theorem dAX7_cutAt_2 : decode cX7_cutAt 28 = .ok (.aload_n 0, 1) ∧ decode cX7_cutAt 29 = .ok (.getfield 268, 3) ∧ decode cX7_cutAt 32 = .ok (.iconst 1, 1) ∧ decode cX7_cutAt 33 = .ok (.isub, 1) ∧ decode cX7_cutAt 34 = .ok (.invokestatic 163, 3) ∧ decode cX7_cutAt 37 = .ok (.ifCond .eq 12, 3) ∧ decode cX7_cutAt 40 = .ok (.aload_n 0, 1) ∧ decode cX7_cutAt 41 = .ok (.getfield 53, 3) := by decide +kernel
theorem dX7_cutAt_28 : decode cX7_cutAt 28 = .ok (.aload_n 0, 1) := dAX7_cutAt_2.1
theorem dX7_cutAt_29 : decode cX7_cutAt 29 = .ok (.getfield 268, 3) := dAX7_cutAt_2.2.1
theorem dX7_cutAt_32 : decode cX7_cutAt 32 = .ok (.iconst 1, 1) := dAX7_cutAt_2.2.2.1
theorem dX7_cutAt_33 : decode cX7_cutAt 33 = .ok (.isub, 1) := dAX7_cutAt_2.2.2.2.1
theorem dX7_cutAt_34 : decode cX7_cutAt 34 = .ok (.invokestatic 163, 3) := dAX7_cutAt_2.2.2.2.2.1
theorem dX7_cutAt_37 : decode cX7_cutAt 37 = .ok (.ifCond .eq 12, 3) := dAX7_cutAt_2.2.2.2.2.2.1
theorem dX7_cutAt_40 : decode cX7_cutAt 40 = .ok (.aload_n 0, 1) := dAX7_cutAt_2.2.2.2.2.2.2.1
theorem dX7_cutAt_41 : decode cX7_cutAt 41 = .ok (.getfield 53, 3) := dAX7_cutAt_2.2.2.2.2.2.2.2
set_option maxRecDepth 100000 in
theorem dAX7_cutAt_3 : decode cX7_cutAt 44 = .ok (.iload_n 1, 1) ∧ decode cX7_cutAt 45 = .ok (.iaload, 1) ∧ decode cX7_cutAt 46 = .ok (.goto 8, 3) ∧ decode cX7_cutAt 49 = .ok (.aload_n 0, 1) ∧ decode cX7_cutAt 50 = .ok (.iconst 1, 1) ∧ decode cX7_cutAt 51 = .ok (.invokevirtual 178, 3) ∧ decode cX7_cutAt 54 = .ok (.ireturn, 1) := by decide +kernel
theorem dX7_cutAt_44 : decode cX7_cutAt 44 = .ok (.iload_n 1, 1) := dAX7_cutAt_3.1
theorem dX7_cutAt_45 : decode cX7_cutAt 45 = .ok (.iaload, 1) := dAX7_cutAt_3.2.1
theorem dX7_cutAt_46 : decode cX7_cutAt 46 = .ok (.goto 8, 3) := dAX7_cutAt_3.2.2.1
theorem dX7_cutAt_49 : decode cX7_cutAt 49 = .ok (.aload_n 0, 1) := dAX7_cutAt_3.2.2.2.1
theorem dX7_cutAt_50 : decode cX7_cutAt 50 = .ok (.iconst 1, 1) := dAX7_cutAt_3.2.2.2.2.1
theorem dX7_cutAt_51 : decode cX7_cutAt 51 = .ok (.invokevirtual 178, 3) := dAX7_cutAt_3.2.2.2.2.2.1
theorem dX7_cutAt_54 : decode cX7_cutAt 54 = .ok (.ireturn, 1) := dAX7_cutAt_3.2.2.2.2.2.2
set_option maxRecDepth 100000 in
theorem dAX7_cutFrom_0 : decode cX7_cutFrom 0 = .ok (.iload_n 3, 1) ∧ decode cX7_cutFrom 1 = .ok (.istore 5, 2) ∧ decode cX7_cutFrom 3 = .ok (.iload 5, 2) ∧ decode cX7_cutFrom 5 = .ok (.aload_n 0, 1) ∧ decode cX7_cutFrom 6 = .ok (.getfield 20, 3) ∧ decode cX7_cutFrom 9 = .ok (.bipush 27, 2) ∧ decode cX7_cutFrom 11 = .ok (.iload_n 2, 1) ∧ decode cX7_cutFrom 12 = .ok (.iadd, 1) := by decide +kernel
theorem dX7_cutFrom_0 : decode cX7_cutFrom 0 = .ok (.iload_n 3, 1) := dAX7_cutFrom_0.1
theorem dX7_cutFrom_1 : decode cX7_cutFrom 1 = .ok (.istore 5, 2) := dAX7_cutFrom_0.2.1
theorem dX7_cutFrom_3 : decode cX7_cutFrom 3 = .ok (.iload 5, 2) := dAX7_cutFrom_0.2.2.1
theorem dX7_cutFrom_5 : decode cX7_cutFrom 5 = .ok (.aload_n 0, 1) := dAX7_cutFrom_0.2.2.2.1
theorem dX7_cutFrom_6 : decode cX7_cutFrom 6 = .ok (.getfield 20, 3) := dAX7_cutFrom_0.2.2.2.2.1
theorem dX7_cutFrom_9 : decode cX7_cutFrom 9 = .ok (.bipush 27, 2) := dAX7_cutFrom_0.2.2.2.2.2.1
theorem dX7_cutFrom_11 : decode cX7_cutFrom 11 = .ok (.iload_n 2, 1) := dAX7_cutFrom_0.2.2.2.2.2.2.1
theorem dX7_cutFrom_12 : decode cX7_cutFrom 12 = .ok (.iadd, 1) := dAX7_cutFrom_0.2.2.2.2.2.2.2
set_option maxRecDepth 100000 in
theorem dAX7_cutFrom_1 : decode cX7_cutFrom 13 = .ok (.iaload, 1) ∧ decode cX7_cutFrom 14 = .ok (.if_icmp .ge 36, 3) ∧ decode cX7_cutFrom 17 = .ok (.aload_n 0, 1) ∧ decode cX7_cutFrom 18 = .ok (.getfield 53, 3) ∧ decode cX7_cutFrom 21 = .ok (.aload_n 0, 1) ∧ decode cX7_cutFrom 22 = .ok (.getfield 268, 3) ∧ decode cX7_cutFrom 25 = .ok (.aload_n 1, 1) ∧ decode cX7_cutFrom 26 = .ok (.iconst 4, 1) := by decide +kernel
theorem dX7_cutFrom_13 : decode cX7_cutFrom 13 = .ok (.iaload, 1) := dAX7_cutFrom_1.1
theorem dX7_cutFrom_14 : decode cX7_cutFrom 14 = .ok (.if_icmp .ge 36, 3) := dAX7_cutFrom_1.2.1
theorem dX7_cutFrom_17 : decode cX7_cutFrom 17 = .ok (.aload_n 0, 1) := dAX7_cutFrom_1.2.2.1
theorem dX7_cutFrom_18 : decode cX7_cutFrom 18 = .ok (.getfield 53, 3) := dAX7_cutFrom_1.2.2.2.1
theorem dX7_cutFrom_21 : decode cX7_cutFrom 21 = .ok (.aload_n 0, 1) := dAX7_cutFrom_1.2.2.2.2.1
theorem dX7_cutFrom_22 : decode cX7_cutFrom 22 = .ok (.getfield 268, 3) := dAX7_cutFrom_1.2.2.2.2.2.1
theorem dX7_cutFrom_25 : decode cX7_cutFrom 25 = .ok (.aload_n 1, 1) := dAX7_cutFrom_1.2.2.2.2.2.2.1
theorem dX7_cutFrom_26 : decode cX7_cutFrom 26 = .ok (.iconst 4, 1) := dAX7_cutFrom_1.2.2.2.2.2.2.2
set_option maxRecDepth 100000 in
theorem dAX7_cutFrom_2 : decode cX7_cutFrom 27 = .ok (.iload_n 2, 1) ∧ decode cX7_cutFrom 28 = .ok (.imul, 1) ∧ decode cX7_cutFrom 29 = .ok (.iload 5, 2) ∧ decode cX7_cutFrom 31 = .ok (.iadd, 1) ∧ decode cX7_cutFrom 32 = .ok (.iaload, 1) ∧ decode cX7_cutFrom 33 = .ok (.iastore, 1) ∧ decode cX7_cutFrom 34 = .ok (.aload_n 0, 1) ∧ decode cX7_cutFrom 35 = .ok (.dup, 1) := by decide +kernel
theorem dX7_cutFrom_27 : decode cX7_cutFrom 27 = .ok (.iload_n 2, 1) := dAX7_cutFrom_2.1
theorem dX7_cutFrom_28 : decode cX7_cutFrom 28 = .ok (.imul, 1) := dAX7_cutFrom_2.2.1
theorem dX7_cutFrom_29 : decode cX7_cutFrom 29 = .ok (.iload 5, 2) := dAX7_cutFrom_2.2.2.1
theorem dX7_cutFrom_31 : decode cX7_cutFrom 31 = .ok (.iadd, 1) := dAX7_cutFrom_2.2.2.2.1
theorem dX7_cutFrom_32 : decode cX7_cutFrom 32 = .ok (.iaload, 1) := dAX7_cutFrom_2.2.2.2.2.1
theorem dX7_cutFrom_33 : decode cX7_cutFrom 33 = .ok (.iastore, 1) := dAX7_cutFrom_2.2.2.2.2.2.1
theorem dX7_cutFrom_34 : decode cX7_cutFrom 34 = .ok (.aload_n 0, 1) := dAX7_cutFrom_2.2.2.2.2.2.2.1
theorem dX7_cutFrom_35 : decode cX7_cutFrom 35 = .ok (.dup, 1) := dAX7_cutFrom_2.2.2.2.2.2.2.2
set_option maxRecDepth 100000 in
theorem dAX7_cutFrom_3 : decode cX7_cutFrom 36 = .ok (.getfield 268, 3) ∧ decode cX7_cutFrom 39 = .ok (.iconst 1, 1) ∧ decode cX7_cutFrom 40 = .ok (.iadd, 1) ∧ decode cX7_cutFrom 41 = .ok (.putfield 268, 3) ∧ decode cX7_cutFrom 44 = .ok (.iinc 5 1, 3) ∧ decode cX7_cutFrom 47 = .ok (.goto (-44), 3) ∧ decode cX7_cutFrom 50 = .ok (.iload 4, 2) ∧ decode cX7_cutFrom 52 = .ok (.ireturn, 1) := by decide +kernel
theorem dX7_cutFrom_36 : decode cX7_cutFrom 36 = .ok (.getfield 268, 3) := dAX7_cutFrom_3.1
theorem dX7_cutFrom_39 : decode cX7_cutFrom 39 = .ok (.iconst 1, 1) := dAX7_cutFrom_3.2.1
theorem dX7_cutFrom_40 : decode cX7_cutFrom 40 = .ok (.iadd, 1) := dAX7_cutFrom_3.2.2.1
theorem dX7_cutFrom_41 : decode cX7_cutFrom 41 = .ok (.putfield 268, 3) := dAX7_cutFrom_3.2.2.2.1
theorem dX7_cutFrom_44 : decode cX7_cutFrom 44 = .ok (.iinc 5 1, 3) := dAX7_cutFrom_3.2.2.2.2.1
theorem dX7_cutFrom_47 : decode cX7_cutFrom 47 = .ok (.goto (-44), 3) := dAX7_cutFrom_3.2.2.2.2.2.1
theorem dX7_cutFrom_50 : decode cX7_cutFrom 50 = .ok (.iload 4, 2) := dAX7_cutFrom_3.2.2.2.2.2.2.1
theorem dX7_cutFrom_52 : decode cX7_cutFrom 52 = .ok (.ireturn, 1) := dAX7_cutFrom_3.2.2.2.2.2.2.2
set_option maxRecDepth 100000 in
theorem dAX7_cuts_0 : decode cX7_cuts 0 = .ok (.aload_n 0, 1) ∧ decode cX7_cuts 1 = .ok (.invokevirtual 175, 3) ∧ decode cX7_cuts 4 = .ok (.aload_n 0, 1) ∧ decode cX7_cuts 5 = .ok (.getfield 187, 3) ∧ decode cX7_cuts 8 = .ok (.ifCond .ne 9, 3) ∧ decode cX7_cuts 11 = .ok (.aload_n 0, 1) ∧ decode cX7_cuts 12 = .ok (.iconst 1, 1) ∧ decode cX7_cuts 13 = .ok (.invokevirtual 178, 3) := by decide +kernel
theorem dX7_cuts_0 : decode cX7_cuts 0 = .ok (.aload_n 0, 1) := dAX7_cuts_0.1
theorem dX7_cuts_1 : decode cX7_cuts 1 = .ok (.invokevirtual 175, 3) := dAX7_cuts_0.2.1
theorem dX7_cuts_4 : decode cX7_cuts 4 = .ok (.aload_n 0, 1) := dAX7_cuts_0.2.2.1
theorem dX7_cuts_5 : decode cX7_cuts 5 = .ok (.getfield 187, 3) := dAX7_cuts_0.2.2.2.1
theorem dX7_cuts_8 : decode cX7_cuts 8 = .ok (.ifCond .ne 9, 3) := dAX7_cuts_0.2.2.2.2.1
theorem dX7_cuts_11 : decode cX7_cuts 11 = .ok (.aload_n 0, 1) := dAX7_cuts_0.2.2.2.2.2.1
theorem dX7_cuts_12 : decode cX7_cuts 12 = .ok (.iconst 1, 1) := dAX7_cuts_0.2.2.2.2.2.2.1
theorem dX7_cuts_13 : decode cX7_cuts 13 = .ok (.invokevirtual 178, 3) := dAX7_cuts_0.2.2.2.2.2.2.2
set_option maxRecDepth 100000 in
theorem dAX7_cuts_1 : decode cX7_cuts 16 = .ok (.ireturn, 1) ∧ decode cX7_cuts 17 = .ok (.aload_n 0, 1) ∧ decode cX7_cuts 18 = .ok (.aload_n 0, 1) ∧ decode cX7_cuts 19 = .ok (.getfield 32, 3) ∧ decode cX7_cuts 22 = .ok (.invokevirtual 293, 3) ∧ decode cX7_cuts 25 = .ok (.pop, 1) ∧ decode cX7_cuts 26 = .ok (.aload_n 0, 1) ∧ decode cX7_cuts 27 = .ok (.getfield 268, 3) := by decide +kernel
theorem dX7_cuts_16 : decode cX7_cuts 16 = .ok (.ireturn, 1) := dAX7_cuts_1.1
theorem dX7_cuts_17 : decode cX7_cuts 17 = .ok (.aload_n 0, 1) := dAX7_cuts_1.2.1
theorem dX7_cuts_18 : decode cX7_cuts 18 = .ok (.aload_n 0, 1) := dAX7_cuts_1.2.2.1
theorem dX7_cuts_19 : decode cX7_cuts 19 = .ok (.getfield 32, 3) := dAX7_cuts_1.2.2.2.1
theorem dX7_cuts_22 : decode cX7_cuts 22 = .ok (.invokevirtual 293, 3) := dAX7_cuts_1.2.2.2.2.1
theorem dX7_cuts_25 : decode cX7_cuts 25 = .ok (.pop, 1) := dAX7_cuts_1.2.2.2.2.2.1
theorem dX7_cuts_26 : decode cX7_cuts 26 = .ok (.aload_n 0, 1) := dAX7_cuts_1.2.2.2.2.2.2.1
theorem dX7_cuts_27 : decode cX7_cuts 27 = .ok (.getfield 268, 3) := dAX7_cuts_1.2.2.2.2.2.2.2
theorem dX7_cuts_30 : decode cX7_cuts 30 = .ok (.ireturn, 1) := by decide +kernel
set_option maxRecDepth 100000 in
theorem dAX7_disproof_0 : decode cX7_disproof 0 = .ok (.aload_n 0, 1) ∧ decode cX7_disproof 1 = .ok (.invokevirtual 175, 3) ∧ decode cX7_disproof 4 = .ok (.aload_n 0, 1) ∧ decode cX7_disproof 5 = .ok (.iload_n 1, 1) ∧ decode cX7_disproof 6 = .ok (.iconst 0, 1) ∧ decode cX7_disproof 7 = .ok (.bipush 100, 2) ∧ decode cX7_disproof 9 = .ok (.invokestatic 163, 3) ∧ decode cX7_disproof 12 = .ok (.invokevirtual 307, 3) := by decide +kernel
theorem dX7_disproof_0 : decode cX7_disproof 0 = .ok (.aload_n 0, 1) := dAX7_disproof_0.1
theorem dX7_disproof_1 : decode cX7_disproof 1 = .ok (.invokevirtual 175, 3) := dAX7_disproof_0.2.1
theorem dX7_disproof_4 : decode cX7_disproof 4 = .ok (.aload_n 0, 1) := dAX7_disproof_0.2.2.1
theorem dX7_disproof_5 : decode cX7_disproof 5 = .ok (.iload_n 1, 1) := dAX7_disproof_0.2.2.2.1
theorem dX7_disproof_6 : decode cX7_disproof 6 = .ok (.iconst 0, 1) := dAX7_disproof_0.2.2.2.2.1
theorem dX7_disproof_7 : decode cX7_disproof 7 = .ok (.bipush 100, 2) := dAX7_disproof_0.2.2.2.2.2.1
theorem dX7_disproof_9 : decode cX7_disproof 9 = .ok (.invokestatic 163, 3) := dAX7_disproof_0.2.2.2.2.2.2.1
theorem dX7_disproof_12 : decode cX7_disproof 12 = .ok (.invokevirtual 307, 3) := dAX7_disproof_0.2.2.2.2.2.2.2
set_option maxRecDepth 100000 in
theorem dAX7_disproof_1 : decode cX7_disproof 15 = .ok (.istore_n 2, 1) ∧ decode cX7_disproof 16 = .ok (.iload_n 2, 1) ∧ decode cX7_disproof 17 = .ok (.ifCond .eq 11, 3) ∧ decode cX7_disproof 20 = .ok (.aload_n 0, 1) ∧ decode cX7_disproof 21 = .ok (.iload_n 2, 1) ∧ decode cX7_disproof 22 = .ok (.invokevirtual 178, 3) ∧ decode cX7_disproof 25 = .ok (.goto 9, 3) ∧ decode cX7_disproof 28 = .ok (.aload_n 0, 1) := by decide +kernel
theorem dX7_disproof_15 : decode cX7_disproof 15 = .ok (.istore_n 2, 1) := dAX7_disproof_1.1
theorem dX7_disproof_16 : decode cX7_disproof 16 = .ok (.iload_n 2, 1) := dAX7_disproof_1.2.1
theorem dX7_disproof_17 : decode cX7_disproof 17 = .ok (.ifCond .eq 11, 3) := dAX7_disproof_1.2.2.1
theorem dX7_disproof_20 : decode cX7_disproof 20 = .ok (.aload_n 0, 1) := dAX7_disproof_1.2.2.2.1
theorem dX7_disproof_21 : decode cX7_disproof 21 = .ok (.iload_n 2, 1) := dAX7_disproof_1.2.2.2.2.1
theorem dX7_disproof_22 : decode cX7_disproof 22 = .ok (.invokevirtual 178, 3) := dAX7_disproof_1.2.2.2.2.2.1
theorem dX7_disproof_25 : decode cX7_disproof 25 = .ok (.goto 9, 3) := dAX7_disproof_1.2.2.2.2.2.2.1
theorem dX7_disproof_28 : decode cX7_disproof 28 = .ok (.aload_n 0, 1) := dAX7_disproof_1.2.2.2.2.2.2.2
set_option maxRecDepth 100000 in
theorem dAX7_disproof_2 : decode cX7_disproof 29 = .ok (.iconst 1, 1) ∧ decode cX7_disproof 30 = .ok (.iload_n 1, 1) ∧ decode cX7_disproof 31 = .ok (.invokevirtual 335, 3) ∧ decode cX7_disproof 34 = .ok (.ireturn, 1) := by decide +kernel
theorem dX7_disproof_29 : decode cX7_disproof 29 = .ok (.iconst 1, 1) := dAX7_disproof_2.1
theorem dX7_disproof_30 : decode cX7_disproof 30 = .ok (.iload_n 1, 1) := dAX7_disproof_2.2.1
theorem dX7_disproof_31 : decode cX7_disproof 31 = .ok (.invokevirtual 335, 3) := dAX7_disproof_2.2.2.1
theorem dX7_disproof_34 : decode cX7_disproof 34 = .ok (.ireturn, 1) := dAX7_disproof_2.2.2.2
set_option maxRecDepth 100000 in
theorem dAX7_doesFit_0 : decode cX7_doesFit 0 = .ok (.aload_n 0, 1) ∧ decode cX7_doesFit 1 = .ok (.aload_n 0, 1) ∧ decode cX7_doesFit 2 = .ok (.getfield 26, 3) ∧ decode cX7_doesFit 5 = .ok (.iload_n 1, 1) ∧ decode cX7_doesFit 6 = .ok (.invokevirtual 373, 3) ∧ decode cX7_doesFit 9 = .ok (.aload_n 0, 1) ∧ decode cX7_doesFit 10 = .ok (.getfield 20, 3) ∧ decode cX7_doesFit 13 = .ok (.iconst 4, 1) := by decide +kernel
theorem dX7_doesFit_0 : decode cX7_doesFit 0 = .ok (.aload_n 0, 1) := dAX7_doesFit_0.1
theorem dX7_doesFit_1 : decode cX7_doesFit 1 = .ok (.aload_n 0, 1) := dAX7_doesFit_0.2.1
theorem dX7_doesFit_2 : decode cX7_doesFit 2 = .ok (.getfield 26, 3) := dAX7_doesFit_0.2.2.1
theorem dX7_doesFit_5 : decode cX7_doesFit 5 = .ok (.iload_n 1, 1) := dAX7_doesFit_0.2.2.2.1
theorem dX7_doesFit_6 : decode cX7_doesFit 6 = .ok (.invokevirtual 373, 3) := dAX7_doesFit_0.2.2.2.2.1
theorem dX7_doesFit_9 : decode cX7_doesFit 9 = .ok (.aload_n 0, 1) := dAX7_doesFit_0.2.2.2.2.2.1
theorem dX7_doesFit_10 : decode cX7_doesFit 10 = .ok (.getfield 20, 3) := dAX7_doesFit_0.2.2.2.2.2.2.1
theorem dX7_doesFit_13 : decode cX7_doesFit 13 = .ok (.iconst 4, 1) := dAX7_doesFit_0.2.2.2.2.2.2.2
set_option maxRecDepth 100000 in
theorem dAX7_doesFit_1 : decode cX7_doesFit 14 = .ok (.iaload, 1) ∧ decode cX7_doesFit 15 = .ok (.ifCond .eq 27, 3) ∧ decode cX7_doesFit 18 = .ok (.aload_n 0, 1) ∧ decode cX7_doesFit 19 = .ok (.aload_n 0, 1) ∧ decode cX7_doesFit 20 = .ok (.getfield 56, 3) ∧ decode cX7_doesFit 23 = .ok (.invokevirtual 323, 3) ∧ decode cX7_doesFit 26 = .ok (.aload_n 0, 1) ∧ decode cX7_doesFit 27 = .ok (.getfield 44, 3) := by decide +kernel
theorem dX7_doesFit_14 : decode cX7_doesFit 14 = .ok (.iaload, 1) := dAX7_doesFit_1.1
theorem dX7_doesFit_15 : decode cX7_doesFit 15 = .ok (.ifCond .eq 27, 3) := dAX7_doesFit_1.2.1
theorem dX7_doesFit_18 : decode cX7_doesFit 18 = .ok (.aload_n 0, 1) := dAX7_doesFit_1.2.2.1
theorem dX7_doesFit_19 : decode cX7_doesFit 19 = .ok (.aload_n 0, 1) := dAX7_doesFit_1.2.2.2.1
theorem dX7_doesFit_20 : decode cX7_doesFit 20 = .ok (.getfield 56, 3) := dAX7_doesFit_1.2.2.2.2.1
theorem dX7_doesFit_23 : decode cX7_doesFit 23 = .ok (.invokevirtual 323, 3) := dAX7_doesFit_1.2.2.2.2.2.1
theorem dX7_doesFit_26 : decode cX7_doesFit 26 = .ok (.aload_n 0, 1) := dAX7_doesFit_1.2.2.2.2.2.2.1
theorem dX7_doesFit_27 : decode cX7_doesFit 27 = .ok (.getfield 44, 3) := dAX7_doesFit_1.2.2.2.2.2.2.2
set_option maxRecDepth 100000 in
theorem dAX7_doesFit_2 : decode cX7_doesFit 30 = .ok (.idiv, 1) ∧ decode cX7_doesFit 31 = .ok (.aload_n 0, 1) ∧ decode cX7_doesFit 32 = .ok (.getfield 20, 3) ∧ decode cX7_doesFit 35 = .ok (.iconst 4, 1) ∧ decode cX7_doesFit 36 = .ok (.iaload, 1) ∧ decode cX7_doesFit 37 = .ok (.iconst 1, 1) ∧ decode cX7_doesFit 38 = .ok (.isub, 1) ∧ decode cX7_doesFit 39 = .ok (.if_icmp .ne 7, 3) := by decide +kernel
theorem dX7_doesFit_30 : decode cX7_doesFit 30 = .ok (.idiv, 1) := dAX7_doesFit_2.1
theorem dX7_doesFit_31 : decode cX7_doesFit 31 = .ok (.aload_n 0, 1) := dAX7_doesFit_2.2.1
theorem dX7_doesFit_32 : decode cX7_doesFit 32 = .ok (.getfield 20, 3) := dAX7_doesFit_2.2.2.1
theorem dX7_doesFit_35 : decode cX7_doesFit 35 = .ok (.iconst 4, 1) := dAX7_doesFit_2.2.2.2.1
theorem dX7_doesFit_36 : decode cX7_doesFit 36 = .ok (.iaload, 1) := dAX7_doesFit_2.2.2.2.2.1
theorem dX7_doesFit_37 : decode cX7_doesFit 37 = .ok (.iconst 1, 1) := dAX7_doesFit_2.2.2.2.2.2.1
theorem dX7_doesFit_38 : decode cX7_doesFit 38 = .ok (.isub, 1) := dAX7_doesFit_2.2.2.2.2.2.2.1
theorem dX7_doesFit_39 : decode cX7_doesFit 39 = .ok (.if_icmp .ne 7, 3) := dAX7_doesFit_2.2.2.2.2.2.2.2
set_option maxRecDepth 100000 in
theorem dAX7_doesFit_3 : decode cX7_doesFit 42 = .ok (.iconst 1, 1) ∧ decode cX7_doesFit 43 = .ok (.goto 4, 3) ∧ decode cX7_doesFit 46 = .ok (.iconst 0, 1) ∧ decode cX7_doesFit 47 = .ok (.ireturn, 1) := by decide +kernel
theorem dX7_doesFit_42 : decode cX7_doesFit 42 = .ok (.iconst 1, 1) := dAX7_doesFit_3.1
theorem dX7_doesFit_43 : decode cX7_doesFit 43 = .ok (.goto 4, 3) := dAX7_doesFit_3.2.1
theorem dX7_doesFit_46 : decode cX7_doesFit 46 = .ok (.iconst 0, 1) := dAX7_doesFit_3.2.2.1
theorem dX7_doesFit_47 : decode cX7_doesFit 47 = .ok (.ireturn, 1) := dAX7_doesFit_3.2.2.2
set_option maxRecDepth 100000 in
theorem dAX7_doesProve_0 : decode cX7_doesProve 0 = .ok (.iload_n 2, 1) ∧ decode cX7_doesProve 1 = .ok (.ifCond .ne 24, 3) ∧ decode cX7_doesProve 4 = .ok (.aload_n 0, 1) ∧ decode cX7_doesProve 5 = .ok (.iload_n 1, 1) ∧ decode cX7_doesProve 6 = .ok (.iconst 0, 1) ∧ decode cX7_doesProve 7 = .ok (.invokevirtual 326, 3) ∧ decode cX7_doesProve 10 = .ok (.iload_n 3, 1) ∧ decode cX7_doesProve 11 = .ok (.aload_n 0, 1) := by decide +kernel
theorem dX7_doesProve_0 : decode cX7_doesProve 0 = .ok (.iload_n 2, 1) := dAX7_doesProve_0.1
theorem dX7_doesProve_1 : decode cX7_doesProve 1 = .ok (.ifCond .ne 24, 3) := dAX7_doesProve_0.2.1
theorem dX7_doesProve_4 : decode cX7_doesProve 4 = .ok (.aload_n 0, 1) := dAX7_doesProve_0.2.2.1
theorem dX7_doesProve_5 : decode cX7_doesProve 5 = .ok (.iload_n 1, 1) := dAX7_doesProve_0.2.2.2.1
theorem dX7_doesProve_6 : decode cX7_doesProve 6 = .ok (.iconst 0, 1) := dAX7_doesProve_0.2.2.2.2.1
theorem dX7_doesProve_7 : decode cX7_doesProve 7 = .ok (.invokevirtual 326, 3) := dAX7_doesProve_0.2.2.2.2.2.1
theorem dX7_doesProve_10 : decode cX7_doesProve 10 = .ok (.iload_n 3, 1) := dAX7_doesProve_0.2.2.2.2.2.2.1
theorem dX7_doesProve_11 : decode cX7_doesProve 11 = .ok (.aload_n 0, 1) := dAX7_doesProve_0.2.2.2.2.2.2.2
set_option maxRecDepth 100000 in
theorem dAX7_doesProve_1 : decode cX7_doesProve 12 = .ok (.getfield 44, 3) ∧ decode cX7_doesProve 15 = .ok (.imul, 1) ∧ decode cX7_doesProve 16 = .ok (.if_icmp .lt 7, 3) ∧ decode cX7_doesProve 19 = .ok (.iconst 1, 1) ∧ decode cX7_doesProve 20 = .ok (.goto 4, 3) ∧ decode cX7_doesProve 23 = .ok (.iconst 0, 1) ∧ decode cX7_doesProve 24 = .ok (.ireturn, 1) ∧ decode cX7_doesProve 25 = .ok (.iload_n 2, 1) := by decide +kernel
theorem dX7_doesProve_12 : decode cX7_doesProve 12 = .ok (.getfield 44, 3) := dAX7_doesProve_1.1
theorem dX7_doesProve_15 : decode cX7_doesProve 15 = .ok (.imul, 1) := dAX7_doesProve_1.2.1
theorem dX7_doesProve_16 : decode cX7_doesProve 16 = .ok (.if_icmp .lt 7, 3) := dAX7_doesProve_1.2.2.1
theorem dX7_doesProve_19 : decode cX7_doesProve 19 = .ok (.iconst 1, 1) := dAX7_doesProve_1.2.2.2.1
theorem dX7_doesProve_20 : decode cX7_doesProve 20 = .ok (.goto 4, 3) := dAX7_doesProve_1.2.2.2.2.1
theorem dX7_doesProve_23 : decode cX7_doesProve 23 = .ok (.iconst 0, 1) := dAX7_doesProve_1.2.2.2.2.2.1
theorem dX7_doesProve_24 : decode cX7_doesProve 24 = .ok (.ireturn, 1) := dAX7_doesProve_1.2.2.2.2.2.2.1
theorem dX7_doesProve_25 : decode cX7_doesProve 25 = .ok (.iload_n 2, 1) := dAX7_doesProve_1.2.2.2.2.2.2.2
set_option maxRecDepth 100000 in
theorem dAX7_doesProve_2 : decode cX7_doesProve 26 = .ok (.iconst 1, 1) ∧ decode cX7_doesProve 27 = .ok (.if_icmp .ne 25, 3) ∧ decode cX7_doesProve 30 = .ok (.aload_n 0, 1) ∧ decode cX7_doesProve 31 = .ok (.iload_n 1, 1) ∧ decode cX7_doesProve 32 = .ok (.bipush 99, 2) ∧ decode cX7_doesProve 34 = .ok (.invokevirtual 326, 3) ∧ decode cX7_doesProve 37 = .ok (.iload_n 3, 1) ∧ decode cX7_doesProve 38 = .ok (.aload_n 0, 1) := by decide +kernel
theorem dX7_doesProve_26 : decode cX7_doesProve 26 = .ok (.iconst 1, 1) := dAX7_doesProve_2.1
theorem dX7_doesProve_27 : decode cX7_doesProve 27 = .ok (.if_icmp .ne 25, 3) := dAX7_doesProve_2.2.1
theorem dX7_doesProve_30 : decode cX7_doesProve 30 = .ok (.aload_n 0, 1) := dAX7_doesProve_2.2.2.1
theorem dX7_doesProve_31 : decode cX7_doesProve 31 = .ok (.iload_n 1, 1) := dAX7_doesProve_2.2.2.2.1
theorem dX7_doesProve_32 : decode cX7_doesProve 32 = .ok (.bipush 99, 2) := dAX7_doesProve_2.2.2.2.2.1
theorem dX7_doesProve_34 : decode cX7_doesProve 34 = .ok (.invokevirtual 326, 3) := dAX7_doesProve_2.2.2.2.2.2.1
theorem dX7_doesProve_37 : decode cX7_doesProve 37 = .ok (.iload_n 3, 1) := dAX7_doesProve_2.2.2.2.2.2.2.1
theorem dX7_doesProve_38 : decode cX7_doesProve 38 = .ok (.aload_n 0, 1) := dAX7_doesProve_2.2.2.2.2.2.2.2
set_option maxRecDepth 100000 in
theorem dAX7_doesProve_3 : decode cX7_doesProve 39 = .ok (.getfield 44, 3) ∧ decode cX7_doesProve 42 = .ok (.imul, 1) ∧ decode cX7_doesProve 43 = .ok (.if_icmp .ge 7, 3) ∧ decode cX7_doesProve 46 = .ok (.iconst 1, 1) ∧ decode cX7_doesProve 47 = .ok (.goto 4, 3) ∧ decode cX7_doesProve 50 = .ok (.iconst 0, 1) ∧ decode cX7_doesProve 51 = .ok (.ireturn, 1) ∧ decode cX7_doesProve 52 = .ok (.aload_n 0, 1) := by decide +kernel
theorem dX7_doesProve_39 : decode cX7_doesProve 39 = .ok (.getfield 44, 3) := dAX7_doesProve_3.1
theorem dX7_doesProve_42 : decode cX7_doesProve 42 = .ok (.imul, 1) := dAX7_doesProve_3.2.1
theorem dX7_doesProve_43 : decode cX7_doesProve 43 = .ok (.if_icmp .ge 7, 3) := dAX7_doesProve_3.2.2.1
theorem dX7_doesProve_46 : decode cX7_doesProve 46 = .ok (.iconst 1, 1) := dAX7_doesProve_3.2.2.2.1
theorem dX7_doesProve_47 : decode cX7_doesProve 47 = .ok (.goto 4, 3) := dAX7_doesProve_3.2.2.2.2.1
theorem dX7_doesProve_50 : decode cX7_doesProve 50 = .ok (.iconst 0, 1) := dAX7_doesProve_3.2.2.2.2.2.1
theorem dX7_doesProve_51 : decode cX7_doesProve 51 = .ok (.ireturn, 1) := dAX7_doesProve_3.2.2.2.2.2.2.1
theorem dX7_doesProve_52 : decode cX7_doesProve 52 = .ok (.aload_n 0, 1) := dAX7_doesProve_3.2.2.2.2.2.2.2
set_option maxRecDepth 100000 in
theorem dAX7_doesProve_4 : decode cX7_doesProve 53 = .ok (.iload_n 1, 1) ∧ decode cX7_doesProve 54 = .ok (.iconst 0, 1) ∧ decode cX7_doesProve 55 = .ok (.invokevirtual 326, 3) ∧ decode cX7_doesProve 58 = .ok (.aload_n 0, 1) ∧ decode cX7_doesProve 59 = .ok (.iload_n 1, 1) ∧ decode cX7_doesProve 60 = .ok (.bipush 99, 2) ∧ decode cX7_doesProve 62 = .ok (.invokevirtual 326, 3) ∧ decode cX7_doesProve 65 = .ok (.if_icmp .ne 7, 3) := by decide +kernel
theorem dX7_doesProve_53 : decode cX7_doesProve 53 = .ok (.iload_n 1, 1) := dAX7_doesProve_4.1
theorem dX7_doesProve_54 : decode cX7_doesProve 54 = .ok (.iconst 0, 1) := dAX7_doesProve_4.2.1
theorem dX7_doesProve_55 : decode cX7_doesProve 55 = .ok (.invokevirtual 326, 3) := dAX7_doesProve_4.2.2.1
theorem dX7_doesProve_58 : decode cX7_doesProve 58 = .ok (.aload_n 0, 1) := dAX7_doesProve_4.2.2.2.1
theorem dX7_doesProve_59 : decode cX7_doesProve 59 = .ok (.iload_n 1, 1) := dAX7_doesProve_4.2.2.2.2.1
theorem dX7_doesProve_60 : decode cX7_doesProve 60 = .ok (.bipush 99, 2) := dAX7_doesProve_4.2.2.2.2.2.1
theorem dX7_doesProve_62 : decode cX7_doesProve 62 = .ok (.invokevirtual 326, 3) := dAX7_doesProve_4.2.2.2.2.2.2.1
theorem dX7_doesProve_65 : decode cX7_doesProve 65 = .ok (.if_icmp .ne 7, 3) := dAX7_doesProve_4.2.2.2.2.2.2.2
set_option maxRecDepth 100000 in
theorem dAX7_doesProve_5 : decode cX7_doesProve 68 = .ok (.iconst 1, 1) ∧ decode cX7_doesProve 69 = .ok (.goto 4, 3) ∧ decode cX7_doesProve 72 = .ok (.iconst 0, 1) ∧ decode cX7_doesProve 73 = .ok (.ireturn, 1) := by decide +kernel
theorem dX7_doesProve_68 : decode cX7_doesProve 68 = .ok (.iconst 1, 1) := dAX7_doesProve_5.1
theorem dX7_doesProve_69 : decode cX7_doesProve 69 = .ok (.goto 4, 3) := dAX7_doesProve_5.2.1
theorem dX7_doesProve_72 : decode cX7_doesProve 72 = .ok (.iconst 0, 1) := dAX7_doesProve_5.2.2.1
theorem dX7_doesProve_73 : decode cX7_doesProve 73 = .ok (.ireturn, 1) := dAX7_doesProve_5.2.2.2
set_option maxRecDepth 100000 in
theorem dAX7_downOf_0 : decode cX7_downOf 0 = .ok (.iconst (-1), 1) ∧ decode cX7_downOf 1 = .ok (.istore_n 2, 1) ∧ decode cX7_downOf 2 = .ok (.iconst 0, 1) ∧ decode cX7_downOf 3 = .ok (.istore_n 3, 1) ∧ decode cX7_downOf 4 = .ok (.iload_n 3, 1) ∧ decode cX7_downOf 5 = .ok (.aload_n 0, 1) ∧ decode cX7_downOf 6 = .ok (.getfield 20, 3) ∧ decode cX7_downOf 9 = .ok (.bipush 27, 2) := by decide +kernel
theorem dX7_downOf_0 : decode cX7_downOf 0 = .ok (.iconst (-1), 1) := dAX7_downOf_0.1
theorem dX7_downOf_1 : decode cX7_downOf 1 = .ok (.istore_n 2, 1) := dAX7_downOf_0.2.1
theorem dX7_downOf_2 : decode cX7_downOf 2 = .ok (.iconst 0, 1) := dAX7_downOf_0.2.2.1
theorem dX7_downOf_3 : decode cX7_downOf 3 = .ok (.istore_n 3, 1) := dAX7_downOf_0.2.2.2.1
theorem dX7_downOf_4 : decode cX7_downOf 4 = .ok (.iload_n 3, 1) := dAX7_downOf_0.2.2.2.2.1
theorem dX7_downOf_5 : decode cX7_downOf 5 = .ok (.aload_n 0, 1) := dAX7_downOf_0.2.2.2.2.2.1
theorem dX7_downOf_6 : decode cX7_downOf 6 = .ok (.getfield 20, 3) := dAX7_downOf_0.2.2.2.2.2.2.1
theorem dX7_downOf_9 : decode cX7_downOf 9 = .ok (.bipush 27, 2) := dAX7_downOf_0.2.2.2.2.2.2.2
set_option maxRecDepth 100000 in
theorem dAX7_downOf_1 : decode cX7_downOf 11 = .ok (.iload_n 1, 1) ∧ decode cX7_downOf 12 = .ok (.iadd, 1) ∧ decode cX7_downOf 13 = .ok (.iaload, 1) ∧ decode cX7_downOf 14 = .ok (.if_icmp .ge 46, 3) ∧ decode cX7_downOf 17 = .ok (.aload_n 0, 1) ∧ decode cX7_downOf 18 = .ok (.aload_n 0, 1) ∧ decode cX7_downOf 19 = .ok (.getfield 32, 3) ∧ decode cX7_downOf 22 = .ok (.iconst 4, 1) := by decide +kernel
theorem dX7_downOf_11 : decode cX7_downOf 11 = .ok (.iload_n 1, 1) := dAX7_downOf_1.1
theorem dX7_downOf_12 : decode cX7_downOf 12 = .ok (.iadd, 1) := dAX7_downOf_1.2.1
theorem dX7_downOf_13 : decode cX7_downOf 13 = .ok (.iaload, 1) := dAX7_downOf_1.2.2.1
theorem dX7_downOf_14 : decode cX7_downOf 14 = .ok (.if_icmp .ge 46, 3) := dAX7_downOf_1.2.2.2.1
theorem dX7_downOf_17 : decode cX7_downOf 17 = .ok (.aload_n 0, 1) := dAX7_downOf_1.2.2.2.2.1
theorem dX7_downOf_18 : decode cX7_downOf 18 = .ok (.aload_n 0, 1) := dAX7_downOf_1.2.2.2.2.2.1
theorem dX7_downOf_19 : decode cX7_downOf 19 = .ok (.getfield 32, 3) := dAX7_downOf_1.2.2.2.2.2.2.1
theorem dX7_downOf_22 : decode cX7_downOf 22 = .ok (.iconst 4, 1) := dAX7_downOf_1.2.2.2.2.2.2.2
set_option maxRecDepth 100000 in
theorem dAX7_downOf_2 : decode cX7_downOf 23 = .ok (.iload_n 1, 1) ∧ decode cX7_downOf 24 = .ok (.imul, 1) ∧ decode cX7_downOf 25 = .ok (.iload_n 3, 1) ∧ decode cX7_downOf 26 = .ok (.iadd, 1) ∧ decode cX7_downOf 27 = .ok (.iaload, 1) ∧ decode cX7_downOf 28 = .ok (.invokevirtual 274, 3) ∧ decode cX7_downOf 31 = .ok (.iload_n 2, 1) ∧ decode cX7_downOf 32 = .ok (.if_icmp .le 20, 3) := by decide +kernel
theorem dX7_downOf_23 : decode cX7_downOf 23 = .ok (.iload_n 1, 1) := dAX7_downOf_2.1
theorem dX7_downOf_24 : decode cX7_downOf 24 = .ok (.imul, 1) := dAX7_downOf_2.2.1
theorem dX7_downOf_25 : decode cX7_downOf 25 = .ok (.iload_n 3, 1) := dAX7_downOf_2.2.2.1
theorem dX7_downOf_26 : decode cX7_downOf 26 = .ok (.iadd, 1) := dAX7_downOf_2.2.2.2.1
theorem dX7_downOf_27 : decode cX7_downOf 27 = .ok (.iaload, 1) := dAX7_downOf_2.2.2.2.2.1
theorem dX7_downOf_28 : decode cX7_downOf 28 = .ok (.invokevirtual 274, 3) := dAX7_downOf_2.2.2.2.2.2.1
theorem dX7_downOf_31 : decode cX7_downOf 31 = .ok (.iload_n 2, 1) := dAX7_downOf_2.2.2.2.2.2.2.1
theorem dX7_downOf_32 : decode cX7_downOf 32 = .ok (.if_icmp .le 20, 3) := dAX7_downOf_2.2.2.2.2.2.2.2
set_option maxRecDepth 100000 in
theorem dAX7_downOf_3 : decode cX7_downOf 35 = .ok (.aload_n 0, 1) ∧ decode cX7_downOf 36 = .ok (.aload_n 0, 1) ∧ decode cX7_downOf 37 = .ok (.getfield 32, 3) ∧ decode cX7_downOf 40 = .ok (.iconst 4, 1) ∧ decode cX7_downOf 41 = .ok (.iload_n 1, 1) ∧ decode cX7_downOf 42 = .ok (.imul, 1) ∧ decode cX7_downOf 43 = .ok (.iload_n 3, 1) ∧ decode cX7_downOf 44 = .ok (.iadd, 1) := by decide +kernel
theorem dX7_downOf_35 : decode cX7_downOf 35 = .ok (.aload_n 0, 1) := dAX7_downOf_3.1
theorem dX7_downOf_36 : decode cX7_downOf 36 = .ok (.aload_n 0, 1) := dAX7_downOf_3.2.1
theorem dX7_downOf_37 : decode cX7_downOf 37 = .ok (.getfield 32, 3) := dAX7_downOf_3.2.2.1
theorem dX7_downOf_40 : decode cX7_downOf 40 = .ok (.iconst 4, 1) := dAX7_downOf_3.2.2.2.1
theorem dX7_downOf_41 : decode cX7_downOf 41 = .ok (.iload_n 1, 1) := dAX7_downOf_3.2.2.2.2.1
theorem dX7_downOf_42 : decode cX7_downOf 42 = .ok (.imul, 1) := dAX7_downOf_3.2.2.2.2.2.1
theorem dX7_downOf_43 : decode cX7_downOf 43 = .ok (.iload_n 3, 1) := dAX7_downOf_3.2.2.2.2.2.2.1
theorem dX7_downOf_44 : decode cX7_downOf 44 = .ok (.iadd, 1) := dAX7_downOf_3.2.2.2.2.2.2.2
set_option maxRecDepth 100000 in
theorem dAX7_downOf_4 : decode cX7_downOf 45 = .ok (.iaload, 1) ∧ decode cX7_downOf 46 = .ok (.invokevirtual 274, 3) ∧ decode cX7_downOf 49 = .ok (.goto 4, 3) ∧ decode cX7_downOf 52 = .ok (.iload_n 2, 1) ∧ decode cX7_downOf 53 = .ok (.istore_n 2, 1) ∧ decode cX7_downOf 54 = .ok (.iinc 3 1, 3) ∧ decode cX7_downOf 57 = .ok (.goto (-53), 3) ∧ decode cX7_downOf 60 = .ok (.iconst 1, 1) := by decide +kernel
theorem dX7_downOf_45 : decode cX7_downOf 45 = .ok (.iaload, 1) := dAX7_downOf_4.1
theorem dX7_downOf_46 : decode cX7_downOf 46 = .ok (.invokevirtual 274, 3) := dAX7_downOf_4.2.1
theorem dX7_downOf_49 : decode cX7_downOf 49 = .ok (.goto 4, 3) := dAX7_downOf_4.2.2.1
theorem dX7_downOf_52 : decode cX7_downOf 52 = .ok (.iload_n 2, 1) := dAX7_downOf_4.2.2.2.1
theorem dX7_downOf_53 : decode cX7_downOf 53 = .ok (.istore_n 2, 1) := dAX7_downOf_4.2.2.2.2.1
theorem dX7_downOf_54 : decode cX7_downOf 54 = .ok (.iinc 3 1, 3) := dAX7_downOf_4.2.2.2.2.2.1
theorem dX7_downOf_57 : decode cX7_downOf 57 = .ok (.goto (-53), 3) := dAX7_downOf_4.2.2.2.2.2.2.1
theorem dX7_downOf_60 : decode cX7_downOf 60 = .ok (.iconst 1, 1) := dAX7_downOf_4.2.2.2.2.2.2.2
set_option maxRecDepth 100000 in
theorem dAX7_downOf_5 : decode cX7_downOf 61 = .ok (.iload_n 2, 1) ∧ decode cX7_downOf 62 = .ok (.iadd, 1) ∧ decode cX7_downOf 63 = .ok (.ireturn, 1) := by decide +kernel
theorem dX7_downOf_61 : decode cX7_downOf 61 = .ok (.iload_n 2, 1) := dAX7_downOf_5.1
theorem dX7_downOf_62 : decode cX7_downOf 62 = .ok (.iadd, 1) := dAX7_downOf_5.2.1
theorem dX7_downOf_63 : decode cX7_downOf 63 = .ok (.ireturn, 1) := dAX7_downOf_5.2.2
set_option maxRecDepth 100000 in
theorem dAX7_drawOrders_0 : decode cX7_drawOrders 0 = .ok (.iload_n 1, 1) ∧ decode cX7_drawOrders 1 = .ok (.istore_n 3, 1) ∧ decode cX7_drawOrders 2 = .ok (.iconst 0, 1) ∧ decode cX7_drawOrders 3 = .ok (.istore 4, 2) ∧ decode cX7_drawOrders 5 = .ok (.aload_n 0, 1) ∧ decode cX7_drawOrders 6 = .ok (.ldc 245, 2) ∧ decode cX7_drawOrders 8 = .ok (.putfield 421, 3) ∧ decode cX7_drawOrders 11 = .ok (.iconst 0, 1) := by decide +kernel
theorem dX7_drawOrders_0 : decode cX7_drawOrders 0 = .ok (.iload_n 1, 1) := dAX7_drawOrders_0.1
theorem dX7_drawOrders_1 : decode cX7_drawOrders 1 = .ok (.istore_n 3, 1) := dAX7_drawOrders_0.2.1
theorem dX7_drawOrders_2 : decode cX7_drawOrders 2 = .ok (.iconst 0, 1) := dAX7_drawOrders_0.2.2.1
theorem dX7_drawOrders_3 : decode cX7_drawOrders 3 = .ok (.istore 4, 2) := dAX7_drawOrders_0.2.2.2.1
theorem dX7_drawOrders_5 : decode cX7_drawOrders 5 = .ok (.aload_n 0, 1) := dAX7_drawOrders_0.2.2.2.2.1
theorem dX7_drawOrders_6 : decode cX7_drawOrders 6 = .ok (.ldc 245, 2) := dAX7_drawOrders_0.2.2.2.2.2.1
theorem dX7_drawOrders_8 : decode cX7_drawOrders 8 = .ok (.putfield 421, 3) := dAX7_drawOrders_0.2.2.2.2.2.2.1
theorem dX7_drawOrders_11 : decode cX7_drawOrders 11 = .ok (.iconst 0, 1) := dAX7_drawOrders_0.2.2.2.2.2.2.2
set_option maxRecDepth 100000 in
theorem dAX7_drawOrders_1 : decode cX7_drawOrders 12 = .ok (.istore 5, 2) ∧ decode cX7_drawOrders 14 = .ok (.iload 5, 2) ∧ decode cX7_drawOrders 16 = .ok (.iload_n 2, 1) ∧ decode cX7_drawOrders 17 = .ok (.if_icmp .ge 156, 3) ∧ decode cX7_drawOrders 20 = .ok (.aload_n 0, 1) ∧ decode cX7_drawOrders 21 = .ok (.getfield 32, 3) ∧ decode cX7_drawOrders 24 = .ok (.iconst 0, 1) ∧ decode cX7_drawOrders 25 = .ok (.aload_n 0, 1) := by decide +kernel
theorem dX7_drawOrders_12 : decode cX7_drawOrders 12 = .ok (.istore 5, 2) := dAX7_drawOrders_1.1
theorem dX7_drawOrders_14 : decode cX7_drawOrders 14 = .ok (.iload 5, 2) := dAX7_drawOrders_1.2.1
theorem dX7_drawOrders_16 : decode cX7_drawOrders 16 = .ok (.iload_n 2, 1) := dAX7_drawOrders_1.2.2.1
theorem dX7_drawOrders_17 : decode cX7_drawOrders 17 = .ok (.if_icmp .ge 156, 3) := dAX7_drawOrders_1.2.2.2.1
theorem dX7_drawOrders_20 : decode cX7_drawOrders 20 = .ok (.aload_n 0, 1) := dAX7_drawOrders_1.2.2.2.2.1
theorem dX7_drawOrders_21 : decode cX7_drawOrders 21 = .ok (.getfield 32, 3) := dAX7_drawOrders_1.2.2.2.2.2.1
theorem dX7_drawOrders_24 : decode cX7_drawOrders 24 = .ok (.iconst 0, 1) := dAX7_drawOrders_1.2.2.2.2.2.2.1
theorem dX7_drawOrders_25 : decode cX7_drawOrders 25 = .ok (.aload_n 0, 1) := dAX7_drawOrders_1.2.2.2.2.2.2.2
set_option maxRecDepth 100000 in
theorem dAX7_drawOrders_2 : decode cX7_drawOrders 26 = .ok (.getfield 56, 3) ∧ decode cX7_drawOrders 29 = .ok (.iconst 0, 1) ∧ decode cX7_drawOrders 30 = .ok (.bipush 90, 2) ∧ decode cX7_drawOrders 32 = .ok (.invokestatic 156, 3) ∧ decode cX7_drawOrders 35 = .ok (.iconst 0, 1) ∧ decode cX7_drawOrders 36 = .ok (.istore 6, 2) ∧ decode cX7_drawOrders 38 = .ok (.iload 6, 2) ∧ decode cX7_drawOrders 40 = .ok (.aload_n 0, 1) := by decide +kernel
theorem dX7_drawOrders_26 : decode cX7_drawOrders 26 = .ok (.getfield 56, 3) := dAX7_drawOrders_2.1
theorem dX7_drawOrders_29 : decode cX7_drawOrders 29 = .ok (.iconst 0, 1) := dAX7_drawOrders_2.2.1
theorem dX7_drawOrders_30 : decode cX7_drawOrders 30 = .ok (.bipush 90, 2) := dAX7_drawOrders_2.2.2.1
theorem dX7_drawOrders_32 : decode cX7_drawOrders 32 = .ok (.invokestatic 156, 3) := dAX7_drawOrders_2.2.2.2.1
theorem dX7_drawOrders_35 : decode cX7_drawOrders 35 = .ok (.iconst 0, 1) := dAX7_drawOrders_2.2.2.2.2.1
theorem dX7_drawOrders_36 : decode cX7_drawOrders 36 = .ok (.istore 6, 2) := dAX7_drawOrders_2.2.2.2.2.2.1
theorem dX7_drawOrders_38 : decode cX7_drawOrders 38 = .ok (.iload 6, 2) := dAX7_drawOrders_2.2.2.2.2.2.2.1
theorem dX7_drawOrders_40 : decode cX7_drawOrders 40 = .ok (.aload_n 0, 1) := dAX7_drawOrders_2.2.2.2.2.2.2.2
set_option maxRecDepth 100000 in
theorem dAX7_drawOrders_3 : decode cX7_drawOrders 41 = .ok (.getfield 20, 3) ∧ decode cX7_drawOrders 44 = .ok (.iconst 1, 1) ∧ decode cX7_drawOrders 45 = .ok (.iaload, 1) ∧ decode cX7_drawOrders 46 = .ok (.if_icmp .ge 89, 3) ∧ decode cX7_drawOrders 49 = .ok (.aload_n 0, 1) ∧ decode cX7_drawOrders 50 = .ok (.getfield 20, 3) ∧ decode cX7_drawOrders 53 = .ok (.bipush 27, 2) ∧ decode cX7_drawOrders 55 = .ok (.iload 6, 2) := by decide +kernel
theorem dX7_drawOrders_41 : decode cX7_drawOrders 41 = .ok (.getfield 20, 3) := dAX7_drawOrders_3.1
theorem dX7_drawOrders_44 : decode cX7_drawOrders 44 = .ok (.iconst 1, 1) := dAX7_drawOrders_3.2.1
theorem dX7_drawOrders_45 : decode cX7_drawOrders 45 = .ok (.iaload, 1) := dAX7_drawOrders_3.2.2.1
theorem dX7_drawOrders_46 : decode cX7_drawOrders 46 = .ok (.if_icmp .ge 89, 3) := dAX7_drawOrders_3.2.2.2.1
theorem dX7_drawOrders_49 : decode cX7_drawOrders 49 = .ok (.aload_n 0, 1) := dAX7_drawOrders_3.2.2.2.2.1
theorem dX7_drawOrders_50 : decode cX7_drawOrders 50 = .ok (.getfield 20, 3) := dAX7_drawOrders_3.2.2.2.2.2.1
theorem dX7_drawOrders_53 : decode cX7_drawOrders 53 = .ok (.bipush 27, 2) := dAX7_drawOrders_3.2.2.2.2.2.2.1
theorem dX7_drawOrders_55 : decode cX7_drawOrders 55 = .ok (.iload 6, 2) := dAX7_drawOrders_3.2.2.2.2.2.2.2
set_option maxRecDepth 100000 in
theorem dAX7_drawOrders_4 : decode cX7_drawOrders 57 = .ok (.iadd, 1) ∧ decode cX7_drawOrders 58 = .ok (.iaload, 1) ∧ decode cX7_drawOrders 59 = .ok (.istore 7, 2) ∧ decode cX7_drawOrders 61 = .ok (.iload 7, 2) ∧ decode cX7_drawOrders 63 = .ok (.ifCond .ne 6, 3) ∧ decode cX7_drawOrders 66 = .ok (.goto 63, 3) ∧ decode cX7_drawOrders 69 = .ok (.bipush 75, 2) ∧ decode cX7_drawOrders 71 = .ok (.iload_n 3, 1) := by decide +kernel
theorem dX7_drawOrders_57 : decode cX7_drawOrders 57 = .ok (.iadd, 1) := dAX7_drawOrders_4.1
theorem dX7_drawOrders_58 : decode cX7_drawOrders 58 = .ok (.iaload, 1) := dAX7_drawOrders_4.2.1
theorem dX7_drawOrders_59 : decode cX7_drawOrders 59 = .ok (.istore 7, 2) := dAX7_drawOrders_4.2.2.1
theorem dX7_drawOrders_61 : decode cX7_drawOrders 61 = .ok (.iload 7, 2) := dAX7_drawOrders_4.2.2.2.1
theorem dX7_drawOrders_63 : decode cX7_drawOrders 63 = .ok (.ifCond .ne 6, 3) := dAX7_drawOrders_4.2.2.2.2.1
theorem dX7_drawOrders_66 : decode cX7_drawOrders 66 = .ok (.goto 63, 3) := dAX7_drawOrders_4.2.2.2.2.2.1
theorem dX7_drawOrders_69 : decode cX7_drawOrders 69 = .ok (.bipush 75, 2) := dAX7_drawOrders_4.2.2.2.2.2.2.1
theorem dX7_drawOrders_71 : decode cX7_drawOrders 71 = .ok (.iload_n 3, 1) := dAX7_drawOrders_4.2.2.2.2.2.2.2
set_option maxRecDepth 100000 in
theorem dAX7_drawOrders_5 : decode cX7_drawOrders 72 = .ok (.imul, 1) ∧ decode cX7_drawOrders 73 = .ok (.bipush 74, 2) ∧ decode cX7_drawOrders 75 = .ok (.iadd, 1) ∧ decode cX7_drawOrders 76 = .ok (.ldc_w 424, 3) ∧ decode cX7_drawOrders 79 = .ok (.irem, 1) ∧ decode cX7_drawOrders 80 = .ok (.istore_n 3, 1) ∧ decode cX7_drawOrders 81 = .ok (.iconst 0, 1) ∧ decode cX7_drawOrders 82 = .ok (.istore 8, 2) := by decide +kernel
theorem dX7_drawOrders_72 : decode cX7_drawOrders 72 = .ok (.imul, 1) := dAX7_drawOrders_5.1
theorem dX7_drawOrders_73 : decode cX7_drawOrders 73 = .ok (.bipush 74, 2) := dAX7_drawOrders_5.2.1
theorem dX7_drawOrders_75 : decode cX7_drawOrders 75 = .ok (.iadd, 1) := dAX7_drawOrders_5.2.2.1
theorem dX7_drawOrders_76 : decode cX7_drawOrders 76 = .ok (.ldc_w 424, 3) := dAX7_drawOrders_5.2.2.2.1
theorem dX7_drawOrders_79 : decode cX7_drawOrders 79 = .ok (.irem, 1) := dAX7_drawOrders_5.2.2.2.2.1
theorem dX7_drawOrders_80 : decode cX7_drawOrders 80 = .ok (.istore_n 3, 1) := dAX7_drawOrders_5.2.2.2.2.2.1
theorem dX7_drawOrders_81 : decode cX7_drawOrders 81 = .ok (.iconst 0, 1) := dAX7_drawOrders_5.2.2.2.2.2.2.1
theorem dX7_drawOrders_82 : decode cX7_drawOrders 82 = .ok (.istore 8, 2) := dAX7_drawOrders_5.2.2.2.2.2.2.2
set_option maxRecDepth 100000 in
theorem dAX7_drawOrders_6 : decode cX7_drawOrders 84 = .ok (.iload 8, 2) ∧ decode cX7_drawOrders 86 = .ok (.iload 7, 2) ∧ decode cX7_drawOrders 88 = .ok (.if_icmp .ge 41, 3) ∧ decode cX7_drawOrders 91 = .ok (.aload_n 0, 1) ∧ decode cX7_drawOrders 92 = .ok (.getfield 56, 3) ∧ decode cX7_drawOrders 95 = .ok (.iconst 4, 1) ∧ decode cX7_drawOrders 96 = .ok (.iload 6, 2) ∧ decode cX7_drawOrders 98 = .ok (.imul, 1) := by decide +kernel
theorem dX7_drawOrders_84 : decode cX7_drawOrders 84 = .ok (.iload 8, 2) := dAX7_drawOrders_6.1
theorem dX7_drawOrders_86 : decode cX7_drawOrders 86 = .ok (.iload 7, 2) := dAX7_drawOrders_6.2.1
theorem dX7_drawOrders_88 : decode cX7_drawOrders 88 = .ok (.if_icmp .ge 41, 3) := dAX7_drawOrders_6.2.2.1
theorem dX7_drawOrders_91 : decode cX7_drawOrders 91 = .ok (.aload_n 0, 1) := dAX7_drawOrders_6.2.2.2.1
theorem dX7_drawOrders_92 : decode cX7_drawOrders 92 = .ok (.getfield 56, 3) := dAX7_drawOrders_6.2.2.2.2.1
theorem dX7_drawOrders_95 : decode cX7_drawOrders 95 = .ok (.iconst 4, 1) := dAX7_drawOrders_6.2.2.2.2.2.1
theorem dX7_drawOrders_96 : decode cX7_drawOrders 96 = .ok (.iload 6, 2) := dAX7_drawOrders_6.2.2.2.2.2.2.1
theorem dX7_drawOrders_98 : decode cX7_drawOrders 98 = .ok (.imul, 1) := dAX7_drawOrders_6.2.2.2.2.2.2.2
set_option maxRecDepth 100000 in
theorem dAX7_drawOrders_7 : decode cX7_drawOrders 99 = .ok (.iload 8, 2) ∧ decode cX7_drawOrders 101 = .ok (.iadd, 1) ∧ decode cX7_drawOrders 102 = .ok (.aload_n 0, 1) ∧ decode cX7_drawOrders 103 = .ok (.getfield 32, 3) ∧ decode cX7_drawOrders 106 = .ok (.iconst 4, 1) ∧ decode cX7_drawOrders 107 = .ok (.iload 6, 2) ∧ decode cX7_drawOrders 109 = .ok (.imul, 1) ∧ decode cX7_drawOrders 110 = .ok (.iload 8, 2) := by decide +kernel
theorem dX7_drawOrders_99 : decode cX7_drawOrders 99 = .ok (.iload 8, 2) := dAX7_drawOrders_7.1
theorem dX7_drawOrders_101 : decode cX7_drawOrders 101 = .ok (.iadd, 1) := dAX7_drawOrders_7.2.1
theorem dX7_drawOrders_102 : decode cX7_drawOrders 102 = .ok (.aload_n 0, 1) := dAX7_drawOrders_7.2.2.1
theorem dX7_drawOrders_103 : decode cX7_drawOrders 103 = .ok (.getfield 32, 3) := dAX7_drawOrders_7.2.2.2.1
theorem dX7_drawOrders_106 : decode cX7_drawOrders 106 = .ok (.iconst 4, 1) := dAX7_drawOrders_7.2.2.2.2.1
theorem dX7_drawOrders_107 : decode cX7_drawOrders 107 = .ok (.iload 6, 2) := dAX7_drawOrders_7.2.2.2.2.2.1
theorem dX7_drawOrders_109 : decode cX7_drawOrders 109 = .ok (.imul, 1) := dAX7_drawOrders_7.2.2.2.2.2.2.1
theorem dX7_drawOrders_110 : decode cX7_drawOrders 110 = .ok (.iload 8, 2) := dAX7_drawOrders_7.2.2.2.2.2.2.2
set_option maxRecDepth 100000 in
theorem dAX7_drawOrders_8 : decode cX7_drawOrders 112 = .ok (.iload_n 3, 1) ∧ decode cX7_drawOrders 113 = .ok (.iload 7, 2) ∧ decode cX7_drawOrders 115 = .ok (.irem, 1) ∧ decode cX7_drawOrders 116 = .ok (.iadd, 1) ∧ decode cX7_drawOrders 117 = .ok (.iload 7, 2) ∧ decode cX7_drawOrders 119 = .ok (.irem, 1) ∧ decode cX7_drawOrders 120 = .ok (.iadd, 1) ∧ decode cX7_drawOrders 121 = .ok (.iaload, 1) := by decide +kernel
theorem dX7_drawOrders_112 : decode cX7_drawOrders 112 = .ok (.iload_n 3, 1) := dAX7_drawOrders_8.1
theorem dX7_drawOrders_113 : decode cX7_drawOrders 113 = .ok (.iload 7, 2) := dAX7_drawOrders_8.2.1
theorem dX7_drawOrders_115 : decode cX7_drawOrders 115 = .ok (.irem, 1) := dAX7_drawOrders_8.2.2.1
theorem dX7_drawOrders_116 : decode cX7_drawOrders 116 = .ok (.iadd, 1) := dAX7_drawOrders_8.2.2.2.1
theorem dX7_drawOrders_117 : decode cX7_drawOrders 117 = .ok (.iload 7, 2) := dAX7_drawOrders_8.2.2.2.2.1
theorem dX7_drawOrders_119 : decode cX7_drawOrders 119 = .ok (.irem, 1) := dAX7_drawOrders_8.2.2.2.2.2.1
theorem dX7_drawOrders_120 : decode cX7_drawOrders 120 = .ok (.iadd, 1) := dAX7_drawOrders_8.2.2.2.2.2.2.1
theorem dX7_drawOrders_121 : decode cX7_drawOrders 121 = .ok (.iaload, 1) := dAX7_drawOrders_8.2.2.2.2.2.2.2
set_option maxRecDepth 100000 in
theorem dAX7_drawOrders_9 : decode cX7_drawOrders 122 = .ok (.iastore, 1) ∧ decode cX7_drawOrders 123 = .ok (.iinc 8 1, 3) ∧ decode cX7_drawOrders 126 = .ok (.goto (-42), 3) ∧ decode cX7_drawOrders 129 = .ok (.iinc 6 1, 3) ∧ decode cX7_drawOrders 132 = .ok (.goto (-94), 3) ∧ decode cX7_drawOrders 135 = .ok (.aload_n 0, 1) ∧ decode cX7_drawOrders 136 = .ok (.aload_n 0, 1) ∧ decode cX7_drawOrders 137 = .ok (.getfield 56, 3) := by decide +kernel
theorem dX7_drawOrders_122 : decode cX7_drawOrders 122 = .ok (.iastore, 1) := dAX7_drawOrders_9.1
theorem dX7_drawOrders_123 : decode cX7_drawOrders 123 = .ok (.iinc 8 1, 3) := dAX7_drawOrders_9.2.1
theorem dX7_drawOrders_126 : decode cX7_drawOrders 126 = .ok (.goto (-42), 3) := dAX7_drawOrders_9.2.2.1
theorem dX7_drawOrders_129 : decode cX7_drawOrders 129 = .ok (.iinc 6 1, 3) := dAX7_drawOrders_9.2.2.2.1
theorem dX7_drawOrders_132 : decode cX7_drawOrders 132 = .ok (.goto (-94), 3) := dAX7_drawOrders_9.2.2.2.2.1
theorem dX7_drawOrders_135 : decode cX7_drawOrders 135 = .ok (.aload_n 0, 1) := dAX7_drawOrders_9.2.2.2.2.2.1
theorem dX7_drawOrders_136 : decode cX7_drawOrders 136 = .ok (.aload_n 0, 1) := dAX7_drawOrders_9.2.2.2.2.2.2.1
theorem dX7_drawOrders_137 : decode cX7_drawOrders 137 = .ok (.getfield 56, 3) := dAX7_drawOrders_9.2.2.2.2.2.2.2
set_option maxRecDepth 100000 in
theorem dAX7_drawOrders_10 : decode cX7_drawOrders 140 = .ok (.invokevirtual 293, 3) ∧ decode cX7_drawOrders 143 = .ok (.istore 4, 2) ∧ decode cX7_drawOrders 145 = .ok (.aload_n 0, 1) ∧ decode cX7_drawOrders 146 = .ok (.iload 4, 2) ∧ decode cX7_drawOrders 148 = .ok (.aload_n 0, 1) ∧ decode cX7_drawOrders 149 = .ok (.getfield 421, 3) ∧ decode cX7_drawOrders 152 = .ok (.if_icmp .ge 8, 3) ∧ decode cX7_drawOrders 155 = .ok (.iload 4, 2) := by decide +kernel
theorem dX7_drawOrders_140 : decode cX7_drawOrders 140 = .ok (.invokevirtual 293, 3) := dAX7_drawOrders_10.1
theorem dX7_drawOrders_143 : decode cX7_drawOrders 143 = .ok (.istore 4, 2) := dAX7_drawOrders_10.2.1
theorem dX7_drawOrders_145 : decode cX7_drawOrders 145 = .ok (.aload_n 0, 1) := dAX7_drawOrders_10.2.2.1
theorem dX7_drawOrders_146 : decode cX7_drawOrders 146 = .ok (.iload 4, 2) := dAX7_drawOrders_10.2.2.2.1
theorem dX7_drawOrders_148 : decode cX7_drawOrders 148 = .ok (.aload_n 0, 1) := dAX7_drawOrders_10.2.2.2.2.1
theorem dX7_drawOrders_149 : decode cX7_drawOrders 149 = .ok (.getfield 421, 3) := dAX7_drawOrders_10.2.2.2.2.2.1
theorem dX7_drawOrders_152 : decode cX7_drawOrders 152 = .ok (.if_icmp .ge 8, 3) := dAX7_drawOrders_10.2.2.2.2.2.2.1
theorem dX7_drawOrders_155 : decode cX7_drawOrders 155 = .ok (.iload 4, 2) := dAX7_drawOrders_10.2.2.2.2.2.2.2
set_option maxRecDepth 100000 in
theorem dAX7_drawOrders_11 : decode cX7_drawOrders 157 = .ok (.goto 7, 3) ∧ decode cX7_drawOrders 160 = .ok (.aload_n 0, 1) ∧ decode cX7_drawOrders 161 = .ok (.getfield 421, 3) ∧ decode cX7_drawOrders 164 = .ok (.putfield 421, 3) ∧ decode cX7_drawOrders 167 = .ok (.iinc 5 1, 3) ∧ decode cX7_drawOrders 170 = .ok (.goto (-156), 3) ∧ decode cX7_drawOrders 173 = .ok (.iload 4, 2) ∧ decode cX7_drawOrders 175 = .ok (.ireturn, 1) := by decide +kernel
theorem dX7_drawOrders_157 : decode cX7_drawOrders 157 = .ok (.goto 7, 3) := dAX7_drawOrders_11.1
theorem dX7_drawOrders_160 : decode cX7_drawOrders 160 = .ok (.aload_n 0, 1) := dAX7_drawOrders_11.2.1
theorem dX7_drawOrders_161 : decode cX7_drawOrders 161 = .ok (.getfield 421, 3) := dAX7_drawOrders_11.2.2.1
theorem dX7_drawOrders_164 : decode cX7_drawOrders 164 = .ok (.putfield 421, 3) := dAX7_drawOrders_11.2.2.2.1
theorem dX7_drawOrders_167 : decode cX7_drawOrders 167 = .ok (.iinc 5 1, 3) := dAX7_drawOrders_11.2.2.2.2.1
theorem dX7_drawOrders_170 : decode cX7_drawOrders 170 = .ok (.goto (-156), 3) := dAX7_drawOrders_11.2.2.2.2.2.1
theorem dX7_drawOrders_173 : decode cX7_drawOrders 173 = .ok (.iload 4, 2) := dAX7_drawOrders_11.2.2.2.2.2.2.1
theorem dX7_drawOrders_175 : decode cX7_drawOrders 175 = .ok (.ireturn, 1) := dAX7_drawOrders_11.2.2.2.2.2.2.2
set_option maxRecDepth 100000 in
theorem dAX7_drawn_0 : decode cX7_drawn 0 = .ok (.aload_n 0, 1) ∧ decode cX7_drawn 1 = .ok (.invokevirtual 175, 3) ∧ decode cX7_drawn 4 = .ok (.aload_n 0, 1) ∧ decode cX7_drawn 5 = .ok (.iload_n 1, 1) ∧ decode cX7_drawn 6 = .ok (.iconst 0, 1) ∧ decode cX7_drawn 7 = .ok (.ldc_w 425, 3) ∧ decode cX7_drawn 10 = .ok (.invokestatic 163, 3) ∧ decode cX7_drawn 13 = .ok (.ifCond .eq 17, 3) := by decide +kernel
theorem dX7_drawn_0 : decode cX7_drawn 0 = .ok (.aload_n 0, 1) := dAX7_drawn_0.1
theorem dX7_drawn_1 : decode cX7_drawn 1 = .ok (.invokevirtual 175, 3) := dAX7_drawn_0.2.1
theorem dX7_drawn_4 : decode cX7_drawn 4 = .ok (.aload_n 0, 1) := dAX7_drawn_0.2.2.1
theorem dX7_drawn_5 : decode cX7_drawn 5 = .ok (.iload_n 1, 1) := dAX7_drawn_0.2.2.2.1
theorem dX7_drawn_6 : decode cX7_drawn 6 = .ok (.iconst 0, 1) := dAX7_drawn_0.2.2.2.2.1
theorem dX7_drawn_7 : decode cX7_drawn 7 = .ok (.ldc_w 425, 3) := dAX7_drawn_0.2.2.2.2.2.1
theorem dX7_drawn_10 : decode cX7_drawn 10 = .ok (.invokestatic 163, 3) := dAX7_drawn_0.2.2.2.2.2.2.1
theorem dX7_drawn_13 : decode cX7_drawn 13 = .ok (.ifCond .eq 17, 3) := dAX7_drawn_0.2.2.2.2.2.2.2
set_option maxRecDepth 100000 in
theorem dAX7_drawn_1 : decode cX7_drawn 16 = .ok (.iload_n 2, 1) ∧ decode cX7_drawn 17 = .ok (.iconst 1, 1) ∧ decode cX7_drawn 18 = .ok (.bipush 60, 2) ∧ decode cX7_drawn 20 = .ok (.invokestatic 163, 3) ∧ decode cX7_drawn 23 = .ok (.ifCond .eq 7, 3) ∧ decode cX7_drawn 26 = .ok (.iconst 1, 1) ∧ decode cX7_drawn 27 = .ok (.goto 4, 3) ∧ decode cX7_drawn 30 = .ok (.iconst 0, 1) := by decide +kernel
theorem dX7_drawn_16 : decode cX7_drawn 16 = .ok (.iload_n 2, 1) := dAX7_drawn_1.1
theorem dX7_drawn_17 : decode cX7_drawn 17 = .ok (.iconst 1, 1) := dAX7_drawn_1.2.1
theorem dX7_drawn_18 : decode cX7_drawn 18 = .ok (.bipush 60, 2) := dAX7_drawn_1.2.2.1
theorem dX7_drawn_20 : decode cX7_drawn 20 = .ok (.invokestatic 163, 3) := dAX7_drawn_1.2.2.2.1
theorem dX7_drawn_23 : decode cX7_drawn 23 = .ok (.ifCond .eq 7, 3) := dAX7_drawn_1.2.2.2.2.1
theorem dX7_drawn_26 : decode cX7_drawn 26 = .ok (.iconst 1, 1) := dAX7_drawn_1.2.2.2.2.2.1
theorem dX7_drawn_27 : decode cX7_drawn 27 = .ok (.goto 4, 3) := dAX7_drawn_1.2.2.2.2.2.2.1
theorem dX7_drawn_30 : decode cX7_drawn 30 = .ok (.iconst 0, 1) := dAX7_drawn_1.2.2.2.2.2.2.2
set_option maxRecDepth 100000 in
theorem dAX7_drawn_2 : decode cX7_drawn 31 = .ok (.invokevirtual 307, 3) ∧ decode cX7_drawn 34 = .ok (.istore_n 3, 1) ∧ decode cX7_drawn 35 = .ok (.iload_n 3, 1) ∧ decode cX7_drawn 36 = .ok (.ifCond .eq 11, 3) ∧ decode cX7_drawn 39 = .ok (.aload_n 0, 1) ∧ decode cX7_drawn 40 = .ok (.iload_n 3, 1) ∧ decode cX7_drawn 41 = .ok (.invokevirtual 178, 3) ∧ decode cX7_drawn 44 = .ok (.goto 9, 3) := by decide +kernel
theorem dX7_drawn_31 : decode cX7_drawn 31 = .ok (.invokevirtual 307, 3) := dAX7_drawn_2.1
theorem dX7_drawn_34 : decode cX7_drawn 34 = .ok (.istore_n 3, 1) := dAX7_drawn_2.2.1
theorem dX7_drawn_35 : decode cX7_drawn 35 = .ok (.iload_n 3, 1) := dAX7_drawn_2.2.2.1
theorem dX7_drawn_36 : decode cX7_drawn 36 = .ok (.ifCond .eq 11, 3) := dAX7_drawn_2.2.2.2.1
theorem dX7_drawn_39 : decode cX7_drawn 39 = .ok (.aload_n 0, 1) := dAX7_drawn_2.2.2.2.2.1
theorem dX7_drawn_40 : decode cX7_drawn 40 = .ok (.iload_n 3, 1) := dAX7_drawn_2.2.2.2.2.2.1
theorem dX7_drawn_41 : decode cX7_drawn 41 = .ok (.invokevirtual 178, 3) := dAX7_drawn_2.2.2.2.2.2.2.1
theorem dX7_drawn_44 : decode cX7_drawn 44 = .ok (.goto 9, 3) := dAX7_drawn_2.2.2.2.2.2.2.2
set_option maxRecDepth 100000 in
theorem dAX7_drawn_3 : decode cX7_drawn 47 = .ok (.aload_n 0, 1) ∧ decode cX7_drawn 48 = .ok (.iload_n 1, 1) ∧ decode cX7_drawn 49 = .ok (.iload_n 2, 1) ∧ decode cX7_drawn 50 = .ok (.invokevirtual 426, 3) ∧ decode cX7_drawn 53 = .ok (.ireturn, 1) := by decide +kernel
theorem dX7_drawn_47 : decode cX7_drawn 47 = .ok (.aload_n 0, 1) := dAX7_drawn_3.1
theorem dX7_drawn_48 : decode cX7_drawn 48 = .ok (.iload_n 1, 1) := dAX7_drawn_3.2.1
theorem dX7_drawn_49 : decode cX7_drawn 49 = .ok (.iload_n 2, 1) := dAX7_drawn_3.2.2.1
theorem dX7_drawn_50 : decode cX7_drawn 50 = .ok (.invokevirtual 426, 3) := dAX7_drawn_3.2.2.2.1
theorem dX7_drawn_53 : decode cX7_drawn 53 = .ok (.ireturn, 1) := dAX7_drawn_3.2.2.2.2
set_option maxRecDepth 100000 in
theorem dAX7_drawnLeast_0 : decode cX7_drawnLeast 0 = .ok (.aload_n 0, 1) ∧ decode cX7_drawnLeast 1 = .ok (.invokevirtual 175, 3) ∧ decode cX7_drawnLeast 4 = .ok (.aload_n 0, 1) ∧ decode cX7_drawnLeast 5 = .ok (.iload_n 1, 1) ∧ decode cX7_drawnLeast 6 = .ok (.iconst 0, 1) ∧ decode cX7_drawnLeast 7 = .ok (.ldc_w 425, 3) ∧ decode cX7_drawnLeast 10 = .ok (.invokestatic 163, 3) ∧ decode cX7_drawnLeast 13 = .ok (.ifCond .eq 17, 3) := by decide +kernel
theorem dX7_drawnLeast_0 : decode cX7_drawnLeast 0 = .ok (.aload_n 0, 1) := dAX7_drawnLeast_0.1
theorem dX7_drawnLeast_1 : decode cX7_drawnLeast 1 = .ok (.invokevirtual 175, 3) := dAX7_drawnLeast_0.2.1
theorem dX7_drawnLeast_4 : decode cX7_drawnLeast 4 = .ok (.aload_n 0, 1) := dAX7_drawnLeast_0.2.2.1
theorem dX7_drawnLeast_5 : decode cX7_drawnLeast 5 = .ok (.iload_n 1, 1) := dAX7_drawnLeast_0.2.2.2.1
theorem dX7_drawnLeast_6 : decode cX7_drawnLeast 6 = .ok (.iconst 0, 1) := dAX7_drawnLeast_0.2.2.2.2.1
theorem dX7_drawnLeast_7 : decode cX7_drawnLeast 7 = .ok (.ldc_w 425, 3) := dAX7_drawnLeast_0.2.2.2.2.2.1
theorem dX7_drawnLeast_10 : decode cX7_drawnLeast 10 = .ok (.invokestatic 163, 3) := dAX7_drawnLeast_0.2.2.2.2.2.2.1
theorem dX7_drawnLeast_13 : decode cX7_drawnLeast 13 = .ok (.ifCond .eq 17, 3) := dAX7_drawnLeast_0.2.2.2.2.2.2.2
set_option maxRecDepth 100000 in
theorem dAX7_drawnLeast_1 : decode cX7_drawnLeast 16 = .ok (.iload_n 2, 1) ∧ decode cX7_drawnLeast 17 = .ok (.iconst 1, 1) ∧ decode cX7_drawnLeast 18 = .ok (.bipush 60, 2) ∧ decode cX7_drawnLeast 20 = .ok (.invokestatic 163, 3) ∧ decode cX7_drawnLeast 23 = .ok (.ifCond .eq 7, 3) ∧ decode cX7_drawnLeast 26 = .ok (.iconst 1, 1) ∧ decode cX7_drawnLeast 27 = .ok (.goto 4, 3) ∧ decode cX7_drawnLeast 30 = .ok (.iconst 0, 1) := by decide +kernel
theorem dX7_drawnLeast_16 : decode cX7_drawnLeast 16 = .ok (.iload_n 2, 1) := dAX7_drawnLeast_1.1
theorem dX7_drawnLeast_17 : decode cX7_drawnLeast 17 = .ok (.iconst 1, 1) := dAX7_drawnLeast_1.2.1
theorem dX7_drawnLeast_18 : decode cX7_drawnLeast 18 = .ok (.bipush 60, 2) := dAX7_drawnLeast_1.2.2.1
theorem dX7_drawnLeast_20 : decode cX7_drawnLeast 20 = .ok (.invokestatic 163, 3) := dAX7_drawnLeast_1.2.2.2.1
theorem dX7_drawnLeast_23 : decode cX7_drawnLeast 23 = .ok (.ifCond .eq 7, 3) := dAX7_drawnLeast_1.2.2.2.2.1
theorem dX7_drawnLeast_26 : decode cX7_drawnLeast 26 = .ok (.iconst 1, 1) := dAX7_drawnLeast_1.2.2.2.2.2.1
theorem dX7_drawnLeast_27 : decode cX7_drawnLeast 27 = .ok (.goto 4, 3) := dAX7_drawnLeast_1.2.2.2.2.2.2.1
theorem dX7_drawnLeast_30 : decode cX7_drawnLeast 30 = .ok (.iconst 0, 1) := dAX7_drawnLeast_1.2.2.2.2.2.2.2
set_option maxRecDepth 100000 in
theorem dAX7_drawnLeast_2 : decode cX7_drawnLeast 31 = .ok (.invokevirtual 307, 3) ∧ decode cX7_drawnLeast 34 = .ok (.istore_n 3, 1) ∧ decode cX7_drawnLeast 35 = .ok (.iload_n 3, 1) ∧ decode cX7_drawnLeast 36 = .ok (.ifCond .eq 9, 3) ∧ decode cX7_drawnLeast 39 = .ok (.aload_n 0, 1) ∧ decode cX7_drawnLeast 40 = .ok (.iload_n 3, 1) ∧ decode cX7_drawnLeast 41 = .ok (.invokevirtual 178, 3) ∧ decode cX7_drawnLeast 44 = .ok (.ireturn, 1) := by decide +kernel
theorem dX7_drawnLeast_31 : decode cX7_drawnLeast 31 = .ok (.invokevirtual 307, 3) := dAX7_drawnLeast_2.1
theorem dX7_drawnLeast_34 : decode cX7_drawnLeast 34 = .ok (.istore_n 3, 1) := dAX7_drawnLeast_2.2.1
theorem dX7_drawnLeast_35 : decode cX7_drawnLeast 35 = .ok (.iload_n 3, 1) := dAX7_drawnLeast_2.2.2.1
theorem dX7_drawnLeast_36 : decode cX7_drawnLeast 36 = .ok (.ifCond .eq 9, 3) := dAX7_drawnLeast_2.2.2.2.1
theorem dX7_drawnLeast_39 : decode cX7_drawnLeast 39 = .ok (.aload_n 0, 1) := dAX7_drawnLeast_2.2.2.2.2.1
theorem dX7_drawnLeast_40 : decode cX7_drawnLeast 40 = .ok (.iload_n 3, 1) := dAX7_drawnLeast_2.2.2.2.2.2.1
theorem dX7_drawnLeast_41 : decode cX7_drawnLeast 41 = .ok (.invokevirtual 178, 3) := dAX7_drawnLeast_2.2.2.2.2.2.2.1
theorem dX7_drawnLeast_44 : decode cX7_drawnLeast 44 = .ok (.ireturn, 1) := dAX7_drawnLeast_2.2.2.2.2.2.2.2
set_option maxRecDepth 100000 in
theorem dAX7_drawnLeast_3 : decode cX7_drawnLeast 45 = .ok (.aload_n 0, 1) ∧ decode cX7_drawnLeast 46 = .ok (.iload_n 1, 1) ∧ decode cX7_drawnLeast 47 = .ok (.iload_n 2, 1) ∧ decode cX7_drawnLeast 48 = .ok (.invokevirtual 426, 3) ∧ decode cX7_drawnLeast 51 = .ok (.pop, 1) ∧ decode cX7_drawnLeast 52 = .ok (.aload_n 0, 1) ∧ decode cX7_drawnLeast 53 = .ok (.getfield 421, 3) ∧ decode cX7_drawnLeast 56 = .ok (.ireturn, 1) := by decide +kernel
theorem dX7_drawnLeast_45 : decode cX7_drawnLeast 45 = .ok (.aload_n 0, 1) := dAX7_drawnLeast_3.1
theorem dX7_drawnLeast_46 : decode cX7_drawnLeast 46 = .ok (.iload_n 1, 1) := dAX7_drawnLeast_3.2.1
theorem dX7_drawnLeast_47 : decode cX7_drawnLeast 47 = .ok (.iload_n 2, 1) := dAX7_drawnLeast_3.2.2.1
theorem dX7_drawnLeast_48 : decode cX7_drawnLeast 48 = .ok (.invokevirtual 426, 3) := dAX7_drawnLeast_3.2.2.2.1
theorem dX7_drawnLeast_51 : decode cX7_drawnLeast 51 = .ok (.pop, 1) := dAX7_drawnLeast_3.2.2.2.2.1
theorem dX7_drawnLeast_52 : decode cX7_drawnLeast 52 = .ok (.aload_n 0, 1) := dAX7_drawnLeast_3.2.2.2.2.2.1
theorem dX7_drawnLeast_53 : decode cX7_drawnLeast 53 = .ok (.getfield 421, 3) := dAX7_drawnLeast_3.2.2.2.2.2.2.1
theorem dX7_drawnLeast_56 : decode cX7_drawnLeast 56 = .ok (.ireturn, 1) := dAX7_drawnLeast_3.2.2.2.2.2.2.2
set_option maxRecDepth 100000 in
theorem dAX7_fault_0 : decode cX7_fault 0 = .ok (.aload_n 0, 1) ∧ decode cX7_fault 1 = .ok (.iconst 0, 1) ∧ decode cX7_fault 2 = .ok (.putfield 65, 3) ∧ decode cX7_fault 5 = .ok (.aload_n 0, 1) ∧ decode cX7_fault 6 = .ok (.getfield 107, 3) ∧ decode cX7_fault 9 = .ok (.ireturn, 1) := by decide +kernel
theorem dX7_fault_0 : decode cX7_fault 0 = .ok (.aload_n 0, 1) := dAX7_fault_0.1
theorem dX7_fault_1 : decode cX7_fault 1 = .ok (.iconst 0, 1) := dAX7_fault_0.2.1
theorem dX7_fault_2 : decode cX7_fault 2 = .ok (.putfield 65, 3) := dAX7_fault_0.2.2.1
theorem dX7_fault_5 : decode cX7_fault 5 = .ok (.aload_n 0, 1) := dAX7_fault_0.2.2.2.1
theorem dX7_fault_6 : decode cX7_fault 6 = .ok (.getfield 107, 3) := dAX7_fault_0.2.2.2.2.1
theorem dX7_fault_9 : decode cX7_fault 9 = .ok (.ireturn, 1) := dAX7_fault_0.2.2.2.2.2
set_option maxRecDepth 100000 in
theorem dAX7_feed_0 : decode cX7_feed 0 = .ok (.aload_n 0, 1) ∧ decode cX7_feed 1 = .ok (.iconst 0, 1) ∧ decode cX7_feed 2 = .ok (.putfield 65, 3) ∧ decode cX7_feed 5 = .ok (.aload_n 0, 1) ∧ decode cX7_feed 6 = .ok (.getfield 71, 3) ∧ decode cX7_feed 9 = .ok (.bipush 20, 2) ∧ decode cX7_feed 11 = .ok (.iadd, 1) ∧ decode cX7_feed 12 = .ok (.sipush 900, 3) := by decide +kernel
theorem dX7_feed_0 : decode cX7_feed 0 = .ok (.aload_n 0, 1) := dAX7_feed_0.1
theorem dX7_feed_1 : decode cX7_feed 1 = .ok (.iconst 0, 1) := dAX7_feed_0.2.1
theorem dX7_feed_2 : decode cX7_feed 2 = .ok (.putfield 65, 3) := dAX7_feed_0.2.2.1
theorem dX7_feed_5 : decode cX7_feed 5 = .ok (.aload_n 0, 1) := dAX7_feed_0.2.2.2.1
theorem dX7_feed_6 : decode cX7_feed 6 = .ok (.getfield 71, 3) := dAX7_feed_0.2.2.2.2.1
theorem dX7_feed_9 : decode cX7_feed 9 = .ok (.bipush 20, 2) := dAX7_feed_0.2.2.2.2.2.1
theorem dX7_feed_11 : decode cX7_feed 11 = .ok (.iadd, 1) := dAX7_feed_0.2.2.2.2.2.2.1
theorem dX7_feed_12 : decode cX7_feed 12 = .ok (.sipush 900, 3) := dAX7_feed_0.2.2.2.2.2.2.2
set_option maxRecDepth 100000 in
theorem dAX7_feed_1 : decode cX7_feed 15 = .ok (.if_icmp .le 5, 3) ∧ decode cX7_feed 18 = .ok (.iconst (-1), 1) ∧ decode cX7_feed 19 = .ok (.ireturn, 1) ∧ decode cX7_feed 20 = .ok (.iconst 0, 1) ∧ decode cX7_feed 21 = .ok (.istore 6, 2) ∧ decode cX7_feed 23 = .ok (.iload 6, 2) ∧ decode cX7_feed 25 = .ok (.bipush 20, 2) ∧ decode cX7_feed 27 = .ok (.if_icmp .ge 93, 3) := by decide +kernel
theorem dX7_feed_15 : decode cX7_feed 15 = .ok (.if_icmp .le 5, 3) := dAX7_feed_1.1
theorem dX7_feed_18 : decode cX7_feed 18 = .ok (.iconst (-1), 1) := dAX7_feed_1.2.1
theorem dX7_feed_19 : decode cX7_feed 19 = .ok (.ireturn, 1) := dAX7_feed_1.2.2.1
theorem dX7_feed_20 : decode cX7_feed 20 = .ok (.iconst 0, 1) := dAX7_feed_1.2.2.2.1
theorem dX7_feed_21 : decode cX7_feed 21 = .ok (.istore 6, 2) := dAX7_feed_1.2.2.2.2.1
theorem dX7_feed_23 : decode cX7_feed 23 = .ok (.iload 6, 2) := dAX7_feed_1.2.2.2.2.2.1
theorem dX7_feed_25 : decode cX7_feed 25 = .ok (.bipush 20, 2) := dAX7_feed_1.2.2.2.2.2.2.1
theorem dX7_feed_27 : decode cX7_feed 27 = .ok (.if_icmp .ge 93, 3) := dAX7_feed_1.2.2.2.2.2.2.2
set_option maxRecDepth 100000 in
theorem dAX7_feed_2 : decode cX7_feed 30 = .ok (.iload 6, 2) ∧ decode cX7_feed 32 = .ok (.iconst 4, 1) ∧ decode cX7_feed 33 = .ok (.if_icmp .ge 7, 3) ∧ decode cX7_feed 36 = .ok (.iload_n 1, 1) ∧ decode cX7_feed 37 = .ok (.goto 39, 3) ∧ decode cX7_feed 40 = .ok (.iload 6, 2) ∧ decode cX7_feed 42 = .ok (.bipush 8, 2) ∧ decode cX7_feed 44 = .ok (.if_icmp .ge 7, 3) := by decide +kernel
theorem dX7_feed_30 : decode cX7_feed 30 = .ok (.iload 6, 2) := dAX7_feed_2.1
theorem dX7_feed_32 : decode cX7_feed 32 = .ok (.iconst 4, 1) := dAX7_feed_2.2.1
theorem dX7_feed_33 : decode cX7_feed 33 = .ok (.if_icmp .ge 7, 3) := dAX7_feed_2.2.2.1
theorem dX7_feed_36 : decode cX7_feed 36 = .ok (.iload_n 1, 1) := dAX7_feed_2.2.2.2.1
theorem dX7_feed_37 : decode cX7_feed 37 = .ok (.goto 39, 3) := dAX7_feed_2.2.2.2.2.1
theorem dX7_feed_40 : decode cX7_feed 40 = .ok (.iload 6, 2) := dAX7_feed_2.2.2.2.2.2.1
theorem dX7_feed_42 : decode cX7_feed 42 = .ok (.bipush 8, 2) := dAX7_feed_2.2.2.2.2.2.2.1
theorem dX7_feed_44 : decode cX7_feed 44 = .ok (.if_icmp .ge 7, 3) := dAX7_feed_2.2.2.2.2.2.2.2
set_option maxRecDepth 100000 in
theorem dAX7_feed_3 : decode cX7_feed 47 = .ok (.iload_n 2, 1) ∧ decode cX7_feed 48 = .ok (.goto 28, 3) ∧ decode cX7_feed 51 = .ok (.iload 6, 2) ∧ decode cX7_feed 53 = .ok (.bipush 12, 2) ∧ decode cX7_feed 55 = .ok (.if_icmp .ge 7, 3) ∧ decode cX7_feed 58 = .ok (.iload_n 3, 1) ∧ decode cX7_feed 59 = .ok (.goto 17, 3) ∧ decode cX7_feed 62 = .ok (.iload 6, 2) := by decide +kernel
theorem dX7_feed_47 : decode cX7_feed 47 = .ok (.iload_n 2, 1) := dAX7_feed_3.1
theorem dX7_feed_48 : decode cX7_feed 48 = .ok (.goto 28, 3) := dAX7_feed_3.2.1
theorem dX7_feed_51 : decode cX7_feed 51 = .ok (.iload 6, 2) := dAX7_feed_3.2.2.1
theorem dX7_feed_53 : decode cX7_feed 53 = .ok (.bipush 12, 2) := dAX7_feed_3.2.2.2.1
theorem dX7_feed_55 : decode cX7_feed 55 = .ok (.if_icmp .ge 7, 3) := dAX7_feed_3.2.2.2.2.1
theorem dX7_feed_58 : decode cX7_feed 58 = .ok (.iload_n 3, 1) := dAX7_feed_3.2.2.2.2.2.1
theorem dX7_feed_59 : decode cX7_feed 59 = .ok (.goto 17, 3) := dAX7_feed_3.2.2.2.2.2.2.1
theorem dX7_feed_62 : decode cX7_feed 62 = .ok (.iload 6, 2) := dAX7_feed_3.2.2.2.2.2.2.2
set_option maxRecDepth 100000 in
theorem dAX7_feed_4 : decode cX7_feed 64 = .ok (.bipush 16, 2) ∧ decode cX7_feed 66 = .ok (.if_icmp .ge 8, 3) ∧ decode cX7_feed 69 = .ok (.iload 4, 2) ∧ decode cX7_feed 71 = .ok (.goto 5, 3) ∧ decode cX7_feed 74 = .ok (.iload 5, 2) ∧ decode cX7_feed 76 = .ok (.istore 7, 2) ∧ decode cX7_feed 78 = .ok (.aload_n 0, 1) ∧ decode cX7_feed 79 = .ok (.getfield 7, 3) := by decide +kernel
theorem dX7_feed_64 : decode cX7_feed 64 = .ok (.bipush 16, 2) := dAX7_feed_4.1
theorem dX7_feed_66 : decode cX7_feed 66 = .ok (.if_icmp .ge 8, 3) := dAX7_feed_4.2.1
theorem dX7_feed_69 : decode cX7_feed 69 = .ok (.iload 4, 2) := dAX7_feed_4.2.2.1
theorem dX7_feed_71 : decode cX7_feed 71 = .ok (.goto 5, 3) := dAX7_feed_4.2.2.2.1
theorem dX7_feed_74 : decode cX7_feed 74 = .ok (.iload 5, 2) := dAX7_feed_4.2.2.2.2.1
theorem dX7_feed_76 : decode cX7_feed 76 = .ok (.istore 7, 2) := dAX7_feed_4.2.2.2.2.2.1
theorem dX7_feed_78 : decode cX7_feed 78 = .ok (.aload_n 0, 1) := dAX7_feed_4.2.2.2.2.2.2.1
theorem dX7_feed_79 : decode cX7_feed 79 = .ok (.getfield 7, 3) := dAX7_feed_4.2.2.2.2.2.2.2
set_option maxRecDepth 100000 in
theorem dAX7_feed_5 : decode cX7_feed 82 = .ok (.aload_n 0, 1) ∧ decode cX7_feed 83 = .ok (.getfield 71, 3) ∧ decode cX7_feed 86 = .ok (.iload 7, 2) ∧ decode cX7_feed 88 = .ok (.bipush 24, 2) ∧ decode cX7_feed 90 = .ok (.bipush 8, 2) ∧ decode cX7_feed 92 = .ok (.iload 6, 2) ∧ decode cX7_feed 94 = .ok (.iconst 4, 1) ∧ decode cX7_feed 95 = .ok (.irem, 1) := by decide +kernel
theorem dX7_feed_82 : decode cX7_feed 82 = .ok (.aload_n 0, 1) := dAX7_feed_5.1
theorem dX7_feed_83 : decode cX7_feed 83 = .ok (.getfield 71, 3) := dAX7_feed_5.2.1
theorem dX7_feed_86 : decode cX7_feed 86 = .ok (.iload 7, 2) := dAX7_feed_5.2.2.1
theorem dX7_feed_88 : decode cX7_feed 88 = .ok (.bipush 24, 2) := dAX7_feed_5.2.2.2.1
theorem dX7_feed_90 : decode cX7_feed 90 = .ok (.bipush 8, 2) := dAX7_feed_5.2.2.2.2.1
theorem dX7_feed_92 : decode cX7_feed 92 = .ok (.iload 6, 2) := dAX7_feed_5.2.2.2.2.2.1
theorem dX7_feed_94 : decode cX7_feed 94 = .ok (.iconst 4, 1) := dAX7_feed_5.2.2.2.2.2.2.1
theorem dX7_feed_95 : decode cX7_feed 95 = .ok (.irem, 1) := dAX7_feed_5.2.2.2.2.2.2.2
set_option maxRecDepth 100000 in
theorem dAX7_feed_6 : decode cX7_feed 96 = .ok (.imul, 1) ∧ decode cX7_feed 97 = .ok (.isub, 1) ∧ decode cX7_feed 98 = .ok (.ishr, 1) ∧ decode cX7_feed 99 = .ok (.sipush 255, 3) ∧ decode cX7_feed 102 = .ok (.iand, 1) ∧ decode cX7_feed 103 = .ok (.iastore, 1) ∧ decode cX7_feed 104 = .ok (.aload_n 0, 1) ∧ decode cX7_feed 105 = .ok (.dup, 1) := by decide +kernel
theorem dX7_feed_96 : decode cX7_feed 96 = .ok (.imul, 1) := dAX7_feed_6.1
theorem dX7_feed_97 : decode cX7_feed 97 = .ok (.isub, 1) := dAX7_feed_6.2.1
theorem dX7_feed_98 : decode cX7_feed 98 = .ok (.ishr, 1) := dAX7_feed_6.2.2.1
theorem dX7_feed_99 : decode cX7_feed 99 = .ok (.sipush 255, 3) := dAX7_feed_6.2.2.2.1
theorem dX7_feed_102 : decode cX7_feed 102 = .ok (.iand, 1) := dAX7_feed_6.2.2.2.2.1
theorem dX7_feed_103 : decode cX7_feed 103 = .ok (.iastore, 1) := dAX7_feed_6.2.2.2.2.2.1
theorem dX7_feed_104 : decode cX7_feed 104 = .ok (.aload_n 0, 1) := dAX7_feed_6.2.2.2.2.2.2.1
theorem dX7_feed_105 : decode cX7_feed 105 = .ok (.dup, 1) := dAX7_feed_6.2.2.2.2.2.2.2
set_option maxRecDepth 100000 in
theorem dAX7_feed_7 : decode cX7_feed 106 = .ok (.getfield 71, 3) ∧ decode cX7_feed 109 = .ok (.iconst 1, 1) ∧ decode cX7_feed 110 = .ok (.iadd, 1) ∧ decode cX7_feed 111 = .ok (.putfield 71, 3) ∧ decode cX7_feed 114 = .ok (.iinc 6 1, 3) ∧ decode cX7_feed 117 = .ok (.goto (-94), 3) ∧ decode cX7_feed 120 = .ok (.aload_n 0, 1) ∧ decode cX7_feed 121 = .ok (.getfield 71, 3) := by decide +kernel
theorem dX7_feed_106 : decode cX7_feed 106 = .ok (.getfield 71, 3) := dAX7_feed_7.1
theorem dX7_feed_109 : decode cX7_feed 109 = .ok (.iconst 1, 1) := dAX7_feed_7.2.1
theorem dX7_feed_110 : decode cX7_feed 110 = .ok (.iadd, 1) := dAX7_feed_7.2.2.1
theorem dX7_feed_111 : decode cX7_feed 111 = .ok (.putfield 71, 3) := dAX7_feed_7.2.2.2.1
theorem dX7_feed_114 : decode cX7_feed 114 = .ok (.iinc 6 1, 3) := dAX7_feed_7.2.2.2.2.1
theorem dX7_feed_117 : decode cX7_feed 117 = .ok (.goto (-94), 3) := dAX7_feed_7.2.2.2.2.2.1
theorem dX7_feed_120 : decode cX7_feed 120 = .ok (.aload_n 0, 1) := dAX7_feed_7.2.2.2.2.2.2.1
theorem dX7_feed_121 : decode cX7_feed 121 = .ok (.getfield 71, 3) := dAX7_feed_7.2.2.2.2.2.2.2
theorem dX7_feed_124 : decode cX7_feed 124 = .ok (.ireturn, 1) := by decide +kernel
set_option maxRecDepth 100000 in
theorem dAX7_fewestFor_0 : decode cX7_fewestFor 0 = .ok (.iconst 0, 1) ∧ decode cX7_fewestFor 1 = .ok (.istore_n 3, 1) ∧ decode cX7_fewestFor 2 = .ok (.iconst 0, 1) ∧ decode cX7_fewestFor 3 = .ok (.istore 4, 2) ∧ decode cX7_fewestFor 5 = .ok (.iload 4, 2) ∧ decode cX7_fewestFor 7 = .ok (.aload_n 0, 1) ∧ decode cX7_fewestFor 8 = .ok (.getfield 20, 3) ∧ decode cX7_fewestFor 11 = .ok (.iconst 1, 1) := by decide +kernel
theorem dX7_fewestFor_0 : decode cX7_fewestFor 0 = .ok (.iconst 0, 1) := dAX7_fewestFor_0.1
theorem dX7_fewestFor_1 : decode cX7_fewestFor 1 = .ok (.istore_n 3, 1) := dAX7_fewestFor_0.2.1
theorem dX7_fewestFor_2 : decode cX7_fewestFor 2 = .ok (.iconst 0, 1) := dAX7_fewestFor_0.2.2.1
theorem dX7_fewestFor_3 : decode cX7_fewestFor 3 = .ok (.istore 4, 2) := dAX7_fewestFor_0.2.2.2.1
theorem dX7_fewestFor_5 : decode cX7_fewestFor 5 = .ok (.iload 4, 2) := dAX7_fewestFor_0.2.2.2.2.1
theorem dX7_fewestFor_7 : decode cX7_fewestFor 7 = .ok (.aload_n 0, 1) := dAX7_fewestFor_0.2.2.2.2.2.1
theorem dX7_fewestFor_8 : decode cX7_fewestFor 8 = .ok (.getfield 20, 3) := dAX7_fewestFor_0.2.2.2.2.2.2.1
theorem dX7_fewestFor_11 : decode cX7_fewestFor 11 = .ok (.iconst 1, 1) := dAX7_fewestFor_0.2.2.2.2.2.2.2
set_option maxRecDepth 100000 in
theorem dAX7_fewestFor_1 : decode cX7_fewestFor 12 = .ok (.iaload, 1) ∧ decode cX7_fewestFor 13 = .ok (.if_icmp .ge 36, 3) ∧ decode cX7_fewestFor 16 = .ok (.aload_n 0, 1) ∧ decode cX7_fewestFor 17 = .ok (.getfield 20, 3) ∧ decode cX7_fewestFor 20 = .ok (.bipush 9, 2) ∧ decode cX7_fewestFor 22 = .ok (.iload 4, 2) ∧ decode cX7_fewestFor 24 = .ok (.iadd, 1) ∧ decode cX7_fewestFor 25 = .ok (.iaload, 1) := by decide +kernel
theorem dX7_fewestFor_12 : decode cX7_fewestFor 12 = .ok (.iaload, 1) := dAX7_fewestFor_1.1
theorem dX7_fewestFor_13 : decode cX7_fewestFor 13 = .ok (.if_icmp .ge 36, 3) := dAX7_fewestFor_1.2.1
theorem dX7_fewestFor_16 : decode cX7_fewestFor 16 = .ok (.aload_n 0, 1) := dAX7_fewestFor_1.2.2.1
theorem dX7_fewestFor_17 : decode cX7_fewestFor 17 = .ok (.getfield 20, 3) := dAX7_fewestFor_1.2.2.2.1
theorem dX7_fewestFor_20 : decode cX7_fewestFor 20 = .ok (.bipush 9, 2) := dAX7_fewestFor_1.2.2.2.2.1
theorem dX7_fewestFor_22 : decode cX7_fewestFor 22 = .ok (.iload 4, 2) := dAX7_fewestFor_1.2.2.2.2.2.1
theorem dX7_fewestFor_24 : decode cX7_fewestFor 24 = .ok (.iadd, 1) := dAX7_fewestFor_1.2.2.2.2.2.2.1
theorem dX7_fewestFor_25 : decode cX7_fewestFor 25 = .ok (.iaload, 1) := dAX7_fewestFor_1.2.2.2.2.2.2.2
set_option maxRecDepth 100000 in
theorem dAX7_fewestFor_2 : decode cX7_fewestFor 26 = .ok (.ifCond .eq 6, 3) ∧ decode cX7_fewestFor 29 = .ok (.goto 14, 3) ∧ decode cX7_fewestFor 32 = .ok (.aload_n 0, 1) ∧ decode cX7_fewestFor 33 = .ok (.getfield 59, 3) ∧ decode cX7_fewestFor 36 = .ok (.iload_n 3, 1) ∧ decode cX7_fewestFor 37 = .ok (.iload 4, 2) ∧ decode cX7_fewestFor 39 = .ok (.iastore, 1) ∧ decode cX7_fewestFor 40 = .ok (.iinc 3 1, 3) := by decide +kernel
theorem dX7_fewestFor_26 : decode cX7_fewestFor 26 = .ok (.ifCond .eq 6, 3) := dAX7_fewestFor_2.1
theorem dX7_fewestFor_29 : decode cX7_fewestFor 29 = .ok (.goto 14, 3) := dAX7_fewestFor_2.2.1
theorem dX7_fewestFor_32 : decode cX7_fewestFor 32 = .ok (.aload_n 0, 1) := dAX7_fewestFor_2.2.2.1
theorem dX7_fewestFor_33 : decode cX7_fewestFor 33 = .ok (.getfield 59, 3) := dAX7_fewestFor_2.2.2.2.1
theorem dX7_fewestFor_36 : decode cX7_fewestFor 36 = .ok (.iload_n 3, 1) := dAX7_fewestFor_2.2.2.2.2.1
theorem dX7_fewestFor_37 : decode cX7_fewestFor 37 = .ok (.iload 4, 2) := dAX7_fewestFor_2.2.2.2.2.2.1
theorem dX7_fewestFor_39 : decode cX7_fewestFor 39 = .ok (.iastore, 1) := dAX7_fewestFor_2.2.2.2.2.2.2.1
theorem dX7_fewestFor_40 : decode cX7_fewestFor 40 = .ok (.iinc 3 1, 3) := dAX7_fewestFor_2.2.2.2.2.2.2.2
set_option maxRecDepth 100000 in
theorem dAX7_fewestFor_3 : decode cX7_fewestFor 43 = .ok (.iinc 4 1, 3) ∧ decode cX7_fewestFor 46 = .ok (.goto (-41), 3) ∧ decode cX7_fewestFor 49 = .ok (.bipush (-2), 2) ∧ decode cX7_fewestFor 51 = .ok (.istore 4, 2) ∧ decode cX7_fewestFor 53 = .ok (.iconst 0, 1) ∧ decode cX7_fewestFor 54 = .ok (.istore 5, 2) ∧ decode cX7_fewestFor 56 = .ok (.iload 5, 2) ∧ decode cX7_fewestFor 58 = .ok (.iconst 1, 1) := by decide +kernel
theorem dX7_fewestFor_43 : decode cX7_fewestFor 43 = .ok (.iinc 4 1, 3) := dAX7_fewestFor_3.1
theorem dX7_fewestFor_46 : decode cX7_fewestFor 46 = .ok (.goto (-41), 3) := dAX7_fewestFor_3.2.1
theorem dX7_fewestFor_49 : decode cX7_fewestFor 49 = .ok (.bipush (-2), 2) := dAX7_fewestFor_3.2.2.1
theorem dX7_fewestFor_51 : decode cX7_fewestFor 51 = .ok (.istore 4, 2) := dAX7_fewestFor_3.2.2.2.1
theorem dX7_fewestFor_53 : decode cX7_fewestFor 53 = .ok (.iconst 0, 1) := dAX7_fewestFor_3.2.2.2.2.1
theorem dX7_fewestFor_54 : decode cX7_fewestFor 54 = .ok (.istore 5, 2) := dAX7_fewestFor_3.2.2.2.2.2.1
theorem dX7_fewestFor_56 : decode cX7_fewestFor 56 = .ok (.iload 5, 2) := dAX7_fewestFor_3.2.2.2.2.2.2.1
theorem dX7_fewestFor_58 : decode cX7_fewestFor 58 = .ok (.iconst 1, 1) := dAX7_fewestFor_3.2.2.2.2.2.2.2
set_option maxRecDepth 100000 in
theorem dAX7_fewestFor_4 : decode cX7_fewestFor 59 = .ok (.iload_n 3, 1) ∧ decode cX7_fewestFor 60 = .ok (.ishl, 1) ∧ decode cX7_fewestFor 61 = .ok (.if_icmp .ge 91, 3) ∧ decode cX7_fewestFor 64 = .ok (.iload 4, 2) ∧ decode cX7_fewestFor 66 = .ok (.ifCond .lt 19, 3) ∧ decode cX7_fewestFor 69 = .ok (.iload 5, 2) ∧ decode cX7_fewestFor 71 = .ok (.invokestatic 329, 3) ∧ decode cX7_fewestFor 74 = .ok (.iload 4, 2) := by decide +kernel
theorem dX7_fewestFor_59 : decode cX7_fewestFor 59 = .ok (.iload_n 3, 1) := dAX7_fewestFor_4.1
theorem dX7_fewestFor_60 : decode cX7_fewestFor 60 = .ok (.ishl, 1) := dAX7_fewestFor_4.2.1
theorem dX7_fewestFor_61 : decode cX7_fewestFor 61 = .ok (.if_icmp .ge 91, 3) := dAX7_fewestFor_4.2.2.1
theorem dX7_fewestFor_64 : decode cX7_fewestFor 64 = .ok (.iload 4, 2) := dAX7_fewestFor_4.2.2.2.1
theorem dX7_fewestFor_66 : decode cX7_fewestFor 66 = .ok (.ifCond .lt 19, 3) := dAX7_fewestFor_4.2.2.2.2.1
theorem dX7_fewestFor_69 : decode cX7_fewestFor 69 = .ok (.iload 5, 2) := dAX7_fewestFor_4.2.2.2.2.2.1
theorem dX7_fewestFor_71 : decode cX7_fewestFor 71 = .ok (.invokestatic 329, 3) := dAX7_fewestFor_4.2.2.2.2.2.2.1
theorem dX7_fewestFor_74 : decode cX7_fewestFor 74 = .ok (.iload 4, 2) := dAX7_fewestFor_4.2.2.2.2.2.2.2
set_option maxRecDepth 100000 in
theorem dAX7_fewestFor_5 : decode cX7_fewestFor 76 = .ok (.invokestatic 329, 3) ∧ decode cX7_fewestFor 79 = .ok (.if_icmp .lt 6, 3) ∧ decode cX7_fewestFor 82 = .ok (.goto 64, 3) ∧ decode cX7_fewestFor 85 = .ok (.iconst 0, 1) ∧ decode cX7_fewestFor 86 = .ok (.istore 6, 2) ∧ decode cX7_fewestFor 88 = .ok (.iconst 0, 1) ∧ decode cX7_fewestFor 89 = .ok (.istore 7, 2) ∧ decode cX7_fewestFor 91 = .ok (.iload 7, 2) := by decide +kernel
theorem dX7_fewestFor_76 : decode cX7_fewestFor 76 = .ok (.invokestatic 329, 3) := dAX7_fewestFor_5.1
theorem dX7_fewestFor_79 : decode cX7_fewestFor 79 = .ok (.if_icmp .lt 6, 3) := dAX7_fewestFor_5.2.1
theorem dX7_fewestFor_82 : decode cX7_fewestFor 82 = .ok (.goto 64, 3) := dAX7_fewestFor_5.2.2.1
theorem dX7_fewestFor_85 : decode cX7_fewestFor 85 = .ok (.iconst 0, 1) := dAX7_fewestFor_5.2.2.2.1
theorem dX7_fewestFor_86 : decode cX7_fewestFor 86 = .ok (.istore 6, 2) := dAX7_fewestFor_5.2.2.2.2.1
theorem dX7_fewestFor_88 : decode cX7_fewestFor 88 = .ok (.iconst 0, 1) := dAX7_fewestFor_5.2.2.2.2.2.1
theorem dX7_fewestFor_89 : decode cX7_fewestFor 89 = .ok (.istore 7, 2) := dAX7_fewestFor_5.2.2.2.2.2.2.1
theorem dX7_fewestFor_91 : decode cX7_fewestFor 91 = .ok (.iload 7, 2) := dAX7_fewestFor_5.2.2.2.2.2.2.2
set_option maxRecDepth 100000 in
theorem dAX7_fewestFor_6 : decode cX7_fewestFor 93 = .ok (.iload_n 3, 1) ∧ decode cX7_fewestFor 94 = .ok (.if_icmp .ge 37, 3) ∧ decode cX7_fewestFor 97 = .ok (.iload 6, 2) ∧ decode cX7_fewestFor 99 = .ok (.iload 5, 2) ∧ decode cX7_fewestFor 101 = .ok (.iload 7, 2) ∧ decode cX7_fewestFor 103 = .ok (.invokestatic 320, 3) ∧ decode cX7_fewestFor 106 = .ok (.ifCond .eq 15, 3) ∧ decode cX7_fewestFor 109 = .ok (.iconst 1, 1) := by decide +kernel
theorem dX7_fewestFor_93 : decode cX7_fewestFor 93 = .ok (.iload_n 3, 1) := dAX7_fewestFor_6.1
theorem dX7_fewestFor_94 : decode cX7_fewestFor 94 = .ok (.if_icmp .ge 37, 3) := dAX7_fewestFor_6.2.1
theorem dX7_fewestFor_97 : decode cX7_fewestFor 97 = .ok (.iload 6, 2) := dAX7_fewestFor_6.2.2.1
theorem dX7_fewestFor_99 : decode cX7_fewestFor 99 = .ok (.iload 5, 2) := dAX7_fewestFor_6.2.2.2.1
theorem dX7_fewestFor_101 : decode cX7_fewestFor 101 = .ok (.iload 7, 2) := dAX7_fewestFor_6.2.2.2.2.1
theorem dX7_fewestFor_103 : decode cX7_fewestFor 103 = .ok (.invokestatic 320, 3) := dAX7_fewestFor_6.2.2.2.2.2.1
theorem dX7_fewestFor_106 : decode cX7_fewestFor 106 = .ok (.ifCond .eq 15, 3) := dAX7_fewestFor_6.2.2.2.2.2.2.1
theorem dX7_fewestFor_109 : decode cX7_fewestFor 109 = .ok (.iconst 1, 1) := dAX7_fewestFor_6.2.2.2.2.2.2.2
set_option maxRecDepth 100000 in
theorem dAX7_fewestFor_7 : decode cX7_fewestFor 110 = .ok (.aload_n 0, 1) ∧ decode cX7_fewestFor 111 = .ok (.getfield 59, 3) ∧ decode cX7_fewestFor 114 = .ok (.iload 7, 2) ∧ decode cX7_fewestFor 116 = .ok (.iaload, 1) ∧ decode cX7_fewestFor 117 = .ok (.ishl, 1) ∧ decode cX7_fewestFor 118 = .ok (.goto 4, 3) ∧ decode cX7_fewestFor 121 = .ok (.iconst 0, 1) ∧ decode cX7_fewestFor 122 = .ok (.ior, 1) := by decide +kernel
theorem dX7_fewestFor_110 : decode cX7_fewestFor 110 = .ok (.aload_n 0, 1) := dAX7_fewestFor_7.1
theorem dX7_fewestFor_111 : decode cX7_fewestFor 111 = .ok (.getfield 59, 3) := dAX7_fewestFor_7.2.1
theorem dX7_fewestFor_114 : decode cX7_fewestFor 114 = .ok (.iload 7, 2) := dAX7_fewestFor_7.2.2.1
theorem dX7_fewestFor_116 : decode cX7_fewestFor 116 = .ok (.iaload, 1) := dAX7_fewestFor_7.2.2.2.1
theorem dX7_fewestFor_117 : decode cX7_fewestFor 117 = .ok (.ishl, 1) := dAX7_fewestFor_7.2.2.2.2.1
theorem dX7_fewestFor_118 : decode cX7_fewestFor 118 = .ok (.goto 4, 3) := dAX7_fewestFor_7.2.2.2.2.2.1
theorem dX7_fewestFor_121 : decode cX7_fewestFor 121 = .ok (.iconst 0, 1) := dAX7_fewestFor_7.2.2.2.2.2.2.1
theorem dX7_fewestFor_122 : decode cX7_fewestFor 122 = .ok (.ior, 1) := dAX7_fewestFor_7.2.2.2.2.2.2.2
set_option maxRecDepth 100000 in
theorem dAX7_fewestFor_8 : decode cX7_fewestFor 123 = .ok (.istore 6, 2) ∧ decode cX7_fewestFor 125 = .ok (.iinc 7 1, 3) ∧ decode cX7_fewestFor 128 = .ok (.goto (-37), 3) ∧ decode cX7_fewestFor 131 = .ok (.aload_n 0, 1) ∧ decode cX7_fewestFor 132 = .ok (.iload 6, 2) ∧ decode cX7_fewestFor 134 = .ok (.iload_n 1, 1) ∧ decode cX7_fewestFor 135 = .ok (.iload_n 2, 1) ∧ decode cX7_fewestFor 136 = .ok (.invokevirtual 332, 3) := by decide +kernel
theorem dX7_fewestFor_123 : decode cX7_fewestFor 123 = .ok (.istore 6, 2) := dAX7_fewestFor_8.1
theorem dX7_fewestFor_125 : decode cX7_fewestFor 125 = .ok (.iinc 7 1, 3) := dAX7_fewestFor_8.2.1
theorem dX7_fewestFor_128 : decode cX7_fewestFor 128 = .ok (.goto (-37), 3) := dAX7_fewestFor_8.2.2.1
theorem dX7_fewestFor_131 : decode cX7_fewestFor 131 = .ok (.aload_n 0, 1) := dAX7_fewestFor_8.2.2.2.1
theorem dX7_fewestFor_132 : decode cX7_fewestFor 132 = .ok (.iload 6, 2) := dAX7_fewestFor_8.2.2.2.2.1
theorem dX7_fewestFor_134 : decode cX7_fewestFor 134 = .ok (.iload_n 1, 1) := dAX7_fewestFor_8.2.2.2.2.2.1
theorem dX7_fewestFor_135 : decode cX7_fewestFor 135 = .ok (.iload_n 2, 1) := dAX7_fewestFor_8.2.2.2.2.2.2.1
theorem dX7_fewestFor_136 : decode cX7_fewestFor 136 = .ok (.invokevirtual 332, 3) := dAX7_fewestFor_8.2.2.2.2.2.2.2
set_option maxRecDepth 100000 in
theorem dAX7_fewestFor_9 : decode cX7_fewestFor 139 = .ok (.ifCond .eq 7, 3) ∧ decode cX7_fewestFor 142 = .ok (.iload 6, 2) ∧ decode cX7_fewestFor 144 = .ok (.istore 4, 2) ∧ decode cX7_fewestFor 146 = .ok (.iinc 5 1, 3) ∧ decode cX7_fewestFor 149 = .ok (.goto (-93), 3) ∧ decode cX7_fewestFor 152 = .ok (.iload 4, 2) ∧ decode cX7_fewestFor 154 = .ok (.ireturn, 1) := by decide +kernel
theorem dX7_fewestFor_139 : decode cX7_fewestFor 139 = .ok (.ifCond .eq 7, 3) := dAX7_fewestFor_9.1
theorem dX7_fewestFor_142 : decode cX7_fewestFor 142 = .ok (.iload 6, 2) := dAX7_fewestFor_9.2.1
theorem dX7_fewestFor_144 : decode cX7_fewestFor 144 = .ok (.istore 4, 2) := dAX7_fewestFor_9.2.2.1
theorem dX7_fewestFor_146 : decode cX7_fewestFor 146 = .ok (.iinc 5 1, 3) := dAX7_fewestFor_9.2.2.2.1
theorem dX7_fewestFor_149 : decode cX7_fewestFor 149 = .ok (.goto (-93), 3) := dAX7_fewestFor_9.2.2.2.2.1
theorem dX7_fewestFor_152 : decode cX7_fewestFor 152 = .ok (.iload 4, 2) := dAX7_fewestFor_9.2.2.2.2.2.1
theorem dX7_fewestFor_154 : decode cX7_fewestFor 154 = .ok (.ireturn, 1) := dAX7_fewestFor_9.2.2.2.2.2.2
set_option maxRecDepth 100000 in
theorem dAX7_find_0 : decode cX7_find 0 = .ok (.iconst 0, 1) ∧ decode cX7_find 1 = .ok (.istore_n 1, 1) ∧ decode cX7_find 2 = .ok (.iload_n 1, 1) ∧ decode cX7_find 3 = .ok (.bipush 18, 2) ∧ decode cX7_find 5 = .ok (.if_icmp .ge 99, 3) ∧ decode cX7_find 8 = .ok (.aload_n 0, 1) ∧ decode cX7_find 9 = .ok (.getfield 23, 3) ∧ decode cX7_find 12 = .ok (.bipush 125, 2) := by decide +kernel
theorem dX7_find_0 : decode cX7_find 0 = .ok (.iconst 0, 1) := dAX7_find_0.1
theorem dX7_find_1 : decode cX7_find 1 = .ok (.istore_n 1, 1) := dAX7_find_0.2.1
theorem dX7_find_2 : decode cX7_find 2 = .ok (.iload_n 1, 1) := dAX7_find_0.2.2.1
theorem dX7_find_3 : decode cX7_find 3 = .ok (.bipush 18, 2) := dAX7_find_0.2.2.2.1
theorem dX7_find_5 : decode cX7_find 5 = .ok (.if_icmp .ge 99, 3) := dAX7_find_0.2.2.2.2.1
theorem dX7_find_8 : decode cX7_find 8 = .ok (.aload_n 0, 1) := dAX7_find_0.2.2.2.2.2.1
theorem dX7_find_9 : decode cX7_find 9 = .ok (.getfield 23, 3) := dAX7_find_0.2.2.2.2.2.2.1
theorem dX7_find_12 : decode cX7_find 12 = .ok (.bipush 125, 2) := dAX7_find_0.2.2.2.2.2.2.2
set_option maxRecDepth 100000 in
theorem dAX7_find_1 : decode cX7_find 14 = .ok (.iload_n 1, 1) ∧ decode cX7_find 15 = .ok (.iadd, 1) ∧ decode cX7_find 16 = .ok (.iaload, 1) ∧ decode cX7_find 17 = .ok (.ifCond .le 23, 3) ∧ decode cX7_find 20 = .ok (.aload_n 0, 1) ∧ decode cX7_find 21 = .ok (.getfield 23, 3) ∧ decode cX7_find 24 = .ok (.bipush 125, 2) ∧ decode cX7_find 26 = .ok (.iload_n 1, 1) := by decide +kernel
theorem dX7_find_14 : decode cX7_find 14 = .ok (.iload_n 1, 1) := dAX7_find_1.1
theorem dX7_find_15 : decode cX7_find 15 = .ok (.iadd, 1) := dAX7_find_1.2.1
theorem dX7_find_16 : decode cX7_find 16 = .ok (.iaload, 1) := dAX7_find_1.2.2.1
theorem dX7_find_17 : decode cX7_find 17 = .ok (.ifCond .le 23, 3) := dAX7_find_1.2.2.2.1
theorem dX7_find_20 : decode cX7_find 20 = .ok (.aload_n 0, 1) := dAX7_find_1.2.2.2.2.1
theorem dX7_find_21 : decode cX7_find 21 = .ok (.getfield 23, 3) := dAX7_find_1.2.2.2.2.2.1
theorem dX7_find_24 : decode cX7_find 24 = .ok (.bipush 125, 2) := dAX7_find_1.2.2.2.2.2.2.1
theorem dX7_find_26 : decode cX7_find 26 = .ok (.iload_n 1, 1) := dAX7_find_1.2.2.2.2.2.2.2
set_option maxRecDepth 100000 in
theorem dAX7_find_2 : decode cX7_find 27 = .ok (.iadd, 1) ∧ decode cX7_find 28 = .ok (.iaload, 1) ∧ decode cX7_find 29 = .ok (.aload_n 0, 1) ∧ decode cX7_find 30 = .ok (.getfield 87, 3) ∧ decode cX7_find 33 = .ok (.if_icmp .ne 7, 3) ∧ decode cX7_find 36 = .ok (.iconst 1, 1) ∧ decode cX7_find 37 = .ok (.goto 4, 3) ∧ decode cX7_find 40 = .ok (.iconst 0, 1) := by decide +kernel
theorem dX7_find_27 : decode cX7_find 27 = .ok (.iadd, 1) := dAX7_find_2.1
theorem dX7_find_28 : decode cX7_find 28 = .ok (.iaload, 1) := dAX7_find_2.2.1
theorem dX7_find_29 : decode cX7_find 29 = .ok (.aload_n 0, 1) := dAX7_find_2.2.2.1
theorem dX7_find_30 : decode cX7_find 30 = .ok (.getfield 87, 3) := dAX7_find_2.2.2.2.1
theorem dX7_find_33 : decode cX7_find 33 = .ok (.if_icmp .ne 7, 3) := dAX7_find_2.2.2.2.2.1
theorem dX7_find_36 : decode cX7_find 36 = .ok (.iconst 1, 1) := dAX7_find_2.2.2.2.2.2.1
theorem dX7_find_37 : decode cX7_find 37 = .ok (.goto 4, 3) := dAX7_find_2.2.2.2.2.2.2.1
theorem dX7_find_40 : decode cX7_find 40 = .ok (.iconst 0, 1) := dAX7_find_2.2.2.2.2.2.2.2
set_option maxRecDepth 100000 in
theorem dAX7_find_3 : decode cX7_find 41 = .ok (.istore_n 2, 1) ∧ decode cX7_find 42 = .ok (.iconst 0, 1) ∧ decode cX7_find 43 = .ok (.istore_n 3, 1) ∧ decode cX7_find 44 = .ok (.iload_n 3, 1) ∧ decode cX7_find 45 = .ok (.aload_n 0, 1) ∧ decode cX7_find 46 = .ok (.getfield 87, 3) ∧ decode cX7_find 49 = .ok (.if_icmp .ge 43, 3) ∧ decode cX7_find 52 = .ok (.iload_n 2, 1) := by decide +kernel
theorem dX7_find_41 : decode cX7_find 41 = .ok (.istore_n 2, 1) := dAX7_find_3.1
theorem dX7_find_42 : decode cX7_find 42 = .ok (.iconst 0, 1) := dAX7_find_3.2.1
theorem dX7_find_43 : decode cX7_find 43 = .ok (.istore_n 3, 1) := dAX7_find_3.2.2.1
theorem dX7_find_44 : decode cX7_find 44 = .ok (.iload_n 3, 1) := dAX7_find_3.2.2.2.1
theorem dX7_find_45 : decode cX7_find 45 = .ok (.aload_n 0, 1) := dAX7_find_3.2.2.2.2.1
theorem dX7_find_46 : decode cX7_find 46 = .ok (.getfield 87, 3) := dAX7_find_3.2.2.2.2.2.1
theorem dX7_find_49 : decode cX7_find 49 = .ok (.if_icmp .ge 43, 3) := dAX7_find_3.2.2.2.2.2.2.1
theorem dX7_find_52 : decode cX7_find 52 = .ok (.iload_n 2, 1) := dAX7_find_3.2.2.2.2.2.2.2
set_option maxRecDepth 100000 in
theorem dAX7_find_4 : decode cX7_find 53 = .ok (.ifCond .eq 39, 3) ∧ decode cX7_find 56 = .ok (.aload_n 0, 1) ∧ decode cX7_find 57 = .ok (.getfield 23, 3) ∧ decode cX7_find 60 = .ok (.sipush 143, 3) ∧ decode cX7_find 63 = .ok (.bipush 8, 2) ∧ decode cX7_find 65 = .ok (.iload_n 1, 1) ∧ decode cX7_find 66 = .ok (.imul, 1) ∧ decode cX7_find 67 = .ok (.iadd, 1) := by decide +kernel
theorem dX7_find_53 : decode cX7_find 53 = .ok (.ifCond .eq 39, 3) := dAX7_find_4.1
theorem dX7_find_56 : decode cX7_find 56 = .ok (.aload_n 0, 1) := dAX7_find_4.2.1
theorem dX7_find_57 : decode cX7_find 57 = .ok (.getfield 23, 3) := dAX7_find_4.2.2.1
theorem dX7_find_60 : decode cX7_find 60 = .ok (.sipush 143, 3) := dAX7_find_4.2.2.2.1
theorem dX7_find_63 : decode cX7_find 63 = .ok (.bipush 8, 2) := dAX7_find_4.2.2.2.2.1
theorem dX7_find_65 : decode cX7_find 65 = .ok (.iload_n 1, 1) := dAX7_find_4.2.2.2.2.2.1
theorem dX7_find_66 : decode cX7_find 66 = .ok (.imul, 1) := dAX7_find_4.2.2.2.2.2.2.1
theorem dX7_find_67 : decode cX7_find 67 = .ok (.iadd, 1) := dAX7_find_4.2.2.2.2.2.2.2
set_option maxRecDepth 100000 in
theorem dAX7_find_5 : decode cX7_find 68 = .ok (.iload_n 3, 1) ∧ decode cX7_find 69 = .ok (.iadd, 1) ∧ decode cX7_find 70 = .ok (.iaload, 1) ∧ decode cX7_find 71 = .ok (.aload_n 0, 1) ∧ decode cX7_find 72 = .ok (.getfield 17, 3) ∧ decode cX7_find 75 = .ok (.iload_n 3, 1) ∧ decode cX7_find 76 = .ok (.iaload, 1) ∧ decode cX7_find 77 = .ok (.if_icmp .ne 7, 3) := by decide +kernel
theorem dX7_find_68 : decode cX7_find 68 = .ok (.iload_n 3, 1) := dAX7_find_5.1
theorem dX7_find_69 : decode cX7_find 69 = .ok (.iadd, 1) := dAX7_find_5.2.1
theorem dX7_find_70 : decode cX7_find 70 = .ok (.iaload, 1) := dAX7_find_5.2.2.1
theorem dX7_find_71 : decode cX7_find 71 = .ok (.aload_n 0, 1) := dAX7_find_5.2.2.2.1
theorem dX7_find_72 : decode cX7_find 72 = .ok (.getfield 17, 3) := dAX7_find_5.2.2.2.2.1
theorem dX7_find_75 : decode cX7_find 75 = .ok (.iload_n 3, 1) := dAX7_find_5.2.2.2.2.2.1
theorem dX7_find_76 : decode cX7_find 76 = .ok (.iaload, 1) := dAX7_find_5.2.2.2.2.2.2.1
theorem dX7_find_77 : decode cX7_find 77 = .ok (.if_icmp .ne 7, 3) := dAX7_find_5.2.2.2.2.2.2.2
set_option maxRecDepth 100000 in
theorem dAX7_find_6 : decode cX7_find 80 = .ok (.iconst 1, 1) ∧ decode cX7_find 81 = .ok (.goto 4, 3) ∧ decode cX7_find 84 = .ok (.iconst 0, 1) ∧ decode cX7_find 85 = .ok (.istore_n 2, 1) ∧ decode cX7_find 86 = .ok (.iinc 3 1, 3) ∧ decode cX7_find 89 = .ok (.goto (-45), 3) ∧ decode cX7_find 92 = .ok (.iload_n 2, 1) ∧ decode cX7_find 93 = .ok (.ifCond .eq 5, 3) := by decide +kernel
theorem dX7_find_80 : decode cX7_find 80 = .ok (.iconst 1, 1) := dAX7_find_6.1
theorem dX7_find_81 : decode cX7_find 81 = .ok (.goto 4, 3) := dAX7_find_6.2.1
theorem dX7_find_84 : decode cX7_find 84 = .ok (.iconst 0, 1) := dAX7_find_6.2.2.1
theorem dX7_find_85 : decode cX7_find 85 = .ok (.istore_n 2, 1) := dAX7_find_6.2.2.2.1
theorem dX7_find_86 : decode cX7_find 86 = .ok (.iinc 3 1, 3) := dAX7_find_6.2.2.2.2.1
theorem dX7_find_89 : decode cX7_find 89 = .ok (.goto (-45), 3) := dAX7_find_6.2.2.2.2.2.1
theorem dX7_find_92 : decode cX7_find 92 = .ok (.iload_n 2, 1) := dAX7_find_6.2.2.2.2.2.2.1
theorem dX7_find_93 : decode cX7_find 93 = .ok (.ifCond .eq 5, 3) := dAX7_find_6.2.2.2.2.2.2.2
set_option maxRecDepth 100000 in
theorem dAX7_find_7 : decode cX7_find 96 = .ok (.iload_n 1, 1) ∧ decode cX7_find 97 = .ok (.ireturn, 1) ∧ decode cX7_find 98 = .ok (.iinc 1 1, 3) ∧ decode cX7_find 101 = .ok (.goto (-99), 3) ∧ decode cX7_find 104 = .ok (.iconst (-1), 1) ∧ decode cX7_find 105 = .ok (.ireturn, 1) := by decide +kernel
theorem dX7_find_96 : decode cX7_find 96 = .ok (.iload_n 1, 1) := dAX7_find_7.1
theorem dX7_find_97 : decode cX7_find 97 = .ok (.ireturn, 1) := dAX7_find_7.2.1
theorem dX7_find_98 : decode cX7_find 98 = .ok (.iinc 1 1, 3) := dAX7_find_7.2.2.1
theorem dX7_find_101 : decode cX7_find 101 = .ok (.goto (-99), 3) := dAX7_find_7.2.2.2.1
theorem dX7_find_104 : decode cX7_find 104 = .ok (.iconst (-1), 1) := dAX7_find_7.2.2.2.2.1
theorem dX7_find_105 : decode cX7_find 105 = .ok (.ireturn, 1) := dAX7_find_7.2.2.2.2.2
set_option maxRecDepth 100000 in
theorem dAX7_first_0 : decode cX7_first 0 = .ok (.aload_n 0, 1) ∧ decode cX7_first 1 = .ok (.invokevirtual 175, 3) ∧ decode cX7_first 4 = .ok (.aload_n 0, 1) ∧ decode cX7_first 5 = .ok (.iload_n 1, 1) ∧ decode cX7_first 6 = .ok (.invokevirtual 242, 3) ∧ decode cX7_first 9 = .ok (.ifCond .eq 11, 3) ∧ decode cX7_first 12 = .ok (.aload_n 0, 1) ∧ decode cX7_first 13 = .ok (.iload_n 1, 1) := by decide +kernel
theorem dX7_first_0 : decode cX7_first 0 = .ok (.aload_n 0, 1) := dAX7_first_0.1
theorem dX7_first_1 : decode cX7_first 1 = .ok (.invokevirtual 175, 3) := dAX7_first_0.2.1
theorem dX7_first_4 : decode cX7_first 4 = .ok (.aload_n 0, 1) := dAX7_first_0.2.2.1
theorem dX7_first_5 : decode cX7_first 5 = .ok (.iload_n 1, 1) := dAX7_first_0.2.2.2.1
theorem dX7_first_6 : decode cX7_first 6 = .ok (.invokevirtual 242, 3) := dAX7_first_0.2.2.2.2.1
theorem dX7_first_9 : decode cX7_first 9 = .ok (.ifCond .eq 11, 3) := dAX7_first_0.2.2.2.2.2.1
theorem dX7_first_12 : decode cX7_first 12 = .ok (.aload_n 0, 1) := dAX7_first_0.2.2.2.2.2.2.1
theorem dX7_first_13 : decode cX7_first 13 = .ok (.iload_n 1, 1) := dAX7_first_0.2.2.2.2.2.2.2
set_option maxRecDepth 100000 in
theorem dAX7_first_1 : decode cX7_first 14 = .ok (.invokevirtual 345, 3) ∧ decode cX7_first 17 = .ok (.goto 8, 3) ∧ decode cX7_first 20 = .ok (.aload_n 0, 1) ∧ decode cX7_first 21 = .ok (.iconst 1, 1) ∧ decode cX7_first 22 = .ok (.invokevirtual 178, 3) ∧ decode cX7_first 25 = .ok (.ireturn, 1) := by decide +kernel
theorem dX7_first_14 : decode cX7_first 14 = .ok (.invokevirtual 345, 3) := dAX7_first_1.1
theorem dX7_first_17 : decode cX7_first 17 = .ok (.goto 8, 3) := dAX7_first_1.2.1
theorem dX7_first_20 : decode cX7_first 20 = .ok (.aload_n 0, 1) := dAX7_first_1.2.2.1
theorem dX7_first_21 : decode cX7_first 21 = .ok (.iconst 1, 1) := dAX7_first_1.2.2.2.1
theorem dX7_first_22 : decode cX7_first 22 = .ok (.invokevirtual 178, 3) := dAX7_first_1.2.2.2.2.1
theorem dX7_first_25 : decode cX7_first 25 = .ok (.ireturn, 1) := dAX7_first_1.2.2.2.2.2
set_option maxRecDepth 100000 in
theorem dAX7_firstBreaths_0 : decode cX7_firstBreaths 0 = .ok (.aload_n 0, 1) ∧ decode cX7_firstBreaths 1 = .ok (.invokevirtual 175, 3) ∧ decode cX7_firstBreaths 4 = .ok (.aload_n 0, 1) ∧ decode cX7_firstBreaths 5 = .ok (.iload_n 1, 1) ∧ decode cX7_firstBreaths 6 = .ok (.invokevirtual 242, 3) ∧ decode cX7_firstBreaths 9 = .ok (.ifCond .ne 9, 3) ∧ decode cX7_firstBreaths 12 = .ok (.aload_n 0, 1) ∧ decode cX7_firstBreaths 13 = .ok (.iconst 1, 1) := by decide +kernel
theorem dX7_firstBreaths_0 : decode cX7_firstBreaths 0 = .ok (.aload_n 0, 1) := dAX7_firstBreaths_0.1
theorem dX7_firstBreaths_1 : decode cX7_firstBreaths 1 = .ok (.invokevirtual 175, 3) := dAX7_firstBreaths_0.2.1
theorem dX7_firstBreaths_4 : decode cX7_firstBreaths 4 = .ok (.aload_n 0, 1) := dAX7_firstBreaths_0.2.2.1
theorem dX7_firstBreaths_5 : decode cX7_firstBreaths 5 = .ok (.iload_n 1, 1) := dAX7_firstBreaths_0.2.2.2.1
theorem dX7_firstBreaths_6 : decode cX7_firstBreaths 6 = .ok (.invokevirtual 242, 3) := dAX7_firstBreaths_0.2.2.2.2.1
theorem dX7_firstBreaths_9 : decode cX7_firstBreaths 9 = .ok (.ifCond .ne 9, 3) := dAX7_firstBreaths_0.2.2.2.2.2.1
theorem dX7_firstBreaths_12 : decode cX7_firstBreaths 12 = .ok (.aload_n 0, 1) := dAX7_firstBreaths_0.2.2.2.2.2.2.1
theorem dX7_firstBreaths_13 : decode cX7_firstBreaths 13 = .ok (.iconst 1, 1) := dAX7_firstBreaths_0.2.2.2.2.2.2.2
set_option maxRecDepth 100000 in
theorem dAX7_firstBreaths_1 : decode cX7_firstBreaths 14 = .ok (.invokevirtual 178, 3) ∧ decode cX7_firstBreaths 17 = .ok (.ireturn, 1) ∧ decode cX7_firstBreaths 18 = .ok (.aload_n 0, 1) ∧ decode cX7_firstBreaths 19 = .ok (.iload_n 1, 1) ∧ decode cX7_firstBreaths 20 = .ok (.invokevirtual 345, 3) ∧ decode cX7_firstBreaths 23 = .ok (.pop, 1) ∧ decode cX7_firstBreaths 24 = .ok (.aload_n 0, 1) ∧ decode cX7_firstBreaths 25 = .ok (.getfield 338, 3) := by decide +kernel
theorem dX7_firstBreaths_14 : decode cX7_firstBreaths 14 = .ok (.invokevirtual 178, 3) := dAX7_firstBreaths_1.1
theorem dX7_firstBreaths_17 : decode cX7_firstBreaths 17 = .ok (.ireturn, 1) := dAX7_firstBreaths_1.2.1
theorem dX7_firstBreaths_18 : decode cX7_firstBreaths 18 = .ok (.aload_n 0, 1) := dAX7_firstBreaths_1.2.2.1
theorem dX7_firstBreaths_19 : decode cX7_firstBreaths 19 = .ok (.iload_n 1, 1) := dAX7_firstBreaths_1.2.2.2.1
theorem dX7_firstBreaths_20 : decode cX7_firstBreaths 20 = .ok (.invokevirtual 345, 3) := dAX7_firstBreaths_1.2.2.2.2.1
theorem dX7_firstBreaths_23 : decode cX7_firstBreaths 23 = .ok (.pop, 1) := dAX7_firstBreaths_1.2.2.2.2.2.1
theorem dX7_firstBreaths_24 : decode cX7_firstBreaths 24 = .ok (.aload_n 0, 1) := dAX7_firstBreaths_1.2.2.2.2.2.2.1
theorem dX7_firstBreaths_25 : decode cX7_firstBreaths 25 = .ok (.getfield 338, 3) := dAX7_firstBreaths_1.2.2.2.2.2.2.2
theorem dX7_firstBreaths_28 : decode cX7_firstBreaths 28 = .ok (.ireturn, 1) := by decide +kernel
set_option maxRecDepth 100000 in
theorem dAX7_firstOf_0 : decode cX7_firstOf 0 = .ok (.bipush (-2), 2) ∧ decode cX7_firstOf 2 = .ok (.istore_n 2, 1) ∧ decode cX7_firstOf 3 = .ok (.aload_n 0, 1) ∧ decode cX7_firstOf 4 = .ok (.bipush (-2), 2) ∧ decode cX7_firstOf 6 = .ok (.putfield 338, 3) ∧ decode cX7_firstOf 9 = .ok (.iconst 0, 1) ∧ decode cX7_firstOf 10 = .ok (.istore_n 3, 1) ∧ decode cX7_firstOf 11 = .ok (.iload_n 3, 1) := by decide +kernel
theorem dX7_firstOf_0 : decode cX7_firstOf 0 = .ok (.bipush (-2), 2) := dAX7_firstOf_0.1
theorem dX7_firstOf_2 : decode cX7_firstOf 2 = .ok (.istore_n 2, 1) := dAX7_firstOf_0.2.1
theorem dX7_firstOf_3 : decode cX7_firstOf 3 = .ok (.aload_n 0, 1) := dAX7_firstOf_0.2.2.1
theorem dX7_firstOf_4 : decode cX7_firstOf 4 = .ok (.bipush (-2), 2) := dAX7_firstOf_0.2.2.2.1
theorem dX7_firstOf_6 : decode cX7_firstOf 6 = .ok (.putfield 338, 3) := dAX7_firstOf_0.2.2.2.2.1
theorem dX7_firstOf_9 : decode cX7_firstOf 9 = .ok (.iconst 0, 1) := dAX7_firstOf_0.2.2.2.2.2.1
theorem dX7_firstOf_10 : decode cX7_firstOf 10 = .ok (.istore_n 3, 1) := dAX7_firstOf_0.2.2.2.2.2.2.1
theorem dX7_firstOf_11 : decode cX7_firstOf 11 = .ok (.iload_n 3, 1) := dAX7_firstOf_0.2.2.2.2.2.2.2
set_option maxRecDepth 100000 in
theorem dAX7_firstOf_1 : decode cX7_firstOf 12 = .ok (.aload_n 0, 1) ∧ decode cX7_firstOf 13 = .ok (.getfield 20, 3) ∧ decode cX7_firstOf 16 = .ok (.bipush 27, 2) ∧ decode cX7_firstOf 18 = .ok (.iload_n 1, 1) ∧ decode cX7_firstOf 19 = .ok (.iadd, 1) ∧ decode cX7_firstOf 20 = .ok (.iaload, 1) ∧ decode cX7_firstOf 21 = .ok (.if_icmp .ge 77, 3) ∧ decode cX7_firstOf 24 = .ok (.aload_n 0, 1) := by decide +kernel
theorem dX7_firstOf_12 : decode cX7_firstOf 12 = .ok (.aload_n 0, 1) := dAX7_firstOf_1.1
theorem dX7_firstOf_13 : decode cX7_firstOf 13 = .ok (.getfield 20, 3) := dAX7_firstOf_1.2.1
theorem dX7_firstOf_16 : decode cX7_firstOf 16 = .ok (.bipush 27, 2) := dAX7_firstOf_1.2.2.1
theorem dX7_firstOf_18 : decode cX7_firstOf 18 = .ok (.iload_n 1, 1) := dAX7_firstOf_1.2.2.2.1
theorem dX7_firstOf_19 : decode cX7_firstOf 19 = .ok (.iadd, 1) := dAX7_firstOf_1.2.2.2.2.1
theorem dX7_firstOf_20 : decode cX7_firstOf 20 = .ok (.iaload, 1) := dAX7_firstOf_1.2.2.2.2.2.1
theorem dX7_firstOf_21 : decode cX7_firstOf 21 = .ok (.if_icmp .ge 77, 3) := dAX7_firstOf_1.2.2.2.2.2.2.1
theorem dX7_firstOf_24 : decode cX7_firstOf 24 = .ok (.aload_n 0, 1) := dAX7_firstOf_1.2.2.2.2.2.2.2
set_option maxRecDepth 100000 in
theorem dAX7_firstOf_2 : decode cX7_firstOf 25 = .ok (.getfield 32, 3) ∧ decode cX7_firstOf 28 = .ok (.iconst 0, 1) ∧ decode cX7_firstOf 29 = .ok (.aload_n 0, 1) ∧ decode cX7_firstOf 30 = .ok (.getfield 56, 3) ∧ decode cX7_firstOf 33 = .ok (.iconst 0, 1) ∧ decode cX7_firstOf 34 = .ok (.bipush 90, 2) ∧ decode cX7_firstOf 36 = .ok (.invokestatic 156, 3) ∧ decode cX7_firstOf 39 = .ok (.aload_n 0, 1) := by decide +kernel
theorem dX7_firstOf_25 : decode cX7_firstOf 25 = .ok (.getfield 32, 3) := dAX7_firstOf_2.1
theorem dX7_firstOf_28 : decode cX7_firstOf 28 = .ok (.iconst 0, 1) := dAX7_firstOf_2.2.1
theorem dX7_firstOf_29 : decode cX7_firstOf 29 = .ok (.aload_n 0, 1) := dAX7_firstOf_2.2.2.1
theorem dX7_firstOf_30 : decode cX7_firstOf 30 = .ok (.getfield 56, 3) := dAX7_firstOf_2.2.2.2.1
theorem dX7_firstOf_33 : decode cX7_firstOf 33 = .ok (.iconst 0, 1) := dAX7_firstOf_2.2.2.2.2.1
theorem dX7_firstOf_34 : decode cX7_firstOf 34 = .ok (.bipush 90, 2) := dAX7_firstOf_2.2.2.2.2.2.1
theorem dX7_firstOf_36 : decode cX7_firstOf 36 = .ok (.invokestatic 156, 3) := dAX7_firstOf_2.2.2.2.2.2.2.1
theorem dX7_firstOf_39 : decode cX7_firstOf 39 = .ok (.aload_n 0, 1) := dAX7_firstOf_2.2.2.2.2.2.2.2
set_option maxRecDepth 100000 in
theorem dAX7_firstOf_3 : decode cX7_firstOf 40 = .ok (.aload_n 0, 1) ∧ decode cX7_firstOf 41 = .ok (.getfield 56, 3) ∧ decode cX7_firstOf 44 = .ok (.iload_n 1, 1) ∧ decode cX7_firstOf 45 = .ok (.iload_n 3, 1) ∧ decode cX7_firstOf 46 = .ok (.invokevirtual 341, 3) ∧ decode cX7_firstOf 49 = .ok (.aload_n 0, 1) ∧ decode cX7_firstOf 50 = .ok (.aload_n 0, 1) ∧ decode cX7_firstOf 51 = .ok (.getfield 56, 3) := by decide +kernel
theorem dX7_firstOf_40 : decode cX7_firstOf 40 = .ok (.aload_n 0, 1) := dAX7_firstOf_3.1
theorem dX7_firstOf_41 : decode cX7_firstOf 41 = .ok (.getfield 56, 3) := dAX7_firstOf_3.2.1
theorem dX7_firstOf_44 : decode cX7_firstOf 44 = .ok (.iload_n 1, 1) := dAX7_firstOf_3.2.2.1
theorem dX7_firstOf_45 : decode cX7_firstOf 45 = .ok (.iload_n 3, 1) := dAX7_firstOf_3.2.2.2.1
theorem dX7_firstOf_46 : decode cX7_firstOf 46 = .ok (.invokevirtual 341, 3) := dAX7_firstOf_3.2.2.2.2.1
theorem dX7_firstOf_49 : decode cX7_firstOf 49 = .ok (.aload_n 0, 1) := dAX7_firstOf_3.2.2.2.2.2.1
theorem dX7_firstOf_50 : decode cX7_firstOf 50 = .ok (.aload_n 0, 1) := dAX7_firstOf_3.2.2.2.2.2.2.1
theorem dX7_firstOf_51 : decode cX7_firstOf 51 = .ok (.getfield 56, 3) := dAX7_firstOf_3.2.2.2.2.2.2.2
set_option maxRecDepth 100000 in
theorem dAX7_firstOf_4 : decode cX7_firstOf 54 = .ok (.invokevirtual 293, 3) ∧ decode cX7_firstOf 57 = .ok (.istore 4, 2) ∧ decode cX7_firstOf 59 = .ok (.iload_n 2, 1) ∧ decode cX7_firstOf 60 = .ok (.ifCond .lt 15, 3) ∧ decode cX7_firstOf 63 = .ok (.iload 4, 2) ∧ decode cX7_firstOf 65 = .ok (.aload_n 0, 1) ∧ decode cX7_firstOf 66 = .ok (.getfield 338, 3) ∧ decode cX7_firstOf 69 = .ok (.if_icmp .lt 6, 3) := by decide +kernel
theorem dX7_firstOf_54 : decode cX7_firstOf 54 = .ok (.invokevirtual 293, 3) := dAX7_firstOf_4.1
theorem dX7_firstOf_57 : decode cX7_firstOf 57 = .ok (.istore 4, 2) := dAX7_firstOf_4.2.1
theorem dX7_firstOf_59 : decode cX7_firstOf 59 = .ok (.iload_n 2, 1) := dAX7_firstOf_4.2.2.1
theorem dX7_firstOf_60 : decode cX7_firstOf 60 = .ok (.ifCond .lt 15, 3) := dAX7_firstOf_4.2.2.2.1
theorem dX7_firstOf_63 : decode cX7_firstOf 63 = .ok (.iload 4, 2) := dAX7_firstOf_4.2.2.2.2.1
theorem dX7_firstOf_65 : decode cX7_firstOf 65 = .ok (.aload_n 0, 1) := dAX7_firstOf_4.2.2.2.2.2.1
theorem dX7_firstOf_66 : decode cX7_firstOf 66 = .ok (.getfield 338, 3) := dAX7_firstOf_4.2.2.2.2.2.2.1
theorem dX7_firstOf_69 : decode cX7_firstOf 69 = .ok (.if_icmp .lt 6, 3) := dAX7_firstOf_4.2.2.2.2.2.2.2
set_option maxRecDepth 100000 in
theorem dAX7_firstOf_5 : decode cX7_firstOf 72 = .ok (.goto 20, 3) ∧ decode cX7_firstOf 75 = .ok (.aload_n 0, 1) ∧ decode cX7_firstOf 76 = .ok (.getfield 32, 3) ∧ decode cX7_firstOf 79 = .ok (.iconst 4, 1) ∧ decode cX7_firstOf 80 = .ok (.iload_n 1, 1) ∧ decode cX7_firstOf 81 = .ok (.imul, 1) ∧ decode cX7_firstOf 82 = .ok (.iload_n 3, 1) ∧ decode cX7_firstOf 83 = .ok (.iadd, 1) := by decide +kernel
theorem dX7_firstOf_72 : decode cX7_firstOf 72 = .ok (.goto 20, 3) := dAX7_firstOf_5.1
theorem dX7_firstOf_75 : decode cX7_firstOf 75 = .ok (.aload_n 0, 1) := dAX7_firstOf_5.2.1
theorem dX7_firstOf_76 : decode cX7_firstOf 76 = .ok (.getfield 32, 3) := dAX7_firstOf_5.2.2.1
theorem dX7_firstOf_79 : decode cX7_firstOf 79 = .ok (.iconst 4, 1) := dAX7_firstOf_5.2.2.2.1
theorem dX7_firstOf_80 : decode cX7_firstOf 80 = .ok (.iload_n 1, 1) := dAX7_firstOf_5.2.2.2.2.1
theorem dX7_firstOf_81 : decode cX7_firstOf 81 = .ok (.imul, 1) := dAX7_firstOf_5.2.2.2.2.2.1
theorem dX7_firstOf_82 : decode cX7_firstOf 82 = .ok (.iload_n 3, 1) := dAX7_firstOf_5.2.2.2.2.2.2.1
theorem dX7_firstOf_83 : decode cX7_firstOf 83 = .ok (.iadd, 1) := dAX7_firstOf_5.2.2.2.2.2.2.2
set_option maxRecDepth 100000 in
theorem dAX7_firstOf_6 : decode cX7_firstOf 84 = .ok (.iaload, 1) ∧ decode cX7_firstOf 85 = .ok (.istore_n 2, 1) ∧ decode cX7_firstOf 86 = .ok (.aload_n 0, 1) ∧ decode cX7_firstOf 87 = .ok (.iload 4, 2) ∧ decode cX7_firstOf 89 = .ok (.putfield 338, 3) ∧ decode cX7_firstOf 92 = .ok (.iinc 3 1, 3) ∧ decode cX7_firstOf 95 = .ok (.goto (-84), 3) ∧ decode cX7_firstOf 98 = .ok (.iload_n 2, 1) := by decide +kernel
theorem dX7_firstOf_84 : decode cX7_firstOf 84 = .ok (.iaload, 1) := dAX7_firstOf_6.1
theorem dX7_firstOf_85 : decode cX7_firstOf 85 = .ok (.istore_n 2, 1) := dAX7_firstOf_6.2.1
theorem dX7_firstOf_86 : decode cX7_firstOf 86 = .ok (.aload_n 0, 1) := dAX7_firstOf_6.2.2.1
theorem dX7_firstOf_87 : decode cX7_firstOf 87 = .ok (.iload 4, 2) := dAX7_firstOf_6.2.2.2.1
theorem dX7_firstOf_89 : decode cX7_firstOf 89 = .ok (.putfield 338, 3) := dAX7_firstOf_6.2.2.2.2.1
theorem dX7_firstOf_92 : decode cX7_firstOf 92 = .ok (.iinc 3 1, 3) := dAX7_firstOf_6.2.2.2.2.2.1
theorem dX7_firstOf_95 : decode cX7_firstOf 95 = .ok (.goto (-84), 3) := dAX7_firstOf_6.2.2.2.2.2.2.1
theorem dX7_firstOf_98 : decode cX7_firstOf 98 = .ok (.iload_n 2, 1) := dAX7_firstOf_6.2.2.2.2.2.2.2
theorem dX7_firstOf_99 : decode cX7_firstOf 99 = .ok (.ireturn, 1) := by decide +kernel
set_option maxRecDepth 100000 in
theorem dAX7_fitAt_0 : decode cX7_fitAt 0 = .ok (.aload_n 0, 1) ∧ decode cX7_fitAt 1 = .ok (.invokevirtual 175, 3) ∧ decode cX7_fitAt 4 = .ok (.aload_n 0, 1) ∧ decode cX7_fitAt 5 = .ok (.getfield 187, 3) ∧ decode cX7_fitAt 8 = .ok (.ifCond .eq 7, 3) ∧ decode cX7_fitAt 11 = .ok (.iload_n 1, 1) ∧ decode cX7_fitAt 12 = .ok (.ifCond .ge 9, 3) ∧ decode cX7_fitAt 15 = .ok (.aload_n 0, 1) := by decide +kernel
theorem dX7_fitAt_0 : decode cX7_fitAt 0 = .ok (.aload_n 0, 1) := dAX7_fitAt_0.1
theorem dX7_fitAt_1 : decode cX7_fitAt 1 = .ok (.invokevirtual 175, 3) := dAX7_fitAt_0.2.1
theorem dX7_fitAt_4 : decode cX7_fitAt 4 = .ok (.aload_n 0, 1) := dAX7_fitAt_0.2.2.1
theorem dX7_fitAt_5 : decode cX7_fitAt 5 = .ok (.getfield 187, 3) := dAX7_fitAt_0.2.2.2.1
theorem dX7_fitAt_8 : decode cX7_fitAt 8 = .ok (.ifCond .eq 7, 3) := dAX7_fitAt_0.2.2.2.2.1
theorem dX7_fitAt_11 : decode cX7_fitAt 11 = .ok (.iload_n 1, 1) := dAX7_fitAt_0.2.2.2.2.2.1
theorem dX7_fitAt_12 : decode cX7_fitAt 12 = .ok (.ifCond .ge 9, 3) := dAX7_fitAt_0.2.2.2.2.2.2.1
theorem dX7_fitAt_15 : decode cX7_fitAt 15 = .ok (.aload_n 0, 1) := dAX7_fitAt_0.2.2.2.2.2.2.2
set_option maxRecDepth 100000 in
theorem dAX7_fitAt_1 : decode cX7_fitAt 16 = .ok (.iconst 1, 1) ∧ decode cX7_fitAt 17 = .ok (.invokevirtual 178, 3) ∧ decode cX7_fitAt 20 = .ok (.ireturn, 1) ∧ decode cX7_fitAt 21 = .ok (.aload_n 0, 1) ∧ decode cX7_fitAt 22 = .ok (.iload_n 1, 1) ∧ decode cX7_fitAt 23 = .ok (.invokevirtual 389, 3) ∧ decode cX7_fitAt 26 = .ok (.istore_n 2, 1) ∧ decode cX7_fitAt 27 = .ok (.iload_n 2, 1) := by decide +kernel
theorem dX7_fitAt_16 : decode cX7_fitAt 16 = .ok (.iconst 1, 1) := dAX7_fitAt_1.1
theorem dX7_fitAt_17 : decode cX7_fitAt 17 = .ok (.invokevirtual 178, 3) := dAX7_fitAt_1.2.1
theorem dX7_fitAt_20 : decode cX7_fitAt 20 = .ok (.ireturn, 1) := dAX7_fitAt_1.2.2.1
theorem dX7_fitAt_21 : decode cX7_fitAt 21 = .ok (.aload_n 0, 1) := dAX7_fitAt_1.2.2.2.1
theorem dX7_fitAt_22 : decode cX7_fitAt 22 = .ok (.iload_n 1, 1) := dAX7_fitAt_1.2.2.2.2.1
theorem dX7_fitAt_23 : decode cX7_fitAt 23 = .ok (.invokevirtual 389, 3) := dAX7_fitAt_1.2.2.2.2.2.1
theorem dX7_fitAt_26 : decode cX7_fitAt 26 = .ok (.istore_n 2, 1) := dAX7_fitAt_1.2.2.2.2.2.2.1
theorem dX7_fitAt_27 : decode cX7_fitAt 27 = .ok (.iload_n 2, 1) := dAX7_fitAt_1.2.2.2.2.2.2.2
set_option maxRecDepth 100000 in
theorem dAX7_fitAt_2 : decode cX7_fitAt 28 = .ok (.ifCond .ge 11, 3) ∧ decode cX7_fitAt 31 = .ok (.aload_n 0, 1) ∧ decode cX7_fitAt 32 = .ok (.iconst 1, 1) ∧ decode cX7_fitAt 33 = .ok (.invokevirtual 178, 3) ∧ decode cX7_fitAt 36 = .ok (.goto 4, 3) ∧ decode cX7_fitAt 39 = .ok (.iload_n 2, 1) ∧ decode cX7_fitAt 40 = .ok (.ireturn, 1) := by decide +kernel
theorem dX7_fitAt_28 : decode cX7_fitAt 28 = .ok (.ifCond .ge 11, 3) := dAX7_fitAt_2.1
theorem dX7_fitAt_31 : decode cX7_fitAt 31 = .ok (.aload_n 0, 1) := dAX7_fitAt_2.2.1
theorem dX7_fitAt_32 : decode cX7_fitAt 32 = .ok (.iconst 1, 1) := dAX7_fitAt_2.2.2.1
theorem dX7_fitAt_33 : decode cX7_fitAt 33 = .ok (.invokevirtual 178, 3) := dAX7_fitAt_2.2.2.2.1
theorem dX7_fitAt_36 : decode cX7_fitAt 36 = .ok (.goto 4, 3) := dAX7_fitAt_2.2.2.2.2.1
theorem dX7_fitAt_39 : decode cX7_fitAt 39 = .ok (.iload_n 2, 1) := dAX7_fitAt_2.2.2.2.2.2.1
theorem dX7_fitAt_40 : decode cX7_fitAt 40 = .ok (.ireturn, 1) := dAX7_fitAt_2.2.2.2.2.2.2
set_option maxRecDepth 100000 in
theorem dAX7_fits_0 : decode cX7_fits 0 = .ok (.aload_n 0, 1) ∧ decode cX7_fits 1 = .ok (.invokevirtual 175, 3) ∧ decode cX7_fits 4 = .ok (.aload_n 0, 1) ∧ decode cX7_fits 5 = .ok (.getfield 187, 3) ∧ decode cX7_fits 8 = .ok (.ifCond .ne 9, 3) ∧ decode cX7_fits 11 = .ok (.aload_n 0, 1) ∧ decode cX7_fits 12 = .ok (.iconst 1, 1) ∧ decode cX7_fits 13 = .ok (.invokevirtual 178, 3) := by decide +kernel
theorem dX7_fits_0 : decode cX7_fits 0 = .ok (.aload_n 0, 1) := dAX7_fits_0.1
theorem dX7_fits_1 : decode cX7_fits 1 = .ok (.invokevirtual 175, 3) := dAX7_fits_0.2.1
theorem dX7_fits_4 : decode cX7_fits 4 = .ok (.aload_n 0, 1) := dAX7_fits_0.2.2.1
theorem dX7_fits_5 : decode cX7_fits 5 = .ok (.getfield 187, 3) := dAX7_fits_0.2.2.2.1
theorem dX7_fits_8 : decode cX7_fits 8 = .ok (.ifCond .ne 9, 3) := dAX7_fits_0.2.2.2.2.1
theorem dX7_fits_11 : decode cX7_fits 11 = .ok (.aload_n 0, 1) := dAX7_fits_0.2.2.2.2.2.1
theorem dX7_fits_12 : decode cX7_fits 12 = .ok (.iconst 1, 1) := dAX7_fits_0.2.2.2.2.2.2.1
theorem dX7_fits_13 : decode cX7_fits 13 = .ok (.invokevirtual 178, 3) := dAX7_fits_0.2.2.2.2.2.2.2
set_option maxRecDepth 100000 in
theorem dAX7_fits_1 : decode cX7_fits 16 = .ok (.ireturn, 1) ∧ decode cX7_fits 17 = .ok (.aload_n 0, 1) ∧ decode cX7_fits 18 = .ok (.iconst (-1), 1) ∧ decode cX7_fits 19 = .ok (.invokevirtual 389, 3) ∧ decode cX7_fits 22 = .ok (.pop, 1) ∧ decode cX7_fits 23 = .ok (.aload_n 0, 1) ∧ decode cX7_fits 24 = .ok (.getfield 377, 3) ∧ decode cX7_fits 27 = .ok (.ireturn, 1) := by decide +kernel
theorem dX7_fits_16 : decode cX7_fits 16 = .ok (.ireturn, 1) := dAX7_fits_1.1
theorem dX7_fits_17 : decode cX7_fits 17 = .ok (.aload_n 0, 1) := dAX7_fits_1.2.1
theorem dX7_fits_18 : decode cX7_fits 18 = .ok (.iconst (-1), 1) := dAX7_fits_1.2.2.1
theorem dX7_fits_19 : decode cX7_fits 19 = .ok (.invokevirtual 389, 3) := dAX7_fits_1.2.2.2.1
theorem dX7_fits_22 : decode cX7_fits 22 = .ok (.pop, 1) := dAX7_fits_1.2.2.2.2.1
theorem dX7_fits_23 : decode cX7_fits 23 = .ok (.aload_n 0, 1) := dAX7_fits_1.2.2.2.2.2.1
theorem dX7_fits_24 : decode cX7_fits 24 = .ok (.getfield 377, 3) := dAX7_fits_1.2.2.2.2.2.2.1
theorem dX7_fits_27 : decode cX7_fits 27 = .ok (.ireturn, 1) := dAX7_fits_1.2.2.2.2.2.2.2
set_option maxRecDepth 100000 in
theorem dAX7_front_0 : decode cX7_front 0 = .ok (.aload_n 0, 1) ∧ decode cX7_front 1 = .ok (.invokevirtual 175, 3) ∧ decode cX7_front 4 = .ok (.aload_n 0, 1) ∧ decode cX7_front 5 = .ok (.iload_n 1, 1) ∧ decode cX7_front 6 = .ok (.invokevirtual 242, 3) ∧ decode cX7_front 9 = .ok (.ifCond .eq 22, 3) ∧ decode cX7_front 12 = .ok (.iload_n 2, 1) ∧ decode cX7_front 13 = .ok (.iconst 0, 1) := by decide +kernel
theorem dX7_front_0 : decode cX7_front 0 = .ok (.aload_n 0, 1) := dAX7_front_0.1
theorem dX7_front_1 : decode cX7_front 1 = .ok (.invokevirtual 175, 3) := dAX7_front_0.2.1
theorem dX7_front_4 : decode cX7_front 4 = .ok (.aload_n 0, 1) := dAX7_front_0.2.2.1
theorem dX7_front_5 : decode cX7_front 5 = .ok (.iload_n 1, 1) := dAX7_front_0.2.2.2.1
theorem dX7_front_6 : decode cX7_front 6 = .ok (.invokevirtual 242, 3) := dAX7_front_0.2.2.2.2.1
theorem dX7_front_9 : decode cX7_front 9 = .ok (.ifCond .eq 22, 3) := dAX7_front_0.2.2.2.2.2.1
theorem dX7_front_12 : decode cX7_front 12 = .ok (.iload_n 2, 1) := dAX7_front_0.2.2.2.2.2.2.1
theorem dX7_front_13 : decode cX7_front 13 = .ok (.iconst 0, 1) := dAX7_front_0.2.2.2.2.2.2.2
set_option maxRecDepth 100000 in
theorem dAX7_front_1 : decode cX7_front 14 = .ok (.aload_n 0, 1) ∧ decode cX7_front 15 = .ok (.getfield 20, 3) ∧ decode cX7_front 18 = .ok (.bipush 27, 2) ∧ decode cX7_front 20 = .ok (.iload_n 1, 1) ∧ decode cX7_front 21 = .ok (.iadd, 1) ∧ decode cX7_front 22 = .ok (.iaload, 1) ∧ decode cX7_front 23 = .ok (.iconst 1, 1) ∧ decode cX7_front 24 = .ok (.isub, 1) := by decide +kernel
theorem dX7_front_14 : decode cX7_front 14 = .ok (.aload_n 0, 1) := dAX7_front_1.1
theorem dX7_front_15 : decode cX7_front 15 = .ok (.getfield 20, 3) := dAX7_front_1.2.1
theorem dX7_front_18 : decode cX7_front 18 = .ok (.bipush 27, 2) := dAX7_front_1.2.2.1
theorem dX7_front_20 : decode cX7_front 20 = .ok (.iload_n 1, 1) := dAX7_front_1.2.2.2.1
theorem dX7_front_21 : decode cX7_front 21 = .ok (.iadd, 1) := dAX7_front_1.2.2.2.2.1
theorem dX7_front_22 : decode cX7_front 22 = .ok (.iaload, 1) := dAX7_front_1.2.2.2.2.2.1
theorem dX7_front_23 : decode cX7_front 23 = .ok (.iconst 1, 1) := dAX7_front_1.2.2.2.2.2.2.1
theorem dX7_front_24 : decode cX7_front 24 = .ok (.isub, 1) := dAX7_front_1.2.2.2.2.2.2.2
set_option maxRecDepth 100000 in
theorem dAX7_front_2 : decode cX7_front 25 = .ok (.invokestatic 163, 3) ∧ decode cX7_front 28 = .ok (.ifCond .ne 9, 3) ∧ decode cX7_front 31 = .ok (.aload_n 0, 1) ∧ decode cX7_front 32 = .ok (.iconst 1, 1) ∧ decode cX7_front 33 = .ok (.invokevirtual 178, 3) ∧ decode cX7_front 36 = .ok (.ireturn, 1) ∧ decode cX7_front 37 = .ok (.iload_n 2, 1) ∧ decode cX7_front 38 = .ok (.ifCond .ne 9, 3) := by decide +kernel
theorem dX7_front_25 : decode cX7_front 25 = .ok (.invokestatic 163, 3) := dAX7_front_2.1
theorem dX7_front_28 : decode cX7_front 28 = .ok (.ifCond .ne 9, 3) := dAX7_front_2.2.1
theorem dX7_front_31 : decode cX7_front 31 = .ok (.aload_n 0, 1) := dAX7_front_2.2.2.1
theorem dX7_front_32 : decode cX7_front 32 = .ok (.iconst 1, 1) := dAX7_front_2.2.2.2.1
theorem dX7_front_33 : decode cX7_front 33 = .ok (.invokevirtual 178, 3) := dAX7_front_2.2.2.2.2.1
theorem dX7_front_36 : decode cX7_front 36 = .ok (.ireturn, 1) := dAX7_front_2.2.2.2.2.2.1
theorem dX7_front_37 : decode cX7_front 37 = .ok (.iload_n 2, 1) := dAX7_front_2.2.2.2.2.2.2.1
theorem dX7_front_38 : decode cX7_front 38 = .ok (.ifCond .ne 9, 3) := dAX7_front_2.2.2.2.2.2.2.2
set_option maxRecDepth 100000 in
theorem dAX7_front_3 : decode cX7_front 41 = .ok (.aload_n 0, 1) ∧ decode cX7_front 42 = .ok (.iconst 5, 1) ∧ decode cX7_front 43 = .ok (.invokevirtual 178, 3) ∧ decode cX7_front 46 = .ok (.ireturn, 1) ∧ decode cX7_front 47 = .ok (.aload_n 0, 1) ∧ decode cX7_front 48 = .ok (.invokevirtual 432, 3) ∧ decode cX7_front 51 = .ok (.aload_n 0, 1) ∧ decode cX7_front 52 = .ok (.aload_n 0, 1) := by decide +kernel
theorem dX7_front_41 : decode cX7_front 41 = .ok (.aload_n 0, 1) := dAX7_front_3.1
theorem dX7_front_42 : decode cX7_front 42 = .ok (.iconst 5, 1) := dAX7_front_3.2.1
theorem dX7_front_43 : decode cX7_front 43 = .ok (.invokevirtual 178, 3) := dAX7_front_3.2.2.1
theorem dX7_front_46 : decode cX7_front 46 = .ok (.ireturn, 1) := dAX7_front_3.2.2.2.1
theorem dX7_front_47 : decode cX7_front 47 = .ok (.aload_n 0, 1) := dAX7_front_3.2.2.2.2.1
theorem dX7_front_48 : decode cX7_front 48 = .ok (.invokevirtual 432, 3) := dAX7_front_3.2.2.2.2.2.1
theorem dX7_front_51 : decode cX7_front 51 = .ok (.aload_n 0, 1) := dAX7_front_3.2.2.2.2.2.2.1
theorem dX7_front_52 : decode cX7_front 52 = .ok (.aload_n 0, 1) := dAX7_front_3.2.2.2.2.2.2.2
set_option maxRecDepth 100000 in
theorem dAX7_front_4 : decode cX7_front 53 = .ok (.getfield 32, 3) ∧ decode cX7_front 56 = .ok (.iload_n 1, 1) ∧ decode cX7_front 57 = .ok (.iload_n 2, 1) ∧ decode cX7_front 58 = .ok (.invokevirtual 341, 3) ∧ decode cX7_front 61 = .ok (.aload_n 0, 1) ∧ decode cX7_front 62 = .ok (.getfield 32, 3) ∧ decode cX7_front 65 = .ok (.iconst 4, 1) ∧ decode cX7_front 66 = .ok (.iload_n 1, 1) := by decide +kernel
theorem dX7_front_53 : decode cX7_front 53 = .ok (.getfield 32, 3) := dAX7_front_4.1
theorem dX7_front_56 : decode cX7_front 56 = .ok (.iload_n 1, 1) := dAX7_front_4.2.1
theorem dX7_front_57 : decode cX7_front 57 = .ok (.iload_n 2, 1) := dAX7_front_4.2.2.1
theorem dX7_front_58 : decode cX7_front 58 = .ok (.invokevirtual 341, 3) := dAX7_front_4.2.2.2.1
theorem dX7_front_61 : decode cX7_front 61 = .ok (.aload_n 0, 1) := dAX7_front_4.2.2.2.2.1
theorem dX7_front_62 : decode cX7_front 62 = .ok (.getfield 32, 3) := dAX7_front_4.2.2.2.2.2.1
theorem dX7_front_65 : decode cX7_front 65 = .ok (.iconst 4, 1) := dAX7_front_4.2.2.2.2.2.2.1
theorem dX7_front_66 : decode cX7_front 66 = .ok (.iload_n 1, 1) := dAX7_front_4.2.2.2.2.2.2.2
set_option maxRecDepth 100000 in
theorem dAX7_front_5 : decode cX7_front 67 = .ok (.imul, 1) ∧ decode cX7_front 68 = .ok (.iaload, 1) ∧ decode cX7_front 69 = .ok (.ireturn, 1) := by decide +kernel
theorem dX7_front_67 : decode cX7_front 67 = .ok (.imul, 1) := dAX7_front_5.1
theorem dX7_front_68 : decode cX7_front 68 = .ok (.iaload, 1) := dAX7_front_5.2.1
theorem dX7_front_69 : decode cX7_front 69 = .ok (.ireturn, 1) := dAX7_front_5.2.2
set_option maxRecDepth 100000 in
theorem dAX7_frontOf_0 : decode cX7_frontOf 0 = .ok (.aload_n 1, 1) ∧ decode cX7_frontOf 1 = .ok (.iconst 4, 1) ∧ decode cX7_frontOf 2 = .ok (.iload_n 2, 1) ∧ decode cX7_frontOf 3 = .ok (.imul, 1) ∧ decode cX7_frontOf 4 = .ok (.iload_n 3, 1) ∧ decode cX7_frontOf 5 = .ok (.iadd, 1) ∧ decode cX7_frontOf 6 = .ok (.iaload, 1) ∧ decode cX7_frontOf 7 = .ok (.istore 4, 2) := by decide +kernel
theorem dX7_frontOf_0 : decode cX7_frontOf 0 = .ok (.aload_n 1, 1) := dAX7_frontOf_0.1
theorem dX7_frontOf_1 : decode cX7_frontOf 1 = .ok (.iconst 4, 1) := dAX7_frontOf_0.2.1
theorem dX7_frontOf_2 : decode cX7_frontOf 2 = .ok (.iload_n 2, 1) := dAX7_frontOf_0.2.2.1
theorem dX7_frontOf_3 : decode cX7_frontOf 3 = .ok (.imul, 1) := dAX7_frontOf_0.2.2.2.1
theorem dX7_frontOf_4 : decode cX7_frontOf 4 = .ok (.iload_n 3, 1) := dAX7_frontOf_0.2.2.2.2.1
theorem dX7_frontOf_5 : decode cX7_frontOf 5 = .ok (.iadd, 1) := dAX7_frontOf_0.2.2.2.2.2.1
theorem dX7_frontOf_6 : decode cX7_frontOf 6 = .ok (.iaload, 1) := dAX7_frontOf_0.2.2.2.2.2.2.1
theorem dX7_frontOf_7 : decode cX7_frontOf 7 = .ok (.istore 4, 2) := dAX7_frontOf_0.2.2.2.2.2.2.2
set_option maxRecDepth 100000 in
theorem dAX7_frontOf_1 : decode cX7_frontOf 9 = .ok (.iload_n 3, 1) ∧ decode cX7_frontOf 10 = .ok (.istore 5, 2) ∧ decode cX7_frontOf 12 = .ok (.iload 5, 2) ∧ decode cX7_frontOf 14 = .ok (.ifCond .le 27, 3) ∧ decode cX7_frontOf 17 = .ok (.aload_n 1, 1) ∧ decode cX7_frontOf 18 = .ok (.iconst 4, 1) ∧ decode cX7_frontOf 19 = .ok (.iload_n 2, 1) ∧ decode cX7_frontOf 20 = .ok (.imul, 1) := by decide +kernel
theorem dX7_frontOf_9 : decode cX7_frontOf 9 = .ok (.iload_n 3, 1) := dAX7_frontOf_1.1
theorem dX7_frontOf_10 : decode cX7_frontOf 10 = .ok (.istore 5, 2) := dAX7_frontOf_1.2.1
theorem dX7_frontOf_12 : decode cX7_frontOf 12 = .ok (.iload 5, 2) := dAX7_frontOf_1.2.2.1
theorem dX7_frontOf_14 : decode cX7_frontOf 14 = .ok (.ifCond .le 27, 3) := dAX7_frontOf_1.2.2.2.1
theorem dX7_frontOf_17 : decode cX7_frontOf 17 = .ok (.aload_n 1, 1) := dAX7_frontOf_1.2.2.2.2.1
theorem dX7_frontOf_18 : decode cX7_frontOf 18 = .ok (.iconst 4, 1) := dAX7_frontOf_1.2.2.2.2.2.1
theorem dX7_frontOf_19 : decode cX7_frontOf 19 = .ok (.iload_n 2, 1) := dAX7_frontOf_1.2.2.2.2.2.2.1
theorem dX7_frontOf_20 : decode cX7_frontOf 20 = .ok (.imul, 1) := dAX7_frontOf_1.2.2.2.2.2.2.2
set_option maxRecDepth 100000 in
theorem dAX7_frontOf_2 : decode cX7_frontOf 21 = .ok (.iload 5, 2) ∧ decode cX7_frontOf 23 = .ok (.iadd, 1) ∧ decode cX7_frontOf 24 = .ok (.aload_n 1, 1) ∧ decode cX7_frontOf 25 = .ok (.iconst 4, 1) ∧ decode cX7_frontOf 26 = .ok (.iload_n 2, 1) ∧ decode cX7_frontOf 27 = .ok (.imul, 1) ∧ decode cX7_frontOf 28 = .ok (.iload 5, 2) ∧ decode cX7_frontOf 30 = .ok (.iadd, 1) := by decide +kernel
theorem dX7_frontOf_21 : decode cX7_frontOf 21 = .ok (.iload 5, 2) := dAX7_frontOf_2.1
theorem dX7_frontOf_23 : decode cX7_frontOf 23 = .ok (.iadd, 1) := dAX7_frontOf_2.2.1
theorem dX7_frontOf_24 : decode cX7_frontOf 24 = .ok (.aload_n 1, 1) := dAX7_frontOf_2.2.2.1
theorem dX7_frontOf_25 : decode cX7_frontOf 25 = .ok (.iconst 4, 1) := dAX7_frontOf_2.2.2.2.1
theorem dX7_frontOf_26 : decode cX7_frontOf 26 = .ok (.iload_n 2, 1) := dAX7_frontOf_2.2.2.2.2.1
theorem dX7_frontOf_27 : decode cX7_frontOf 27 = .ok (.imul, 1) := dAX7_frontOf_2.2.2.2.2.2.1
theorem dX7_frontOf_28 : decode cX7_frontOf 28 = .ok (.iload 5, 2) := dAX7_frontOf_2.2.2.2.2.2.2.1
theorem dX7_frontOf_30 : decode cX7_frontOf 30 = .ok (.iadd, 1) := dAX7_frontOf_2.2.2.2.2.2.2.2
set_option maxRecDepth 100000 in
theorem dAX7_frontOf_3 : decode cX7_frontOf 31 = .ok (.iconst 1, 1) ∧ decode cX7_frontOf 32 = .ok (.isub, 1) ∧ decode cX7_frontOf 33 = .ok (.iaload, 1) ∧ decode cX7_frontOf 34 = .ok (.iastore, 1) ∧ decode cX7_frontOf 35 = .ok (.iinc 5 (-1), 3) ∧ decode cX7_frontOf 38 = .ok (.goto (-26), 3) ∧ decode cX7_frontOf 41 = .ok (.aload_n 1, 1) ∧ decode cX7_frontOf 42 = .ok (.iconst 4, 1) := by decide +kernel
theorem dX7_frontOf_31 : decode cX7_frontOf 31 = .ok (.iconst 1, 1) := dAX7_frontOf_3.1
theorem dX7_frontOf_32 : decode cX7_frontOf 32 = .ok (.isub, 1) := dAX7_frontOf_3.2.1
theorem dX7_frontOf_33 : decode cX7_frontOf 33 = .ok (.iaload, 1) := dAX7_frontOf_3.2.2.1
theorem dX7_frontOf_34 : decode cX7_frontOf 34 = .ok (.iastore, 1) := dAX7_frontOf_3.2.2.2.1
theorem dX7_frontOf_35 : decode cX7_frontOf 35 = .ok (.iinc 5 (-1), 3) := dAX7_frontOf_3.2.2.2.2.1
theorem dX7_frontOf_38 : decode cX7_frontOf 38 = .ok (.goto (-26), 3) := dAX7_frontOf_3.2.2.2.2.2.1
theorem dX7_frontOf_41 : decode cX7_frontOf 41 = .ok (.aload_n 1, 1) := dAX7_frontOf_3.2.2.2.2.2.2.1
theorem dX7_frontOf_42 : decode cX7_frontOf 42 = .ok (.iconst 4, 1) := dAX7_frontOf_3.2.2.2.2.2.2.2
set_option maxRecDepth 100000 in
theorem dAX7_frontOf_4 : decode cX7_frontOf 43 = .ok (.iload_n 2, 1) ∧ decode cX7_frontOf 44 = .ok (.imul, 1) ∧ decode cX7_frontOf 45 = .ok (.iload 4, 2) ∧ decode cX7_frontOf 47 = .ok (.iastore, 1) ∧ decode cX7_frontOf 48 = .ok (.return_, 1) := by decide +kernel
theorem dX7_frontOf_43 : decode cX7_frontOf 43 = .ok (.iload_n 2, 1) := dAX7_frontOf_4.1
theorem dX7_frontOf_44 : decode cX7_frontOf 44 = .ok (.imul, 1) := dAX7_frontOf_4.2.1
theorem dX7_frontOf_45 : decode cX7_frontOf 45 = .ok (.iload 4, 2) := dAX7_frontOf_4.2.2.1
theorem dX7_frontOf_47 : decode cX7_frontOf 47 = .ok (.iastore, 1) := dAX7_frontOf_4.2.2.2.1
theorem dX7_frontOf_48 : decode cX7_frontOf 48 = .ok (.return_, 1) := dAX7_frontOf_4.2.2.2.2
set_option maxRecDepth 100000 in
theorem dAX7_good_0 : decode cX7_good 0 = .ok (.aload_n 0, 1) ∧ decode cX7_good 1 = .ok (.iconst 0, 1) ∧ decode cX7_good 2 = .ok (.putfield 65, 3) ∧ decode cX7_good 5 = .ok (.aload_n 0, 1) ∧ decode cX7_good 6 = .ok (.iconst 0, 1) ∧ decode cX7_good 7 = .ok (.putfield 68, 3) ∧ decode cX7_good 10 = .ok (.return_, 1) := by decide +kernel
theorem dX7_good_0 : decode cX7_good 0 = .ok (.aload_n 0, 1) := dAX7_good_0.1
theorem dX7_good_1 : decode cX7_good 1 = .ok (.iconst 0, 1) := dAX7_good_0.2.1
theorem dX7_good_2 : decode cX7_good 2 = .ok (.putfield 65, 3) := dAX7_good_0.2.2.1
theorem dX7_good_5 : decode cX7_good 5 = .ok (.aload_n 0, 1) := dAX7_good_0.2.2.2.1
theorem dX7_good_6 : decode cX7_good 6 = .ok (.iconst 0, 1) := dAX7_good_0.2.2.2.2.1
theorem dX7_good_7 : decode cX7_good 7 = .ok (.putfield 68, 3) := dAX7_good_0.2.2.2.2.2.1
theorem dX7_good_10 : decode cX7_good 10 = .ok (.return_, 1) := dAX7_good_0.2.2.2.2.2.2
set_option maxRecDepth 100000 in
theorem dAX7_halve_0 : decode cX7_halve 0 = .ok (.iconst 0, 1) ∧ decode cX7_halve 1 = .ok (.istore_n 1, 1) ∧ decode cX7_halve 2 = .ok (.bipush 99, 2) ∧ decode cX7_halve 4 = .ok (.istore_n 2, 1) ∧ decode cX7_halve 5 = .ok (.iconst 0, 1) ∧ decode cX7_halve 6 = .ok (.istore_n 3, 1) ∧ decode cX7_halve 7 = .ok (.aload_n 0, 1) ∧ decode cX7_halve 8 = .ok (.iconst 0, 1) := by decide +kernel
theorem dX7_halve_0 : decode cX7_halve 0 = .ok (.iconst 0, 1) := dAX7_halve_0.1
theorem dX7_halve_1 : decode cX7_halve 1 = .ok (.istore_n 1, 1) := dAX7_halve_0.2.1
theorem dX7_halve_2 : decode cX7_halve 2 = .ok (.bipush 99, 2) := dAX7_halve_0.2.2.1
theorem dX7_halve_4 : decode cX7_halve 4 = .ok (.istore_n 2, 1) := dAX7_halve_0.2.2.2.1
theorem dX7_halve_5 : decode cX7_halve 5 = .ok (.iconst 0, 1) := dAX7_halve_0.2.2.2.2.1
theorem dX7_halve_6 : decode cX7_halve 6 = .ok (.istore_n 3, 1) := dAX7_halve_0.2.2.2.2.2.1
theorem dX7_halve_7 : decode cX7_halve 7 = .ok (.aload_n 0, 1) := dAX7_halve_0.2.2.2.2.2.2.1
theorem dX7_halve_8 : decode cX7_halve 8 = .ok (.iconst 0, 1) := dAX7_halve_0.2.2.2.2.2.2.2
set_option maxRecDepth 100000 in
theorem dAX7_halve_1 : decode cX7_halve 9 = .ok (.putfield 314, 3) ∧ decode cX7_halve 12 = .ok (.iload_n 1, 1) ∧ decode cX7_halve 13 = .ok (.iload_n 2, 1) ∧ decode cX7_halve 14 = .ok (.if_icmp .ge 61, 3) ∧ decode cX7_halve 17 = .ok (.iload_n 1, 1) ∧ decode cX7_halve 18 = .ok (.iload_n 2, 1) ∧ decode cX7_halve 19 = .ok (.iadd, 1) ∧ decode cX7_halve 20 = .ok (.iconst 1, 1) := by decide +kernel
theorem dX7_halve_9 : decode cX7_halve 9 = .ok (.putfield 314, 3) := dAX7_halve_1.1
theorem dX7_halve_12 : decode cX7_halve 12 = .ok (.iload_n 1, 1) := dAX7_halve_1.2.1
theorem dX7_halve_13 : decode cX7_halve 13 = .ok (.iload_n 2, 1) := dAX7_halve_1.2.2.1
theorem dX7_halve_14 : decode cX7_halve 14 = .ok (.if_icmp .ge 61, 3) := dAX7_halve_1.2.2.2.1
theorem dX7_halve_17 : decode cX7_halve 17 = .ok (.iload_n 1, 1) := dAX7_halve_1.2.2.2.2.1
theorem dX7_halve_18 : decode cX7_halve 18 = .ok (.iload_n 2, 1) := dAX7_halve_1.2.2.2.2.2.1
theorem dX7_halve_19 : decode cX7_halve 19 = .ok (.iadd, 1) := dAX7_halve_1.2.2.2.2.2.2.1
theorem dX7_halve_20 : decode cX7_halve 20 = .ok (.iconst 1, 1) := dAX7_halve_1.2.2.2.2.2.2.2
set_option maxRecDepth 100000 in
theorem dAX7_halve_2 : decode cX7_halve 21 = .ok (.iadd, 1) ∧ decode cX7_halve 22 = .ok (.iconst 2, 1) ∧ decode cX7_halve 23 = .ok (.idiv, 1) ∧ decode cX7_halve 24 = .ok (.istore 4, 2) ∧ decode cX7_halve 26 = .ok (.aload_n 0, 1) ∧ decode cX7_halve 27 = .ok (.iconst 0, 1) ∧ decode cX7_halve 28 = .ok (.putfield 258, 3) ∧ decode cX7_halve 31 = .ok (.aload_n 0, 1) := by decide +kernel
theorem dX7_halve_21 : decode cX7_halve 21 = .ok (.iadd, 1) := dAX7_halve_2.1
theorem dX7_halve_22 : decode cX7_halve 22 = .ok (.iconst 2, 1) := dAX7_halve_2.2.1
theorem dX7_halve_23 : decode cX7_halve 23 = .ok (.idiv, 1) := dAX7_halve_2.2.2.1
theorem dX7_halve_24 : decode cX7_halve 24 = .ok (.istore 4, 2) := dAX7_halve_2.2.2.2.1
theorem dX7_halve_26 : decode cX7_halve 26 = .ok (.aload_n 0, 1) := dAX7_halve_2.2.2.2.2.1
theorem dX7_halve_27 : decode cX7_halve 27 = .ok (.iconst 0, 1) := dAX7_halve_2.2.2.2.2.2.1
theorem dX7_halve_28 : decode cX7_halve 28 = .ok (.putfield 258, 3) := dAX7_halve_2.2.2.2.2.2.2.1
theorem dX7_halve_31 : decode cX7_halve 31 = .ok (.aload_n 0, 1) := dAX7_halve_2.2.2.2.2.2.2.2
set_option maxRecDepth 100000 in
theorem dAX7_halve_3 : decode cX7_halve 32 = .ok (.iconst 0, 1) ∧ decode cX7_halve 33 = .ok (.putfield 268, 3) ∧ decode cX7_halve 36 = .ok (.aload_n 0, 1) ∧ decode cX7_halve 37 = .ok (.iload 4, 2) ∧ decode cX7_halve 39 = .ok (.invokevirtual 311, 3) ∧ decode cX7_halve 42 = .ok (.ifCond .eq 9, 3) ∧ decode cX7_halve 45 = .ok (.iload 4, 2) ∧ decode cX7_halve 47 = .ok (.istore_n 1, 1) := by decide +kernel
theorem dX7_halve_32 : decode cX7_halve 32 = .ok (.iconst 0, 1) := dAX7_halve_3.1
theorem dX7_halve_33 : decode cX7_halve 33 = .ok (.putfield 268, 3) := dAX7_halve_3.2.1
theorem dX7_halve_36 : decode cX7_halve 36 = .ok (.aload_n 0, 1) := dAX7_halve_3.2.2.1
theorem dX7_halve_37 : decode cX7_halve 37 = .ok (.iload 4, 2) := dAX7_halve_3.2.2.2.1
theorem dX7_halve_39 : decode cX7_halve 39 = .ok (.invokevirtual 311, 3) := dAX7_halve_3.2.2.2.2.1
theorem dX7_halve_42 : decode cX7_halve 42 = .ok (.ifCond .eq 9, 3) := dAX7_halve_3.2.2.2.2.2.1
theorem dX7_halve_45 : decode cX7_halve 45 = .ok (.iload 4, 2) := dAX7_halve_3.2.2.2.2.2.2.1
theorem dX7_halve_47 : decode cX7_halve 47 = .ok (.istore_n 1, 1) := dAX7_halve_3.2.2.2.2.2.2.2
set_option maxRecDepth 100000 in
theorem dAX7_halve_4 : decode cX7_halve 48 = .ok (.goto 8, 3) ∧ decode cX7_halve 51 = .ok (.iload 4, 2) ∧ decode cX7_halve 53 = .ok (.iconst 1, 1) ∧ decode cX7_halve 54 = .ok (.isub, 1) ∧ decode cX7_halve 55 = .ok (.istore_n 2, 1) ∧ decode cX7_halve 56 = .ok (.aload_n 0, 1) ∧ decode cX7_halve 57 = .ok (.dup, 1) ∧ decode cX7_halve 58 = .ok (.getfield 314, 3) := by decide +kernel
theorem dX7_halve_48 : decode cX7_halve 48 = .ok (.goto 8, 3) := dAX7_halve_4.1
theorem dX7_halve_51 : decode cX7_halve 51 = .ok (.iload 4, 2) := dAX7_halve_4.2.1
theorem dX7_halve_53 : decode cX7_halve 53 = .ok (.iconst 1, 1) := dAX7_halve_4.2.2.1
theorem dX7_halve_54 : decode cX7_halve 54 = .ok (.isub, 1) := dAX7_halve_4.2.2.2.1
theorem dX7_halve_55 : decode cX7_halve 55 = .ok (.istore_n 2, 1) := dAX7_halve_4.2.2.2.2.1
theorem dX7_halve_56 : decode cX7_halve 56 = .ok (.aload_n 0, 1) := dAX7_halve_4.2.2.2.2.2.1
theorem dX7_halve_57 : decode cX7_halve 57 = .ok (.dup, 1) := dAX7_halve_4.2.2.2.2.2.2.1
theorem dX7_halve_58 : decode cX7_halve 58 = .ok (.getfield 314, 3) := dAX7_halve_4.2.2.2.2.2.2.2
set_option maxRecDepth 100000 in
theorem dAX7_halve_5 : decode cX7_halve 61 = .ok (.aload_n 0, 1) ∧ decode cX7_halve 62 = .ok (.getfield 258, 3) ∧ decode cX7_halve 65 = .ok (.iadd, 1) ∧ decode cX7_halve 66 = .ok (.putfield 314, 3) ∧ decode cX7_halve 69 = .ok (.iinc 3 1, 3) ∧ decode cX7_halve 72 = .ok (.goto (-60), 3) ∧ decode cX7_halve 75 = .ok (.iload_n 3, 1) ∧ decode cX7_halve 76 = .ok (.ireturn, 1) := by decide +kernel
theorem dX7_halve_61 : decode cX7_halve 61 = .ok (.aload_n 0, 1) := dAX7_halve_5.1
theorem dX7_halve_62 : decode cX7_halve 62 = .ok (.getfield 258, 3) := dAX7_halve_5.2.1
theorem dX7_halve_65 : decode cX7_halve 65 = .ok (.iadd, 1) := dAX7_halve_5.2.2.1
theorem dX7_halve_66 : decode cX7_halve 66 = .ok (.putfield 314, 3) := dAX7_halve_5.2.2.2.1
theorem dX7_halve_69 : decode cX7_halve 69 = .ok (.iinc 3 1, 3) := dAX7_halve_5.2.2.2.2.1
theorem dX7_halve_72 : decode cX7_halve 72 = .ok (.goto (-60), 3) := dAX7_halve_5.2.2.2.2.2.1
theorem dX7_halve_75 : decode cX7_halve 75 = .ok (.iload_n 3, 1) := dAX7_halve_5.2.2.2.2.2.2.1
theorem dX7_halve_76 : decode cX7_halve 76 = .ok (.ireturn, 1) := dAX7_halve_5.2.2.2.2.2.2.2
set_option maxRecDepth 100000 in
theorem dAX7_halves_0 : decode cX7_halves 0 = .ok (.aload_n 0, 1) ∧ decode cX7_halves 1 = .ok (.invokevirtual 175, 3) ∧ decode cX7_halves 4 = .ok (.aload_n 0, 1) ∧ decode cX7_halves 5 = .ok (.getfield 187, 3) ∧ decode cX7_halves 8 = .ok (.ifCond .ne 9, 3) ∧ decode cX7_halves 11 = .ok (.aload_n 0, 1) ∧ decode cX7_halves 12 = .ok (.iconst 1, 1) ∧ decode cX7_halves 13 = .ok (.invokevirtual 178, 3) := by decide +kernel
theorem dX7_halves_0 : decode cX7_halves 0 = .ok (.aload_n 0, 1) := dAX7_halves_0.1
theorem dX7_halves_1 : decode cX7_halves 1 = .ok (.invokevirtual 175, 3) := dAX7_halves_0.2.1
theorem dX7_halves_4 : decode cX7_halves 4 = .ok (.aload_n 0, 1) := dAX7_halves_0.2.2.1
theorem dX7_halves_5 : decode cX7_halves 5 = .ok (.getfield 187, 3) := dAX7_halves_0.2.2.2.1
theorem dX7_halves_8 : decode cX7_halves 8 = .ok (.ifCond .ne 9, 3) := dAX7_halves_0.2.2.2.2.1
theorem dX7_halves_11 : decode cX7_halves 11 = .ok (.aload_n 0, 1) := dAX7_halves_0.2.2.2.2.2.1
theorem dX7_halves_12 : decode cX7_halves 12 = .ok (.iconst 1, 1) := dAX7_halves_0.2.2.2.2.2.2.1
theorem dX7_halves_13 : decode cX7_halves 13 = .ok (.invokevirtual 178, 3) := dAX7_halves_0.2.2.2.2.2.2.2
set_option maxRecDepth 100000 in
theorem dAX7_halves_1 : decode cX7_halves 16 = .ok (.ireturn, 1) ∧ decode cX7_halves 17 = .ok (.aload_n 0, 1) ∧ decode cX7_halves 18 = .ok (.invokevirtual 317, 3) ∧ decode cX7_halves 21 = .ok (.pop, 1) ∧ decode cX7_halves 22 = .ok (.aload_n 0, 1) ∧ decode cX7_halves 23 = .ok (.getfield 314, 3) ∧ decode cX7_halves 26 = .ok (.ireturn, 1) := by decide +kernel
theorem dX7_halves_16 : decode cX7_halves 16 = .ok (.ireturn, 1) := dAX7_halves_1.1
theorem dX7_halves_17 : decode cX7_halves 17 = .ok (.aload_n 0, 1) := dAX7_halves_1.2.1
theorem dX7_halves_18 : decode cX7_halves 18 = .ok (.invokevirtual 317, 3) := dAX7_halves_1.2.2.1
theorem dX7_halves_21 : decode cX7_halves 21 = .ok (.pop, 1) := dAX7_halves_1.2.2.2.1
theorem dX7_halves_22 : decode cX7_halves 22 = .ok (.aload_n 0, 1) := dAX7_halves_1.2.2.2.2.1
theorem dX7_halves_23 : decode cX7_halves 23 = .ok (.getfield 314, 3) := dAX7_halves_1.2.2.2.2.2.1
theorem dX7_halves_26 : decode cX7_halves 26 = .ok (.ireturn, 1) := dAX7_halves_1.2.2.2.2.2.2
set_option maxRecDepth 100000 in
theorem dAX7_handed_0 : decode cX7_handed 0 = .ok (.aload_n 0, 1) ∧ decode cX7_handed 1 = .ok (.invokevirtual 175, 3) ∧ decode cX7_handed 4 = .ok (.aload_n 0, 1) ∧ decode cX7_handed 5 = .ok (.iload_n 1, 1) ∧ decode cX7_handed 6 = .ok (.iload_n 2, 1) ∧ decode cX7_handed 7 = .ok (.invokevirtual 300, 3) ∧ decode cX7_handed 10 = .ok (.istore 4, 2) ∧ decode cX7_handed 12 = .ok (.iload 4, 2) := by decide +kernel
theorem dX7_handed_0 : decode cX7_handed 0 = .ok (.aload_n 0, 1) := dAX7_handed_0.1
theorem dX7_handed_1 : decode cX7_handed 1 = .ok (.invokevirtual 175, 3) := dAX7_handed_0.2.1
theorem dX7_handed_4 : decode cX7_handed 4 = .ok (.aload_n 0, 1) := dAX7_handed_0.2.2.1
theorem dX7_handed_5 : decode cX7_handed 5 = .ok (.iload_n 1, 1) := dAX7_handed_0.2.2.2.1
theorem dX7_handed_6 : decode cX7_handed 6 = .ok (.iload_n 2, 1) := dAX7_handed_0.2.2.2.2.1
theorem dX7_handed_7 : decode cX7_handed 7 = .ok (.invokevirtual 300, 3) := dAX7_handed_0.2.2.2.2.2.1
theorem dX7_handed_10 : decode cX7_handed 10 = .ok (.istore 4, 2) := dAX7_handed_0.2.2.2.2.2.2.1
theorem dX7_handed_12 : decode cX7_handed 12 = .ok (.iload 4, 2) := dAX7_handed_0.2.2.2.2.2.2.2
set_option maxRecDepth 100000 in
theorem dAX7_handed_1 : decode cX7_handed 14 = .ok (.ifCond .eq 13, 3) ∧ decode cX7_handed 17 = .ok (.aload_n 0, 1) ∧ decode cX7_handed 18 = .ok (.iload 4, 2) ∧ decode cX7_handed 20 = .ok (.invokevirtual 178, 3) ∧ decode cX7_handed 23 = .ok (.i2l, 1) ∧ decode cX7_handed 24 = .ok (.goto 33, 3) ∧ decode cX7_handed 27 = .ok (.aload_n 0, 1) ∧ decode cX7_handed 28 = .ok (.aload_n 0, 1) := by decide +kernel
theorem dX7_handed_14 : decode cX7_handed 14 = .ok (.ifCond .eq 13, 3) := dAX7_handed_1.1
theorem dX7_handed_17 : decode cX7_handed 17 = .ok (.aload_n 0, 1) := dAX7_handed_1.2.1
theorem dX7_handed_18 : decode cX7_handed 18 = .ok (.iload 4, 2) := dAX7_handed_1.2.2.1
theorem dX7_handed_20 : decode cX7_handed 20 = .ok (.invokevirtual 178, 3) := dAX7_handed_1.2.2.2.1
theorem dX7_handed_23 : decode cX7_handed 23 = .ok (.i2l, 1) := dAX7_handed_1.2.2.2.2.1
theorem dX7_handed_24 : decode cX7_handed 24 = .ok (.goto 33, 3) := dAX7_handed_1.2.2.2.2.2.1
theorem dX7_handed_27 : decode cX7_handed 27 = .ok (.aload_n 0, 1) := dAX7_handed_1.2.2.2.2.2.2.1
theorem dX7_handed_28 : decode cX7_handed 28 = .ok (.aload_n 0, 1) := dAX7_handed_1.2.2.2.2.2.2.2
set_option maxRecDepth 100000 in
theorem dAX7_handed_2 : decode cX7_handed 29 = .ok (.getfield 32, 3) ∧ decode cX7_handed 32 = .ok (.iload_n 1, 1) ∧ decode cX7_handed 33 = .ok (.aload_n 0, 1) ∧ decode cX7_handed 34 = .ok (.getfield 44, 3) ∧ decode cX7_handed 37 = .ok (.imul, 1) ∧ decode cX7_handed 38 = .ok (.iload_n 2, 1) ∧ decode cX7_handed 39 = .ok (.aload_n 0, 1) ∧ decode cX7_handed 40 = .ok (.getfield 44, 3) := by decide +kernel
theorem dX7_handed_29 : decode cX7_handed 29 = .ok (.getfield 32, 3) := dAX7_handed_2.1
theorem dX7_handed_32 : decode cX7_handed 32 = .ok (.iload_n 1, 1) := dAX7_handed_2.2.1
theorem dX7_handed_33 : decode cX7_handed 33 = .ok (.aload_n 0, 1) := dAX7_handed_2.2.2.1
theorem dX7_handed_34 : decode cX7_handed 34 = .ok (.getfield 44, 3) := dAX7_handed_2.2.2.2.1
theorem dX7_handed_37 : decode cX7_handed 37 = .ok (.imul, 1) := dAX7_handed_2.2.2.2.2.1
theorem dX7_handed_38 : decode cX7_handed 38 = .ok (.iload_n 2, 1) := dAX7_handed_2.2.2.2.2.2.1
theorem dX7_handed_39 : decode cX7_handed 39 = .ok (.aload_n 0, 1) := dAX7_handed_2.2.2.2.2.2.2.1
theorem dX7_handed_40 : decode cX7_handed 40 = .ok (.getfield 44, 3) := dAX7_handed_2.2.2.2.2.2.2.2
set_option maxRecDepth 100000 in
theorem dAX7_handed_3 : decode cX7_handed 43 = .ok (.imul, 1) ∧ decode cX7_handed 44 = .ok (.invokevirtual 271, 3) ∧ decode cX7_handed 47 = .ok (.i2l, 1) ∧ decode cX7_handed 48 = .ok (.aload_n 0, 1) ∧ decode cX7_handed 49 = .ok (.getfield 44, 3) ∧ decode cX7_handed 52 = .ok (.i2l, 1) ∧ decode cX7_handed 53 = .ok (.iload_n 3, 1) ∧ decode cX7_handed 54 = .ok (.invokestatic 283, 3) := by decide +kernel
theorem dX7_handed_43 : decode cX7_handed 43 = .ok (.imul, 1) := dAX7_handed_3.1
theorem dX7_handed_44 : decode cX7_handed 44 = .ok (.invokevirtual 271, 3) := dAX7_handed_3.2.1
theorem dX7_handed_47 : decode cX7_handed 47 = .ok (.i2l, 1) := dAX7_handed_3.2.2.1
theorem dX7_handed_48 : decode cX7_handed 48 = .ok (.aload_n 0, 1) := dAX7_handed_3.2.2.2.1
theorem dX7_handed_49 : decode cX7_handed 49 = .ok (.getfield 44, 3) := dAX7_handed_3.2.2.2.2.1
theorem dX7_handed_52 : decode cX7_handed 52 = .ok (.i2l, 1) := dAX7_handed_3.2.2.2.2.2.1
theorem dX7_handed_53 : decode cX7_handed 53 = .ok (.iload_n 3, 1) := dAX7_handed_3.2.2.2.2.2.2.1
theorem dX7_handed_54 : decode cX7_handed 54 = .ok (.invokestatic 283, 3) := dAX7_handed_3.2.2.2.2.2.2.2
theorem dX7_handed_57 : decode cX7_handed 57 = .ok (.lreturn, 1) := by decide +kernel
set_option maxRecDepth 100000 in
theorem dAX7_hasBit_0 : decode cX7_hasBit 0 = .ok (.iload_n 0, 1) ∧ decode cX7_hasBit 1 = .ok (.iload_n 1, 1) ∧ decode cX7_hasBit 2 = .ok (.ishr, 1) ∧ decode cX7_hasBit 3 = .ok (.iconst 1, 1) ∧ decode cX7_hasBit 4 = .ok (.iand, 1) ∧ decode cX7_hasBit 5 = .ok (.iconst 1, 1) ∧ decode cX7_hasBit 6 = .ok (.if_icmp .ne 7, 3) ∧ decode cX7_hasBit 9 = .ok (.iconst 1, 1) := by decide +kernel
theorem dX7_hasBit_0 : decode cX7_hasBit 0 = .ok (.iload_n 0, 1) := dAX7_hasBit_0.1
theorem dX7_hasBit_1 : decode cX7_hasBit 1 = .ok (.iload_n 1, 1) := dAX7_hasBit_0.2.1
theorem dX7_hasBit_2 : decode cX7_hasBit 2 = .ok (.ishr, 1) := dAX7_hasBit_0.2.2.1
theorem dX7_hasBit_3 : decode cX7_hasBit 3 = .ok (.iconst 1, 1) := dAX7_hasBit_0.2.2.2.1
theorem dX7_hasBit_4 : decode cX7_hasBit 4 = .ok (.iand, 1) := dAX7_hasBit_0.2.2.2.2.1
theorem dX7_hasBit_5 : decode cX7_hasBit 5 = .ok (.iconst 1, 1) := dAX7_hasBit_0.2.2.2.2.2.1
theorem dX7_hasBit_6 : decode cX7_hasBit 6 = .ok (.if_icmp .ne 7, 3) := dAX7_hasBit_0.2.2.2.2.2.2.1
theorem dX7_hasBit_9 : decode cX7_hasBit 9 = .ok (.iconst 1, 1) := dAX7_hasBit_0.2.2.2.2.2.2.2
set_option maxRecDepth 100000 in
theorem dAX7_hasBit_1 : decode cX7_hasBit 10 = .ok (.goto 4, 3) ∧ decode cX7_hasBit 13 = .ok (.iconst 0, 1) ∧ decode cX7_hasBit 14 = .ok (.ireturn, 1) := by decide +kernel
theorem dX7_hasBit_10 : decode cX7_hasBit 10 = .ok (.goto 4, 3) := dAX7_hasBit_1.1
theorem dX7_hasBit_13 : decode cX7_hasBit 13 = .ok (.iconst 0, 1) := dAX7_hasBit_1.2.1
theorem dX7_hasBit_14 : decode cX7_hasBit 14 = .ok (.ireturn, 1) := dAX7_hasBit_1.2.2
set_option maxRecDepth 100000 in
theorem dAX7_hear_0 : decode cX7_hear 0 = .ok (.aload_n 0, 1) ∧ decode cX7_hear 1 = .ok (.getfield 20, 3) ∧ decode cX7_hear 4 = .ok (.bipush 9, 2) ∧ decode cX7_hear 6 = .ok (.iload_n 2, 1) ∧ decode cX7_hear 7 = .ok (.iadd, 1) ∧ decode cX7_hear 8 = .ok (.iaload, 1) ∧ decode cX7_hear 9 = .ok (.istore 5, 2) ∧ decode cX7_hear 11 = .ok (.iload 5, 2) := by decide +kernel
theorem dX7_hear_0 : decode cX7_hear 0 = .ok (.aload_n 0, 1) := dAX7_hear_0.1
theorem dX7_hear_1 : decode cX7_hear 1 = .ok (.getfield 20, 3) := dAX7_hear_0.2.1
theorem dX7_hear_4 : decode cX7_hear 4 = .ok (.bipush 9, 2) := dAX7_hear_0.2.2.1
theorem dX7_hear_6 : decode cX7_hear 6 = .ok (.iload_n 2, 1) := dAX7_hear_0.2.2.2.1
theorem dX7_hear_7 : decode cX7_hear 7 = .ok (.iadd, 1) := dAX7_hear_0.2.2.2.2.1
theorem dX7_hear_8 : decode cX7_hear 8 = .ok (.iaload, 1) := dAX7_hear_0.2.2.2.2.2.1
theorem dX7_hear_9 : decode cX7_hear 9 = .ok (.istore 5, 2) := dAX7_hear_0.2.2.2.2.2.2.1
theorem dX7_hear_11 : decode cX7_hear 11 = .ok (.iload 5, 2) := dAX7_hear_0.2.2.2.2.2.2.2
set_option maxRecDepth 100000 in
theorem dAX7_hear_1 : decode cX7_hear 13 = .ok (.ifCond .ne 35, 3) ∧ decode cX7_hear 16 = .ok (.aload_n 0, 1) ∧ decode cX7_hear 17 = .ok (.getfield 50, 3) ∧ decode cX7_hear 20 = .ok (.aload_n 0, 1) ∧ decode cX7_hear 21 = .ok (.getfield 258, 3) ∧ decode cX7_hear 24 = .ok (.iload_n 2, 1) ∧ decode cX7_hear 25 = .ok (.iastore, 1) ∧ decode cX7_hear 26 = .ok (.aload_n 0, 1) := by decide +kernel
theorem dX7_hear_13 : decode cX7_hear 13 = .ok (.ifCond .ne 35, 3) := dAX7_hear_1.1
theorem dX7_hear_16 : decode cX7_hear 16 = .ok (.aload_n 0, 1) := dAX7_hear_1.2.1
theorem dX7_hear_17 : decode cX7_hear 17 = .ok (.getfield 50, 3) := dAX7_hear_1.2.2.1
theorem dX7_hear_20 : decode cX7_hear 20 = .ok (.aload_n 0, 1) := dAX7_hear_1.2.2.2.1
theorem dX7_hear_21 : decode cX7_hear 21 = .ok (.getfield 258, 3) := dAX7_hear_1.2.2.2.2.1
theorem dX7_hear_24 : decode cX7_hear 24 = .ok (.iload_n 2, 1) := dAX7_hear_1.2.2.2.2.2.1
theorem dX7_hear_25 : decode cX7_hear 25 = .ok (.iastore, 1) := dAX7_hear_1.2.2.2.2.2.2.1
theorem dX7_hear_26 : decode cX7_hear 26 = .ok (.aload_n 0, 1) := dAX7_hear_1.2.2.2.2.2.2.2
set_option maxRecDepth 100000 in
theorem dAX7_hear_2 : decode cX7_hear 27 = .ok (.dup, 1) ∧ decode cX7_hear 28 = .ok (.getfield 258, 3) ∧ decode cX7_hear 31 = .ok (.iconst 1, 1) ∧ decode cX7_hear 32 = .ok (.iadd, 1) ∧ decode cX7_hear 33 = .ok (.putfield 258, 3) ∧ decode cX7_hear 36 = .ok (.aload_n 1, 1) ∧ decode cX7_hear 37 = .ok (.bipush 72, 2) ∧ decode cX7_hear 39 = .ok (.iload_n 2, 1) := by decide +kernel
theorem dX7_hear_27 : decode cX7_hear 27 = .ok (.dup, 1) := dAX7_hear_2.1
theorem dX7_hear_28 : decode cX7_hear 28 = .ok (.getfield 258, 3) := dAX7_hear_2.2.1
theorem dX7_hear_31 : decode cX7_hear 31 = .ok (.iconst 1, 1) := dAX7_hear_2.2.2.1
theorem dX7_hear_32 : decode cX7_hear 32 = .ok (.iadd, 1) := dAX7_hear_2.2.2.2.1
theorem dX7_hear_33 : decode cX7_hear 33 = .ok (.putfield 258, 3) := dAX7_hear_2.2.2.2.2.1
theorem dX7_hear_36 : decode cX7_hear 36 = .ok (.aload_n 1, 1) := dAX7_hear_2.2.2.2.2.2.1
theorem dX7_hear_37 : decode cX7_hear 37 = .ok (.bipush 72, 2) := dAX7_hear_2.2.2.2.2.2.2.1
theorem dX7_hear_39 : decode cX7_hear 39 = .ok (.iload_n 2, 1) := dAX7_hear_2.2.2.2.2.2.2.2
set_option maxRecDepth 100000 in
theorem dAX7_hear_3 : decode cX7_hear 40 = .ok (.iadd, 1) ∧ decode cX7_hear 41 = .ok (.iaload, 1) ∧ decode cX7_hear 42 = .ok (.aload_n 0, 1) ∧ decode cX7_hear 43 = .ok (.getfield 44, 3) ∧ decode cX7_hear 46 = .ok (.imul, 1) ∧ decode cX7_hear 47 = .ok (.ireturn, 1) ∧ decode cX7_hear 48 = .ok (.iload 5, 2) ∧ decode cX7_hear 50 = .ok (.iconst 2, 1) := by decide +kernel
theorem dX7_hear_40 : decode cX7_hear 40 = .ok (.iadd, 1) := dAX7_hear_3.1
theorem dX7_hear_41 : decode cX7_hear 41 = .ok (.iaload, 1) := dAX7_hear_3.2.1
theorem dX7_hear_42 : decode cX7_hear 42 = .ok (.aload_n 0, 1) := dAX7_hear_3.2.2.1
theorem dX7_hear_43 : decode cX7_hear 43 = .ok (.getfield 44, 3) := dAX7_hear_3.2.2.2.1
theorem dX7_hear_46 : decode cX7_hear 46 = .ok (.imul, 1) := dAX7_hear_3.2.2.2.2.1
theorem dX7_hear_47 : decode cX7_hear 47 = .ok (.ireturn, 1) := dAX7_hear_3.2.2.2.2.2.1
theorem dX7_hear_48 : decode cX7_hear 48 = .ok (.iload 5, 2) := dAX7_hear_3.2.2.2.2.2.2.1
theorem dX7_hear_50 : decode cX7_hear 50 = .ok (.iconst 2, 1) := dAX7_hear_3.2.2.2.2.2.2.2
set_option maxRecDepth 100000 in
theorem dAX7_hear_4 : decode cX7_hear 51 = .ok (.if_icmp .ne 8, 3) ∧ decode cX7_hear 54 = .ok (.ldc 245, 2) ∧ decode cX7_hear 56 = .ok (.goto 15, 3) ∧ decode cX7_hear 59 = .ok (.iload 5, 2) ∧ decode cX7_hear 61 = .ok (.iconst 1, 1) ∧ decode cX7_hear 62 = .ok (.if_icmp .ne 8, 3) ∧ decode cX7_hear 65 = .ok (.ldc 246, 2) ∧ decode cX7_hear 67 = .ok (.goto 4, 3) := by decide +kernel
theorem dX7_hear_51 : decode cX7_hear 51 = .ok (.if_icmp .ne 8, 3) := dAX7_hear_4.1
theorem dX7_hear_54 : decode cX7_hear 54 = .ok (.ldc 245, 2) := dAX7_hear_4.2.1
theorem dX7_hear_56 : decode cX7_hear 56 = .ok (.goto 15, 3) := dAX7_hear_4.2.2.1
theorem dX7_hear_59 : decode cX7_hear 59 = .ok (.iload 5, 2) := dAX7_hear_4.2.2.2.1
theorem dX7_hear_61 : decode cX7_hear 61 = .ok (.iconst 1, 1) := dAX7_hear_4.2.2.2.2.1
theorem dX7_hear_62 : decode cX7_hear 62 = .ok (.if_icmp .ne 8, 3) := dAX7_hear_4.2.2.2.2.2.1
theorem dX7_hear_65 : decode cX7_hear 65 = .ok (.ldc 246, 2) := dAX7_hear_4.2.2.2.2.2.2.1
theorem dX7_hear_67 : decode cX7_hear 67 = .ok (.goto 4, 3) := dAX7_hear_4.2.2.2.2.2.2.2
set_option maxRecDepth 100000 in
theorem dAX7_hear_5 : decode cX7_hear 70 = .ok (.iconst 0, 1) ∧ decode cX7_hear 71 = .ok (.istore 6, 2) ∧ decode cX7_hear 73 = .ok (.aload_n 0, 1) ∧ decode cX7_hear 74 = .ok (.getfield 20, 3) ∧ decode cX7_hear 77 = .ok (.bipush 27, 2) ∧ decode cX7_hear 79 = .ok (.iload_n 2, 1) ∧ decode cX7_hear 80 = .ok (.iadd, 1) ∧ decode cX7_hear 81 = .ok (.iaload, 1) := by decide +kernel
theorem dX7_hear_70 : decode cX7_hear 70 = .ok (.iconst 0, 1) := dAX7_hear_5.1
theorem dX7_hear_71 : decode cX7_hear 71 = .ok (.istore 6, 2) := dAX7_hear_5.2.1
theorem dX7_hear_73 : decode cX7_hear 73 = .ok (.aload_n 0, 1) := dAX7_hear_5.2.2.1
theorem dX7_hear_74 : decode cX7_hear 74 = .ok (.getfield 20, 3) := dAX7_hear_5.2.2.2.1
theorem dX7_hear_77 : decode cX7_hear 77 = .ok (.bipush 27, 2) := dAX7_hear_5.2.2.2.2.1
theorem dX7_hear_79 : decode cX7_hear 79 = .ok (.iload_n 2, 1) := dAX7_hear_5.2.2.2.2.2.1
theorem dX7_hear_80 : decode cX7_hear 80 = .ok (.iadd, 1) := dAX7_hear_5.2.2.2.2.2.2.1
theorem dX7_hear_81 : decode cX7_hear 81 = .ok (.iaload, 1) := dAX7_hear_5.2.2.2.2.2.2.2
set_option maxRecDepth 100000 in
theorem dAX7_hear_6 : decode cX7_hear 82 = .ok (.istore 7, 2) ∧ decode cX7_hear 84 = .ok (.iconst 0, 1) ∧ decode cX7_hear 85 = .ok (.istore 8, 2) ∧ decode cX7_hear 87 = .ok (.iload 8, 2) ∧ decode cX7_hear 89 = .ok (.iload 7, 2) ∧ decode cX7_hear 91 = .ok (.if_icmp .ge 179, 3) ∧ decode cX7_hear 94 = .ok (.aload_n 1, 1) ∧ decode cX7_hear 95 = .ok (.iconst 4, 1) := by decide +kernel
theorem dX7_hear_82 : decode cX7_hear 82 = .ok (.istore 7, 2) := dAX7_hear_6.1
theorem dX7_hear_84 : decode cX7_hear 84 = .ok (.iconst 0, 1) := dAX7_hear_6.2.1
theorem dX7_hear_85 : decode cX7_hear 85 = .ok (.istore 8, 2) := dAX7_hear_6.2.2.1
theorem dX7_hear_87 : decode cX7_hear 87 = .ok (.iload 8, 2) := dAX7_hear_6.2.2.2.1
theorem dX7_hear_89 : decode cX7_hear 89 = .ok (.iload 7, 2) := dAX7_hear_6.2.2.2.2.1
theorem dX7_hear_91 : decode cX7_hear 91 = .ok (.if_icmp .ge 179, 3) := dAX7_hear_6.2.2.2.2.2.1
theorem dX7_hear_94 : decode cX7_hear 94 = .ok (.aload_n 1, 1) := dAX7_hear_6.2.2.2.2.2.2.1
theorem dX7_hear_95 : decode cX7_hear 95 = .ok (.iconst 4, 1) := dAX7_hear_6.2.2.2.2.2.2.2
set_option maxRecDepth 100000 in
theorem dAX7_hear_7 : decode cX7_hear 96 = .ok (.iload_n 2, 1) ∧ decode cX7_hear 97 = .ok (.imul, 1) ∧ decode cX7_hear 98 = .ok (.iload 8, 2) ∧ decode cX7_hear 100 = .ok (.iadd, 1) ∧ decode cX7_hear 101 = .ok (.iaload, 1) ∧ decode cX7_hear 102 = .ok (.istore 9, 2) ∧ decode cX7_hear 104 = .ok (.iload 5, 2) ∧ decode cX7_hear 106 = .ok (.iconst 3, 1) := by decide +kernel
theorem dX7_hear_96 : decode cX7_hear 96 = .ok (.iload_n 2, 1) := dAX7_hear_7.1
theorem dX7_hear_97 : decode cX7_hear 97 = .ok (.imul, 1) := dAX7_hear_7.2.1
theorem dX7_hear_98 : decode cX7_hear 98 = .ok (.iload 8, 2) := dAX7_hear_7.2.2.1
theorem dX7_hear_100 : decode cX7_hear 100 = .ok (.iadd, 1) := dAX7_hear_7.2.2.2.1
theorem dX7_hear_101 : decode cX7_hear 101 = .ok (.iaload, 1) := dAX7_hear_7.2.2.2.2.1
theorem dX7_hear_102 : decode cX7_hear 102 = .ok (.istore 9, 2) := dAX7_hear_7.2.2.2.2.2.1
theorem dX7_hear_104 : decode cX7_hear 104 = .ok (.iload 5, 2) := dAX7_hear_7.2.2.2.2.2.2.1
theorem dX7_hear_106 : decode cX7_hear 106 = .ok (.iconst 3, 1) := dAX7_hear_7.2.2.2.2.2.2.2
set_option maxRecDepth 100000 in
theorem dAX7_hear_8 : decode cX7_hear 107 = .ok (.if_icmp .ne 30, 3) ∧ decode cX7_hear 110 = .ok (.iload 6, 2) ∧ decode cX7_hear 112 = .ok (.aload_n 0, 1) ∧ decode cX7_hear 113 = .ok (.aload_n 1, 1) ∧ decode cX7_hear 114 = .ok (.iload 9, 2) ∧ decode cX7_hear 116 = .ok (.ldc 246, 2) ∧ decode cX7_hear 118 = .ok (.ldc 245, 2) ∧ decode cX7_hear 120 = .ok (.invokevirtual 261, 3) := by decide +kernel
theorem dX7_hear_107 : decode cX7_hear 107 = .ok (.if_icmp .ne 30, 3) := dAX7_hear_8.1
theorem dX7_hear_110 : decode cX7_hear 110 = .ok (.iload 6, 2) := dAX7_hear_8.2.1
theorem dX7_hear_112 : decode cX7_hear 112 = .ok (.aload_n 0, 1) := dAX7_hear_8.2.2.1
theorem dX7_hear_113 : decode cX7_hear 113 = .ok (.aload_n 1, 1) := dAX7_hear_8.2.2.2.1
theorem dX7_hear_114 : decode cX7_hear 114 = .ok (.iload 9, 2) := dAX7_hear_8.2.2.2.2.1
theorem dX7_hear_116 : decode cX7_hear 116 = .ok (.ldc 246, 2) := dAX7_hear_8.2.2.2.2.2.1
theorem dX7_hear_118 : decode cX7_hear 118 = .ok (.ldc 245, 2) := dAX7_hear_8.2.2.2.2.2.2.1
theorem dX7_hear_120 : decode cX7_hear 120 = .ok (.invokevirtual 261, 3) := dAX7_hear_8.2.2.2.2.2.2.2
set_option maxRecDepth 100000 in
theorem dAX7_hear_9 : decode cX7_hear 123 = .ok (.aload_n 0, 1) ∧ decode cX7_hear 124 = .ok (.iload_n 2, 1) ∧ decode cX7_hear 125 = .ok (.iload 9, 2) ∧ decode cX7_hear 127 = .ok (.invokevirtual 251, 3) ∧ decode cX7_hear 130 = .ok (.imul, 1) ∧ decode cX7_hear 131 = .ok (.iadd, 1) ∧ decode cX7_hear 132 = .ok (.istore 6, 2) ∧ decode cX7_hear 134 = .ok (.goto 130, 3) := by decide +kernel
theorem dX7_hear_123 : decode cX7_hear 123 = .ok (.aload_n 0, 1) := dAX7_hear_9.1
theorem dX7_hear_124 : decode cX7_hear 124 = .ok (.iload_n 2, 1) := dAX7_hear_9.2.1
theorem dX7_hear_125 : decode cX7_hear 125 = .ok (.iload 9, 2) := dAX7_hear_9.2.2.1
theorem dX7_hear_127 : decode cX7_hear 127 = .ok (.invokevirtual 251, 3) := dAX7_hear_9.2.2.2.1
theorem dX7_hear_130 : decode cX7_hear 130 = .ok (.imul, 1) := dAX7_hear_9.2.2.2.2.1
theorem dX7_hear_131 : decode cX7_hear 131 = .ok (.iadd, 1) := dAX7_hear_9.2.2.2.2.2.1
theorem dX7_hear_132 : decode cX7_hear 132 = .ok (.istore 6, 2) := dAX7_hear_9.2.2.2.2.2.2.1
theorem dX7_hear_134 : decode cX7_hear 134 = .ok (.goto 130, 3) := dAX7_hear_9.2.2.2.2.2.2.2
set_option maxRecDepth 100000 in
theorem dAX7_hear_10 : decode cX7_hear 137 = .ok (.iload 5, 2) ∧ decode cX7_hear 139 = .ok (.iconst 1, 1) ∧ decode cX7_hear 140 = .ok (.if_icmp .ne 65, 3) ∧ decode cX7_hear 143 = .ok (.aload_n 0, 1) ∧ decode cX7_hear 144 = .ok (.aload_n 1, 1) ∧ decode cX7_hear 145 = .ok (.iload 9, 2) ∧ decode cX7_hear 147 = .ok (.iload 6, 2) ∧ decode cX7_hear 149 = .ok (.iload_n 3, 1) := by decide +kernel
theorem dX7_hear_137 : decode cX7_hear 137 = .ok (.iload 5, 2) := dAX7_hear_10.1
theorem dX7_hear_139 : decode cX7_hear 139 = .ok (.iconst 1, 1) := dAX7_hear_10.2.1
theorem dX7_hear_140 : decode cX7_hear 140 = .ok (.if_icmp .ne 65, 3) := dAX7_hear_10.2.2.1
theorem dX7_hear_143 : decode cX7_hear 143 = .ok (.aload_n 0, 1) := dAX7_hear_10.2.2.2.1
theorem dX7_hear_144 : decode cX7_hear 144 = .ok (.aload_n 1, 1) := dAX7_hear_10.2.2.2.2.1
theorem dX7_hear_145 : decode cX7_hear 145 = .ok (.iload 9, 2) := dAX7_hear_10.2.2.2.2.2.1
theorem dX7_hear_147 : decode cX7_hear 147 = .ok (.iload 6, 2) := dAX7_hear_10.2.2.2.2.2.2.1
theorem dX7_hear_149 : decode cX7_hear 149 = .ok (.iload_n 3, 1) := dAX7_hear_10.2.2.2.2.2.2.2
set_option maxRecDepth 100000 in
theorem dAX7_hear_11 : decode cX7_hear 150 = .ok (.if_icmp .le 8, 3) ∧ decode cX7_hear 153 = .ok (.iload 6, 2) ∧ decode cX7_hear 155 = .ok (.goto 4, 3) ∧ decode cX7_hear 158 = .ok (.iload_n 3, 1) ∧ decode cX7_hear 159 = .ok (.iload 4, 2) ∧ decode cX7_hear 161 = .ok (.invokevirtual 261, 3) ∧ decode cX7_hear 164 = .ok (.istore 10, 2) ∧ decode cX7_hear 166 = .ok (.iload 10, 2) := by decide +kernel
theorem dX7_hear_150 : decode cX7_hear 150 = .ok (.if_icmp .le 8, 3) := dAX7_hear_11.1
theorem dX7_hear_153 : decode cX7_hear 153 = .ok (.iload 6, 2) := dAX7_hear_11.2.1
theorem dX7_hear_155 : decode cX7_hear 155 = .ok (.goto 4, 3) := dAX7_hear_11.2.2.1
theorem dX7_hear_158 : decode cX7_hear 158 = .ok (.iload_n 3, 1) := dAX7_hear_11.2.2.2.1
theorem dX7_hear_159 : decode cX7_hear 159 = .ok (.iload 4, 2) := dAX7_hear_11.2.2.2.2.1
theorem dX7_hear_161 : decode cX7_hear 161 = .ok (.invokevirtual 261, 3) := dAX7_hear_11.2.2.2.2.2.1
theorem dX7_hear_164 : decode cX7_hear 164 = .ok (.istore 10, 2) := dAX7_hear_11.2.2.2.2.2.2.1
theorem dX7_hear_166 : decode cX7_hear 166 = .ok (.iload 10, 2) := dAX7_hear_11.2.2.2.2.2.2.2
set_option maxRecDepth 100000 in
theorem dAX7_hear_12 : decode cX7_hear 168 = .ok (.iload 6, 2) ∧ decode cX7_hear 170 = .ok (.if_icmp .le 8, 3) ∧ decode cX7_hear 173 = .ok (.iload 10, 2) ∧ decode cX7_hear 175 = .ok (.goto 5, 3) ∧ decode cX7_hear 178 = .ok (.iload 6, 2) ∧ decode cX7_hear 180 = .ok (.istore 6, 2) ∧ decode cX7_hear 182 = .ok (.iload 6, 2) ∧ decode cX7_hear 184 = .ok (.iload 4, 2) := by decide +kernel
theorem dX7_hear_168 : decode cX7_hear 168 = .ok (.iload 6, 2) := dAX7_hear_12.1
theorem dX7_hear_170 : decode cX7_hear 170 = .ok (.if_icmp .le 8, 3) := dAX7_hear_12.2.1
theorem dX7_hear_173 : decode cX7_hear 173 = .ok (.iload 10, 2) := dAX7_hear_12.2.2.1
theorem dX7_hear_175 : decode cX7_hear 175 = .ok (.goto 5, 3) := dAX7_hear_12.2.2.2.1
theorem dX7_hear_178 : decode cX7_hear 178 = .ok (.iload 6, 2) := dAX7_hear_12.2.2.2.2.1
theorem dX7_hear_180 : decode cX7_hear 180 = .ok (.istore 6, 2) := dAX7_hear_12.2.2.2.2.2.1
theorem dX7_hear_182 : decode cX7_hear 182 = .ok (.iload 6, 2) := dAX7_hear_12.2.2.2.2.2.2.1
theorem dX7_hear_184 : decode cX7_hear 184 = .ok (.iload 4, 2) := dAX7_hear_12.2.2.2.2.2.2.2
set_option maxRecDepth 100000 in
theorem dAX7_hear_13 : decode cX7_hear 186 = .ok (.if_icmp .lt 16, 3) ∧ decode cX7_hear 189 = .ok (.aload_n 0, 1) ∧ decode cX7_hear 190 = .ok (.aload_n 1, 1) ∧ decode cX7_hear 191 = .ok (.iload_n 2, 1) ∧ decode cX7_hear 192 = .ok (.iload 8, 2) ∧ decode cX7_hear 194 = .ok (.iconst 1, 1) ∧ decode cX7_hear 195 = .ok (.iadd, 1) ∧ decode cX7_hear 196 = .ok (.iload 6, 2) := by decide +kernel
theorem dX7_hear_186 : decode cX7_hear 186 = .ok (.if_icmp .lt 16, 3) := dAX7_hear_13.1
theorem dX7_hear_189 : decode cX7_hear 189 = .ok (.aload_n 0, 1) := dAX7_hear_13.2.1
theorem dX7_hear_190 : decode cX7_hear 190 = .ok (.aload_n 1, 1) := dAX7_hear_13.2.2.1
theorem dX7_hear_191 : decode cX7_hear 191 = .ok (.iload_n 2, 1) := dAX7_hear_13.2.2.2.1
theorem dX7_hear_192 : decode cX7_hear 192 = .ok (.iload 8, 2) := dAX7_hear_13.2.2.2.2.1
theorem dX7_hear_194 : decode cX7_hear 194 = .ok (.iconst 1, 1) := dAX7_hear_13.2.2.2.2.2.1
theorem dX7_hear_195 : decode cX7_hear 195 = .ok (.iadd, 1) := dAX7_hear_13.2.2.2.2.2.2.1
theorem dX7_hear_196 : decode cX7_hear 196 = .ok (.iload 6, 2) := dAX7_hear_13.2.2.2.2.2.2.2
set_option maxRecDepth 100000 in
theorem dAX7_hear_14 : decode cX7_hear 198 = .ok (.invokevirtual 265, 3) ∧ decode cX7_hear 201 = .ok (.ireturn, 1) ∧ decode cX7_hear 202 = .ok (.goto 62, 3) ∧ decode cX7_hear 205 = .ok (.aload_n 0, 1) ∧ decode cX7_hear 206 = .ok (.aload_n 1, 1) ∧ decode cX7_hear 207 = .ok (.iload 9, 2) ∧ decode cX7_hear 209 = .ok (.iload_n 3, 1) ∧ decode cX7_hear 210 = .ok (.iload 6, 2) := by decide +kernel
theorem dX7_hear_198 : decode cX7_hear 198 = .ok (.invokevirtual 265, 3) := dAX7_hear_14.1
theorem dX7_hear_201 : decode cX7_hear 201 = .ok (.ireturn, 1) := dAX7_hear_14.2.1
theorem dX7_hear_202 : decode cX7_hear 202 = .ok (.goto 62, 3) := dAX7_hear_14.2.2.1
theorem dX7_hear_205 : decode cX7_hear 205 = .ok (.aload_n 0, 1) := dAX7_hear_14.2.2.2.1
theorem dX7_hear_206 : decode cX7_hear 206 = .ok (.aload_n 1, 1) := dAX7_hear_14.2.2.2.2.1
theorem dX7_hear_207 : decode cX7_hear 207 = .ok (.iload 9, 2) := dAX7_hear_14.2.2.2.2.2.1
theorem dX7_hear_209 : decode cX7_hear 209 = .ok (.iload_n 3, 1) := dAX7_hear_14.2.2.2.2.2.2.1
theorem dX7_hear_210 : decode cX7_hear 210 = .ok (.iload 6, 2) := dAX7_hear_14.2.2.2.2.2.2.2
set_option maxRecDepth 100000 in
theorem dAX7_hear_15 : decode cX7_hear 212 = .ok (.iload 4, 2) ∧ decode cX7_hear 214 = .ok (.if_icmp .ge 8, 3) ∧ decode cX7_hear 217 = .ok (.iload 6, 2) ∧ decode cX7_hear 219 = .ok (.goto 5, 3) ∧ decode cX7_hear 222 = .ok (.iload 4, 2) ∧ decode cX7_hear 224 = .ok (.invokevirtual 261, 3) ∧ decode cX7_hear 227 = .ok (.istore 10, 2) ∧ decode cX7_hear 229 = .ok (.iload 10, 2) := by decide +kernel
theorem dX7_hear_212 : decode cX7_hear 212 = .ok (.iload 4, 2) := dAX7_hear_15.1
theorem dX7_hear_214 : decode cX7_hear 214 = .ok (.if_icmp .ge 8, 3) := dAX7_hear_15.2.1
theorem dX7_hear_217 : decode cX7_hear 217 = .ok (.iload 6, 2) := dAX7_hear_15.2.2.1
theorem dX7_hear_219 : decode cX7_hear 219 = .ok (.goto 5, 3) := dAX7_hear_15.2.2.2.1
theorem dX7_hear_222 : decode cX7_hear 222 = .ok (.iload 4, 2) := dAX7_hear_15.2.2.2.2.1
theorem dX7_hear_224 : decode cX7_hear 224 = .ok (.invokevirtual 261, 3) := dAX7_hear_15.2.2.2.2.2.1
theorem dX7_hear_227 : decode cX7_hear 227 = .ok (.istore 10, 2) := dAX7_hear_15.2.2.2.2.2.2.1
theorem dX7_hear_229 : decode cX7_hear 229 = .ok (.iload 10, 2) := dAX7_hear_15.2.2.2.2.2.2.2
set_option maxRecDepth 100000 in
theorem dAX7_hear_16 : decode cX7_hear 231 = .ok (.iload 6, 2) ∧ decode cX7_hear 233 = .ok (.if_icmp .ge 8, 3) ∧ decode cX7_hear 236 = .ok (.iload 10, 2) ∧ decode cX7_hear 238 = .ok (.goto 5, 3) ∧ decode cX7_hear 241 = .ok (.iload 6, 2) ∧ decode cX7_hear 243 = .ok (.istore 6, 2) ∧ decode cX7_hear 245 = .ok (.iload 6, 2) ∧ decode cX7_hear 247 = .ok (.iload_n 3, 1) := by decide +kernel
theorem dX7_hear_231 : decode cX7_hear 231 = .ok (.iload 6, 2) := dAX7_hear_16.1
theorem dX7_hear_233 : decode cX7_hear 233 = .ok (.if_icmp .ge 8, 3) := dAX7_hear_16.2.1
theorem dX7_hear_236 : decode cX7_hear 236 = .ok (.iload 10, 2) := dAX7_hear_16.2.2.1
theorem dX7_hear_238 : decode cX7_hear 238 = .ok (.goto 5, 3) := dAX7_hear_16.2.2.2.1
theorem dX7_hear_241 : decode cX7_hear 241 = .ok (.iload 6, 2) := dAX7_hear_16.2.2.2.2.1
theorem dX7_hear_243 : decode cX7_hear 243 = .ok (.istore 6, 2) := dAX7_hear_16.2.2.2.2.2.1
theorem dX7_hear_245 : decode cX7_hear 245 = .ok (.iload 6, 2) := dAX7_hear_16.2.2.2.2.2.2.1
theorem dX7_hear_247 : decode cX7_hear 247 = .ok (.iload_n 3, 1) := dAX7_hear_16.2.2.2.2.2.2.2
set_option maxRecDepth 100000 in
theorem dAX7_hear_17 : decode cX7_hear 248 = .ok (.if_icmp .gt 16, 3) ∧ decode cX7_hear 251 = .ok (.aload_n 0, 1) ∧ decode cX7_hear 252 = .ok (.aload_n 1, 1) ∧ decode cX7_hear 253 = .ok (.iload_n 2, 1) ∧ decode cX7_hear 254 = .ok (.iload 8, 2) ∧ decode cX7_hear 256 = .ok (.iconst 1, 1) ∧ decode cX7_hear 257 = .ok (.iadd, 1) ∧ decode cX7_hear 258 = .ok (.iload 6, 2) := by decide +kernel
theorem dX7_hear_248 : decode cX7_hear 248 = .ok (.if_icmp .gt 16, 3) := dAX7_hear_17.1
theorem dX7_hear_251 : decode cX7_hear 251 = .ok (.aload_n 0, 1) := dAX7_hear_17.2.1
theorem dX7_hear_252 : decode cX7_hear 252 = .ok (.aload_n 1, 1) := dAX7_hear_17.2.2.1
theorem dX7_hear_253 : decode cX7_hear 253 = .ok (.iload_n 2, 1) := dAX7_hear_17.2.2.2.1
theorem dX7_hear_254 : decode cX7_hear 254 = .ok (.iload 8, 2) := dAX7_hear_17.2.2.2.2.1
theorem dX7_hear_256 : decode cX7_hear 256 = .ok (.iconst 1, 1) := dAX7_hear_17.2.2.2.2.2.1
theorem dX7_hear_257 : decode cX7_hear 257 = .ok (.iadd, 1) := dAX7_hear_17.2.2.2.2.2.2.1
theorem dX7_hear_258 : decode cX7_hear 258 = .ok (.iload 6, 2) := dAX7_hear_17.2.2.2.2.2.2.2
set_option maxRecDepth 100000 in
theorem dAX7_hear_18 : decode cX7_hear 260 = .ok (.invokevirtual 265, 3) ∧ decode cX7_hear 263 = .ok (.ireturn, 1) ∧ decode cX7_hear 264 = .ok (.iinc 8 1, 3) ∧ decode cX7_hear 267 = .ok (.goto (-180), 3) ∧ decode cX7_hear 270 = .ok (.iload 5, 2) ∧ decode cX7_hear 272 = .ok (.iconst 3, 1) ∧ decode cX7_hear 273 = .ok (.if_icmp .ne 14, 3) ∧ decode cX7_hear 276 = .ok (.iload 6, 2) := by decide +kernel
theorem dX7_hear_260 : decode cX7_hear 260 = .ok (.invokevirtual 265, 3) := dAX7_hear_18.1
theorem dX7_hear_263 : decode cX7_hear 263 = .ok (.ireturn, 1) := dAX7_hear_18.2.1
theorem dX7_hear_264 : decode cX7_hear 264 = .ok (.iinc 8 1, 3) := dAX7_hear_18.2.2.1
theorem dX7_hear_267 : decode cX7_hear 267 = .ok (.goto (-180), 3) := dAX7_hear_18.2.2.2.1
theorem dX7_hear_270 : decode cX7_hear 270 = .ok (.iload 5, 2) := dAX7_hear_18.2.2.2.2.1
theorem dX7_hear_272 : decode cX7_hear 272 = .ok (.iconst 3, 1) := dAX7_hear_18.2.2.2.2.2.1
theorem dX7_hear_273 : decode cX7_hear 273 = .ok (.if_icmp .ne 14, 3) := dAX7_hear_18.2.2.2.2.2.2.1
theorem dX7_hear_276 : decode cX7_hear 276 = .ok (.iload 6, 2) := dAX7_hear_18.2.2.2.2.2.2.2
set_option maxRecDepth 100000 in
theorem dAX7_hear_19 : decode cX7_hear 278 = .ok (.aload_n 0, 1) ∧ decode cX7_hear 279 = .ok (.iload_n 2, 1) ∧ decode cX7_hear 280 = .ok (.invokevirtual 239, 3) ∧ decode cX7_hear 283 = .ok (.idiv, 1) ∧ decode cX7_hear 284 = .ok (.goto 5, 3) ∧ decode cX7_hear 287 = .ok (.iload 6, 2) ∧ decode cX7_hear 289 = .ok (.ireturn, 1) := by decide +kernel
theorem dX7_hear_278 : decode cX7_hear 278 = .ok (.aload_n 0, 1) := dAX7_hear_19.1
theorem dX7_hear_279 : decode cX7_hear 279 = .ok (.iload_n 2, 1) := dAX7_hear_19.2.1
theorem dX7_hear_280 : decode cX7_hear 280 = .ok (.invokevirtual 239, 3) := dAX7_hear_19.2.2.1
theorem dX7_hear_283 : decode cX7_hear 283 = .ok (.idiv, 1) := dAX7_hear_19.2.2.2.1
theorem dX7_hear_284 : decode cX7_hear 284 = .ok (.goto 5, 3) := dAX7_hear_19.2.2.2.2.1
theorem dX7_hear_287 : decode cX7_hear 287 = .ok (.iload 6, 2) := dAX7_hear_19.2.2.2.2.2.1
theorem dX7_hear_289 : decode cX7_hear 289 = .ok (.ireturn, 1) := dAX7_hear_19.2.2.2.2.2.2
set_option maxRecDepth 100000 in
theorem dAX7_hearBy_0 : decode cX7_hearBy 0 = .ok (.aload_n 0, 1) ∧ decode cX7_hearBy 1 = .ok (.iconst 0, 1) ∧ decode cX7_hearBy 2 = .ok (.putfield 258, 3) ∧ decode cX7_hearBy 5 = .ok (.aload_n 0, 1) ∧ decode cX7_hearBy 6 = .ok (.iconst 0, 1) ∧ decode cX7_hearBy 7 = .ok (.putfield 268, 3) ∧ decode cX7_hearBy 10 = .ok (.aload_n 0, 1) ∧ decode cX7_hearBy 11 = .ok (.aload_n 1, 1) := by decide +kernel
theorem dX7_hearBy_0 : decode cX7_hearBy 0 = .ok (.aload_n 0, 1) := dAX7_hearBy_0.1
theorem dX7_hearBy_1 : decode cX7_hearBy 1 = .ok (.iconst 0, 1) := dAX7_hearBy_0.2.1
theorem dX7_hearBy_2 : decode cX7_hearBy 2 = .ok (.putfield 258, 3) := dAX7_hearBy_0.2.2.1
theorem dX7_hearBy_5 : decode cX7_hearBy 5 = .ok (.aload_n 0, 1) := dAX7_hearBy_0.2.2.2.1
theorem dX7_hearBy_6 : decode cX7_hearBy 6 = .ok (.iconst 0, 1) := dAX7_hearBy_0.2.2.2.2.1
theorem dX7_hearBy_7 : decode cX7_hearBy 7 = .ok (.putfield 268, 3) := dAX7_hearBy_0.2.2.2.2.2.1
theorem dX7_hearBy_10 : decode cX7_hearBy 10 = .ok (.aload_n 0, 1) := dAX7_hearBy_0.2.2.2.2.2.2.1
theorem dX7_hearBy_11 : decode cX7_hearBy 11 = .ok (.aload_n 1, 1) := dAX7_hearBy_0.2.2.2.2.2.2.2
set_option maxRecDepth 100000 in
theorem dAX7_hearBy_1 : decode cX7_hearBy 12 = .ok (.aload_n 0, 1) ∧ decode cX7_hearBy 13 = .ok (.getfield 20, 3) ∧ decode cX7_hearBy 16 = .ok (.bipush 6, 2) ∧ decode cX7_hearBy 18 = .ok (.iaload, 1) ∧ decode cX7_hearBy 19 = .ok (.iload_n 2, 1) ∧ decode cX7_hearBy 20 = .ok (.iload_n 3, 1) ∧ decode cX7_hearBy 21 = .ok (.invokevirtual 261, 3) ∧ decode cX7_hearBy 24 = .ok (.ireturn, 1) := by decide +kernel
theorem dX7_hearBy_12 : decode cX7_hearBy 12 = .ok (.aload_n 0, 1) := dAX7_hearBy_1.1
theorem dX7_hearBy_13 : decode cX7_hearBy 13 = .ok (.getfield 20, 3) := dAX7_hearBy_1.2.1
theorem dX7_hearBy_16 : decode cX7_hearBy 16 = .ok (.bipush 6, 2) := dAX7_hearBy_1.2.2.1
theorem dX7_hearBy_18 : decode cX7_hearBy 18 = .ok (.iaload, 1) := dAX7_hearBy_1.2.2.2.1
theorem dX7_hearBy_19 : decode cX7_hearBy 19 = .ok (.iload_n 2, 1) := dAX7_hearBy_1.2.2.2.2.1
theorem dX7_hearBy_20 : decode cX7_hearBy 20 = .ok (.iload_n 3, 1) := dAX7_hearBy_1.2.2.2.2.2.1
theorem dX7_hearBy_21 : decode cX7_hearBy 21 = .ok (.invokevirtual 261, 3) := dAX7_hearBy_1.2.2.2.2.2.2.1
theorem dX7_hearBy_24 : decode cX7_hearBy 24 = .ok (.ireturn, 1) := dAX7_hearBy_1.2.2.2.2.2.2.2
set_option maxRecDepth 100000 in
theorem dAX7_heard_0 : decode cX7_heard 0 = .ok (.aload_n 0, 1) ∧ decode cX7_heard 1 = .ok (.invokevirtual 175, 3) ∧ decode cX7_heard 4 = .ok (.aload_n 0, 1) ∧ decode cX7_heard 5 = .ok (.getfield 187, 3) ∧ decode cX7_heard 8 = .ok (.ifCond .eq 10, 3) ∧ decode cX7_heard 11 = .ok (.aload_n 0, 1) ∧ decode cX7_heard 12 = .ok (.invokevirtual 297, 3) ∧ decode cX7_heard 15 = .ok (.goto 8, 3) := by decide +kernel
theorem dX7_heard_0 : decode cX7_heard 0 = .ok (.aload_n 0, 1) := dAX7_heard_0.1
theorem dX7_heard_1 : decode cX7_heard 1 = .ok (.invokevirtual 175, 3) := dAX7_heard_0.2.1
theorem dX7_heard_4 : decode cX7_heard 4 = .ok (.aload_n 0, 1) := dAX7_heard_0.2.2.1
theorem dX7_heard_5 : decode cX7_heard 5 = .ok (.getfield 187, 3) := dAX7_heard_0.2.2.2.1
theorem dX7_heard_8 : decode cX7_heard 8 = .ok (.ifCond .eq 10, 3) := dAX7_heard_0.2.2.2.2.1
theorem dX7_heard_11 : decode cX7_heard 11 = .ok (.aload_n 0, 1) := dAX7_heard_0.2.2.2.2.2.1
theorem dX7_heard_12 : decode cX7_heard 12 = .ok (.invokevirtual 297, 3) := dAX7_heard_0.2.2.2.2.2.2.1
theorem dX7_heard_15 : decode cX7_heard 15 = .ok (.goto 8, 3) := dAX7_heard_0.2.2.2.2.2.2.2
set_option maxRecDepth 100000 in
theorem dAX7_heard_1 : decode cX7_heard 18 = .ok (.aload_n 0, 1) ∧ decode cX7_heard 19 = .ok (.iconst 1, 1) ∧ decode cX7_heard 20 = .ok (.invokevirtual 178, 3) ∧ decode cX7_heard 23 = .ok (.ireturn, 1) := by decide +kernel
theorem dX7_heard_18 : decode cX7_heard 18 = .ok (.aload_n 0, 1) := dAX7_heard_1.1
theorem dX7_heard_19 : decode cX7_heard 19 = .ok (.iconst 1, 1) := dAX7_heard_1.2.1
theorem dX7_heard_20 : decode cX7_heard 20 = .ok (.invokevirtual 178, 3) := dAX7_heard_1.2.2.1
theorem dX7_heard_23 : decode cX7_heard 23 = .ok (.ireturn, 1) := dAX7_heard_1.2.2.2
set_option maxRecDepth 100000 in
theorem dAX7_heardAt_0 : decode cX7_heardAt 0 = .ok (.aload_n 0, 1) ∧ decode cX7_heardAt 1 = .ok (.invokevirtual 175, 3) ∧ decode cX7_heardAt 4 = .ok (.aload_n 0, 1) ∧ decode cX7_heardAt 5 = .ok (.getfield 187, 3) ∧ decode cX7_heardAt 8 = .ok (.ifCond .eq 30, 3) ∧ decode cX7_heardAt 11 = .ok (.iload_n 1, 1) ∧ decode cX7_heardAt 12 = .ok (.iconst 0, 1) ∧ decode cX7_heardAt 13 = .ok (.aload_n 0, 1) := by decide +kernel
theorem dX7_heardAt_0 : decode cX7_heardAt 0 = .ok (.aload_n 0, 1) := dAX7_heardAt_0.1
theorem dX7_heardAt_1 : decode cX7_heardAt 1 = .ok (.invokevirtual 175, 3) := dAX7_heardAt_0.2.1
theorem dX7_heardAt_4 : decode cX7_heardAt 4 = .ok (.aload_n 0, 1) := dAX7_heardAt_0.2.2.1
theorem dX7_heardAt_5 : decode cX7_heardAt 5 = .ok (.getfield 187, 3) := dAX7_heardAt_0.2.2.2.1
theorem dX7_heardAt_8 : decode cX7_heardAt 8 = .ok (.ifCond .eq 30, 3) := dAX7_heardAt_0.2.2.2.2.1
theorem dX7_heardAt_11 : decode cX7_heardAt 11 = .ok (.iload_n 1, 1) := dAX7_heardAt_0.2.2.2.2.2.1
theorem dX7_heardAt_12 : decode cX7_heardAt 12 = .ok (.iconst 0, 1) := dAX7_heardAt_0.2.2.2.2.2.2.1
theorem dX7_heardAt_13 : decode cX7_heardAt 13 = .ok (.aload_n 0, 1) := dAX7_heardAt_0.2.2.2.2.2.2.2
set_option maxRecDepth 100000 in
theorem dAX7_heardAt_1 : decode cX7_heardAt 14 = .ok (.aload_n 0, 1) ∧ decode cX7_heardAt 15 = .ok (.getfield 32, 3) ∧ decode cX7_heardAt 18 = .ok (.invokevirtual 293, 3) ∧ decode cX7_heardAt 21 = .ok (.iconst 1, 1) ∧ decode cX7_heardAt 22 = .ok (.isub, 1) ∧ decode cX7_heardAt 23 = .ok (.invokestatic 163, 3) ∧ decode cX7_heardAt 26 = .ok (.ifCond .eq 12, 3) ∧ decode cX7_heardAt 29 = .ok (.aload_n 0, 1) := by decide +kernel
theorem dX7_heardAt_14 : decode cX7_heardAt 14 = .ok (.aload_n 0, 1) := dAX7_heardAt_1.1
theorem dX7_heardAt_15 : decode cX7_heardAt 15 = .ok (.getfield 32, 3) := dAX7_heardAt_1.2.1
theorem dX7_heardAt_18 : decode cX7_heardAt 18 = .ok (.invokevirtual 293, 3) := dAX7_heardAt_1.2.2.1
theorem dX7_heardAt_21 : decode cX7_heardAt 21 = .ok (.iconst 1, 1) := dAX7_heardAt_1.2.2.2.1
theorem dX7_heardAt_22 : decode cX7_heardAt 22 = .ok (.isub, 1) := dAX7_heardAt_1.2.2.2.2.1
theorem dX7_heardAt_23 : decode cX7_heardAt 23 = .ok (.invokestatic 163, 3) := dAX7_heardAt_1.2.2.2.2.2.1
theorem dX7_heardAt_26 : decode cX7_heardAt 26 = .ok (.ifCond .eq 12, 3) := dAX7_heardAt_1.2.2.2.2.2.2.1
theorem dX7_heardAt_29 : decode cX7_heardAt 29 = .ok (.aload_n 0, 1) := dAX7_heardAt_1.2.2.2.2.2.2.2
set_option maxRecDepth 100000 in
theorem dAX7_heardAt_2 : decode cX7_heardAt 30 = .ok (.getfield 50, 3) ∧ decode cX7_heardAt 33 = .ok (.iload_n 1, 1) ∧ decode cX7_heardAt 34 = .ok (.iaload, 1) ∧ decode cX7_heardAt 35 = .ok (.goto 8, 3) ∧ decode cX7_heardAt 38 = .ok (.aload_n 0, 1) ∧ decode cX7_heardAt 39 = .ok (.iconst 1, 1) ∧ decode cX7_heardAt 40 = .ok (.invokevirtual 178, 3) ∧ decode cX7_heardAt 43 = .ok (.ireturn, 1) := by decide +kernel
theorem dX7_heardAt_30 : decode cX7_heardAt 30 = .ok (.getfield 50, 3) := dAX7_heardAt_2.1
theorem dX7_heardAt_33 : decode cX7_heardAt 33 = .ok (.iload_n 1, 1) := dAX7_heardAt_2.2.1
theorem dX7_heardAt_34 : decode cX7_heardAt 34 = .ok (.iaload, 1) := dAX7_heardAt_2.2.2.1
theorem dX7_heardAt_35 : decode cX7_heardAt 35 = .ok (.goto 8, 3) := dAX7_heardAt_2.2.2.2.1
theorem dX7_heardAt_38 : decode cX7_heardAt 38 = .ok (.aload_n 0, 1) := dAX7_heardAt_2.2.2.2.2.1
theorem dX7_heardAt_39 : decode cX7_heardAt 39 = .ok (.iconst 1, 1) := dAX7_heardAt_2.2.2.2.2.2.1
theorem dX7_heardAt_40 : decode cX7_heardAt 40 = .ok (.invokevirtual 178, 3) := dAX7_heardAt_2.2.2.2.2.2.2.1
theorem dX7_heardAt_43 : decode cX7_heardAt 43 = .ok (.ireturn, 1) := dAX7_heardAt_2.2.2.2.2.2.2.2
set_option maxRecDepth 100000 in
theorem dAX7_heardSet_0 : decode cX7_heardSet 0 = .ok (.iconst 0, 1) ∧ decode cX7_heardSet 1 = .ok (.istore_n 1, 1) ∧ decode cX7_heardSet 2 = .ok (.aload_n 0, 1) ∧ decode cX7_heardSet 3 = .ok (.aload_n 0, 1) ∧ decode cX7_heardSet 4 = .ok (.getfield 32, 3) ∧ decode cX7_heardSet 7 = .ok (.invokevirtual 293, 3) ∧ decode cX7_heardSet 10 = .ok (.istore_n 2, 1) ∧ decode cX7_heardSet 11 = .ok (.iconst 0, 1) := by decide +kernel
theorem dX7_heardSet_0 : decode cX7_heardSet 0 = .ok (.iconst 0, 1) := dAX7_heardSet_0.1
theorem dX7_heardSet_1 : decode cX7_heardSet 1 = .ok (.istore_n 1, 1) := dAX7_heardSet_0.2.1
theorem dX7_heardSet_2 : decode cX7_heardSet 2 = .ok (.aload_n 0, 1) := dAX7_heardSet_0.2.2.1
theorem dX7_heardSet_3 : decode cX7_heardSet 3 = .ok (.aload_n 0, 1) := dAX7_heardSet_0.2.2.2.1
theorem dX7_heardSet_4 : decode cX7_heardSet 4 = .ok (.getfield 32, 3) := dAX7_heardSet_0.2.2.2.2.1
theorem dX7_heardSet_7 : decode cX7_heardSet 7 = .ok (.invokevirtual 293, 3) := dAX7_heardSet_0.2.2.2.2.2.1
theorem dX7_heardSet_10 : decode cX7_heardSet 10 = .ok (.istore_n 2, 1) := dAX7_heardSet_0.2.2.2.2.2.2.1
theorem dX7_heardSet_11 : decode cX7_heardSet 11 = .ok (.iconst 0, 1) := dAX7_heardSet_0.2.2.2.2.2.2.2
set_option maxRecDepth 100000 in
theorem dAX7_heardSet_1 : decode cX7_heardSet 12 = .ok (.istore_n 3, 1) ∧ decode cX7_heardSet 13 = .ok (.iload_n 3, 1) ∧ decode cX7_heardSet 14 = .ok (.iload_n 2, 1) ∧ decode cX7_heardSet 15 = .ok (.if_icmp .ge 20, 3) ∧ decode cX7_heardSet 18 = .ok (.iload_n 1, 1) ∧ decode cX7_heardSet 19 = .ok (.iconst 1, 1) ∧ decode cX7_heardSet 20 = .ok (.aload_n 0, 1) ∧ decode cX7_heardSet 21 = .ok (.getfield 50, 3) := by decide +kernel
theorem dX7_heardSet_12 : decode cX7_heardSet 12 = .ok (.istore_n 3, 1) := dAX7_heardSet_1.1
theorem dX7_heardSet_13 : decode cX7_heardSet 13 = .ok (.iload_n 3, 1) := dAX7_heardSet_1.2.1
theorem dX7_heardSet_14 : decode cX7_heardSet 14 = .ok (.iload_n 2, 1) := dAX7_heardSet_1.2.2.1
theorem dX7_heardSet_15 : decode cX7_heardSet 15 = .ok (.if_icmp .ge 20, 3) := dAX7_heardSet_1.2.2.2.1
theorem dX7_heardSet_18 : decode cX7_heardSet 18 = .ok (.iload_n 1, 1) := dAX7_heardSet_1.2.2.2.2.1
theorem dX7_heardSet_19 : decode cX7_heardSet 19 = .ok (.iconst 1, 1) := dAX7_heardSet_1.2.2.2.2.2.1
theorem dX7_heardSet_20 : decode cX7_heardSet 20 = .ok (.aload_n 0, 1) := dAX7_heardSet_1.2.2.2.2.2.2.1
theorem dX7_heardSet_21 : decode cX7_heardSet 21 = .ok (.getfield 50, 3) := dAX7_heardSet_1.2.2.2.2.2.2.2
set_option maxRecDepth 100000 in
theorem dAX7_heardSet_2 : decode cX7_heardSet 24 = .ok (.iload_n 3, 1) ∧ decode cX7_heardSet 25 = .ok (.iaload, 1) ∧ decode cX7_heardSet 26 = .ok (.ishl, 1) ∧ decode cX7_heardSet 27 = .ok (.ior, 1) ∧ decode cX7_heardSet 28 = .ok (.istore_n 1, 1) ∧ decode cX7_heardSet 29 = .ok (.iinc 3 1, 3) ∧ decode cX7_heardSet 32 = .ok (.goto (-19), 3) ∧ decode cX7_heardSet 35 = .ok (.iload_n 1, 1) := by decide +kernel
theorem dX7_heardSet_24 : decode cX7_heardSet 24 = .ok (.iload_n 3, 1) := dAX7_heardSet_2.1
theorem dX7_heardSet_25 : decode cX7_heardSet 25 = .ok (.iaload, 1) := dAX7_heardSet_2.2.1
theorem dX7_heardSet_26 : decode cX7_heardSet 26 = .ok (.ishl, 1) := dAX7_heardSet_2.2.2.1
theorem dX7_heardSet_27 : decode cX7_heardSet 27 = .ok (.ior, 1) := dAX7_heardSet_2.2.2.2.1
theorem dX7_heardSet_28 : decode cX7_heardSet 28 = .ok (.istore_n 1, 1) := dAX7_heardSet_2.2.2.2.2.1
theorem dX7_heardSet_29 : decode cX7_heardSet 29 = .ok (.iinc 3 1, 3) := dAX7_heardSet_2.2.2.2.2.2.1
theorem dX7_heardSet_32 : decode cX7_heardSet 32 = .ok (.goto (-19), 3) := dAX7_heardSet_2.2.2.2.2.2.2.1
theorem dX7_heardSet_35 : decode cX7_heardSet 35 = .ok (.iload_n 1, 1) := dAX7_heardSet_2.2.2.2.2.2.2.2
theorem dX7_heardSet_36 : decode cX7_heardSet 36 = .ok (.ireturn, 1) := by decide +kernel
set_option maxRecDepth 100000 in
theorem dAX7_hears_0 : decode cX7_hears 0 = .ok (.aload_n 0, 1) ∧ decode cX7_hears 1 = .ok (.invokevirtual 175, 3) ∧ decode cX7_hears 4 = .ok (.aload_n 0, 1) ∧ decode cX7_hears 5 = .ok (.getfield 187, 3) ∧ decode cX7_hears 8 = .ok (.ifCond .eq 14, 3) ∧ decode cX7_hears 11 = .ok (.aload_n 0, 1) ∧ decode cX7_hears 12 = .ok (.aload_n 0, 1) ∧ decode cX7_hears 13 = .ok (.getfield 32, 3) := by decide +kernel
theorem dX7_hears_0 : decode cX7_hears 0 = .ok (.aload_n 0, 1) := dAX7_hears_0.1
theorem dX7_hears_1 : decode cX7_hears 1 = .ok (.invokevirtual 175, 3) := dAX7_hears_0.2.1
theorem dX7_hears_4 : decode cX7_hears 4 = .ok (.aload_n 0, 1) := dAX7_hears_0.2.2.1
theorem dX7_hears_5 : decode cX7_hears 5 = .ok (.getfield 187, 3) := dAX7_hears_0.2.2.2.1
theorem dX7_hears_8 : decode cX7_hears 8 = .ok (.ifCond .eq 14, 3) := dAX7_hears_0.2.2.2.2.1
theorem dX7_hears_11 : decode cX7_hears 11 = .ok (.aload_n 0, 1) := dAX7_hears_0.2.2.2.2.2.1
theorem dX7_hears_12 : decode cX7_hears 12 = .ok (.aload_n 0, 1) := dAX7_hears_0.2.2.2.2.2.2.1
theorem dX7_hears_13 : decode cX7_hears 13 = .ok (.getfield 32, 3) := dAX7_hears_0.2.2.2.2.2.2.2
set_option maxRecDepth 100000 in
theorem dAX7_hears_1 : decode cX7_hears 16 = .ok (.invokevirtual 293, 3) ∧ decode cX7_hears 19 = .ok (.goto 8, 3) ∧ decode cX7_hears 22 = .ok (.aload_n 0, 1) ∧ decode cX7_hears 23 = .ok (.iconst 1, 1) ∧ decode cX7_hears 24 = .ok (.invokevirtual 178, 3) ∧ decode cX7_hears 27 = .ok (.ireturn, 1) := by decide +kernel
theorem dX7_hears_16 : decode cX7_hears 16 = .ok (.invokevirtual 293, 3) := dAX7_hears_1.1
theorem dX7_hears_19 : decode cX7_hears 19 = .ok (.goto 8, 3) := dAX7_hears_1.2.1
theorem dX7_hears_22 : decode cX7_hears 22 = .ok (.aload_n 0, 1) := dAX7_hears_1.2.2.1
theorem dX7_hears_23 : decode cX7_hears 23 = .ok (.iconst 1, 1) := dAX7_hears_1.2.2.2.1
theorem dX7_hears_24 : decode cX7_hears 24 = .ok (.invokevirtual 178, 3) := dAX7_hears_1.2.2.2.2.1
theorem dX7_hears_27 : decode cX7_hears 27 = .ok (.ireturn, 1) := dAX7_hears_1.2.2.2.2.2
set_option maxRecDepth 100000 in
theorem dAX7_hearsIn_0 : decode cX7_hearsIn 0 = .ok (.aload_n 0, 1) ∧ decode cX7_hearsIn 1 = .ok (.invokevirtual 175, 3) ∧ decode cX7_hearsIn 4 = .ok (.aload_n 0, 1) ∧ decode cX7_hearsIn 5 = .ok (.iload_n 1, 1) ∧ decode cX7_hearsIn 6 = .ok (.iload_n 2, 1) ∧ decode cX7_hearsIn 7 = .ok (.invokevirtual 300, 3) ∧ decode cX7_hearsIn 10 = .ok (.istore_n 3, 1) ∧ decode cX7_hearsIn 11 = .ok (.iload_n 3, 1) := by decide +kernel
theorem dX7_hearsIn_0 : decode cX7_hearsIn 0 = .ok (.aload_n 0, 1) := dAX7_hearsIn_0.1
theorem dX7_hearsIn_1 : decode cX7_hearsIn 1 = .ok (.invokevirtual 175, 3) := dAX7_hearsIn_0.2.1
theorem dX7_hearsIn_4 : decode cX7_hearsIn 4 = .ok (.aload_n 0, 1) := dAX7_hearsIn_0.2.2.1
theorem dX7_hearsIn_5 : decode cX7_hearsIn 5 = .ok (.iload_n 1, 1) := dAX7_hearsIn_0.2.2.2.1
theorem dX7_hearsIn_6 : decode cX7_hearsIn 6 = .ok (.iload_n 2, 1) := dAX7_hearsIn_0.2.2.2.2.1
theorem dX7_hearsIn_7 : decode cX7_hearsIn 7 = .ok (.invokevirtual 300, 3) := dAX7_hearsIn_0.2.2.2.2.2.1
theorem dX7_hearsIn_10 : decode cX7_hearsIn 10 = .ok (.istore_n 3, 1) := dAX7_hearsIn_0.2.2.2.2.2.2.1
theorem dX7_hearsIn_11 : decode cX7_hearsIn 11 = .ok (.iload_n 3, 1) := dAX7_hearsIn_0.2.2.2.2.2.2.2
set_option maxRecDepth 100000 in
theorem dAX7_hearsIn_1 : decode cX7_hearsIn 12 = .ok (.ifCond .eq 9, 3) ∧ decode cX7_hearsIn 15 = .ok (.aload_n 0, 1) ∧ decode cX7_hearsIn 16 = .ok (.iload_n 3, 1) ∧ decode cX7_hearsIn 17 = .ok (.invokevirtual 178, 3) ∧ decode cX7_hearsIn 20 = .ok (.ireturn, 1) ∧ decode cX7_hearsIn 21 = .ok (.aload_n 0, 1) ∧ decode cX7_hearsIn 22 = .ok (.aload_n 0, 1) ∧ decode cX7_hearsIn 23 = .ok (.getfield 32, 3) := by decide +kernel
theorem dX7_hearsIn_12 : decode cX7_hearsIn 12 = .ok (.ifCond .eq 9, 3) := dAX7_hearsIn_1.1
theorem dX7_hearsIn_15 : decode cX7_hearsIn 15 = .ok (.aload_n 0, 1) := dAX7_hearsIn_1.2.1
theorem dX7_hearsIn_16 : decode cX7_hearsIn 16 = .ok (.iload_n 3, 1) := dAX7_hearsIn_1.2.2.1
theorem dX7_hearsIn_17 : decode cX7_hearsIn 17 = .ok (.invokevirtual 178, 3) := dAX7_hearsIn_1.2.2.2.1
theorem dX7_hearsIn_20 : decode cX7_hearsIn 20 = .ok (.ireturn, 1) := dAX7_hearsIn_1.2.2.2.2.1
theorem dX7_hearsIn_21 : decode cX7_hearsIn 21 = .ok (.aload_n 0, 1) := dAX7_hearsIn_1.2.2.2.2.2.1
theorem dX7_hearsIn_22 : decode cX7_hearsIn 22 = .ok (.aload_n 0, 1) := dAX7_hearsIn_1.2.2.2.2.2.2.1
theorem dX7_hearsIn_23 : decode cX7_hearsIn 23 = .ok (.getfield 32, 3) := dAX7_hearsIn_1.2.2.2.2.2.2.2
set_option maxRecDepth 100000 in
theorem dAX7_hearsIn_2 : decode cX7_hearsIn 26 = .ok (.iload_n 1, 1) ∧ decode cX7_hearsIn 27 = .ok (.aload_n 0, 1) ∧ decode cX7_hearsIn 28 = .ok (.getfield 44, 3) ∧ decode cX7_hearsIn 31 = .ok (.imul, 1) ∧ decode cX7_hearsIn 32 = .ok (.iload_n 2, 1) ∧ decode cX7_hearsIn 33 = .ok (.aload_n 0, 1) ∧ decode cX7_hearsIn 34 = .ok (.getfield 44, 3) ∧ decode cX7_hearsIn 37 = .ok (.imul, 1) := by decide +kernel
theorem dX7_hearsIn_26 : decode cX7_hearsIn 26 = .ok (.iload_n 1, 1) := dAX7_hearsIn_2.1
theorem dX7_hearsIn_27 : decode cX7_hearsIn 27 = .ok (.aload_n 0, 1) := dAX7_hearsIn_2.2.1
theorem dX7_hearsIn_28 : decode cX7_hearsIn 28 = .ok (.getfield 44, 3) := dAX7_hearsIn_2.2.2.1
theorem dX7_hearsIn_31 : decode cX7_hearsIn 31 = .ok (.imul, 1) := dAX7_hearsIn_2.2.2.2.1
theorem dX7_hearsIn_32 : decode cX7_hearsIn 32 = .ok (.iload_n 2, 1) := dAX7_hearsIn_2.2.2.2.2.1
theorem dX7_hearsIn_33 : decode cX7_hearsIn 33 = .ok (.aload_n 0, 1) := dAX7_hearsIn_2.2.2.2.2.2.1
theorem dX7_hearsIn_34 : decode cX7_hearsIn 34 = .ok (.getfield 44, 3) := dAX7_hearsIn_2.2.2.2.2.2.2.1
theorem dX7_hearsIn_37 : decode cX7_hearsIn 37 = .ok (.imul, 1) := dAX7_hearsIn_2.2.2.2.2.2.2.2
set_option maxRecDepth 100000 in
theorem dAX7_hearsIn_3 : decode cX7_hearsIn 38 = .ok (.invokevirtual 271, 3) ∧ decode cX7_hearsIn 41 = .ok (.pop, 1) ∧ decode cX7_hearsIn 42 = .ok (.aload_n 0, 1) ∧ decode cX7_hearsIn 43 = .ok (.getfield 258, 3) ∧ decode cX7_hearsIn 46 = .ok (.ireturn, 1) := by decide +kernel
theorem dX7_hearsIn_38 : decode cX7_hearsIn 38 = .ok (.invokevirtual 271, 3) := dAX7_hearsIn_3.1
theorem dX7_hearsIn_41 : decode cX7_hearsIn 41 = .ok (.pop, 1) := dAX7_hearsIn_3.2.1
theorem dX7_hearsIn_42 : decode cX7_hearsIn 42 = .ok (.aload_n 0, 1) := dAX7_hearsIn_3.2.2.1
theorem dX7_hearsIn_43 : decode cX7_hearsIn 43 = .ok (.getfield 258, 3) := dAX7_hearsIn_3.2.2.2.1
theorem dX7_hearsIn_46 : decode cX7_hearsIn 46 = .ok (.ireturn, 1) := dAX7_hearsIn_3.2.2.2.2
set_option maxRecDepth 100000 in
theorem dAX7_image_0 : decode cX7_image 0 = .ok (.aload_n 0, 1) ∧ decode cX7_image 1 = .ok (.invokevirtual 175, 3) ∧ decode cX7_image 4 = .ok (.aload_n 0, 1) ∧ decode cX7_image 5 = .ok (.getfield 187, 3) ∧ decode cX7_image 8 = .ok (.ifCond .ne 9, 3) ∧ decode cX7_image 11 = .ok (.aload_n 0, 1) ∧ decode cX7_image 12 = .ok (.iconst 1, 1) ∧ decode cX7_image 13 = .ok (.invokevirtual 178, 3) := by decide +kernel
theorem dX7_image_0 : decode cX7_image 0 = .ok (.aload_n 0, 1) := dAX7_image_0.1
theorem dX7_image_1 : decode cX7_image 1 = .ok (.invokevirtual 175, 3) := dAX7_image_0.2.1
theorem dX7_image_4 : decode cX7_image 4 = .ok (.aload_n 0, 1) := dAX7_image_0.2.2.1
theorem dX7_image_5 : decode cX7_image 5 = .ok (.getfield 187, 3) := dAX7_image_0.2.2.2.1
theorem dX7_image_8 : decode cX7_image 8 = .ok (.ifCond .ne 9, 3) := dAX7_image_0.2.2.2.2.1
theorem dX7_image_11 : decode cX7_image 11 = .ok (.aload_n 0, 1) := dAX7_image_0.2.2.2.2.2.1
theorem dX7_image_12 : decode cX7_image 12 = .ok (.iconst 1, 1) := dAX7_image_0.2.2.2.2.2.2.1
theorem dX7_image_13 : decode cX7_image 13 = .ok (.invokevirtual 178, 3) := dAX7_image_0.2.2.2.2.2.2.2
set_option maxRecDepth 100000 in
theorem dAX7_image_1 : decode cX7_image 16 = .ok (.ireturn, 1) ∧ decode cX7_image 17 = .ok (.aload_n 0, 1) ∧ decode cX7_image 18 = .ok (.getfield 193, 3) ∧ decode cX7_image 21 = .ok (.iconst 3, 1) ∧ decode cX7_image 22 = .ok (.if_icmp .ne 9, 3) ∧ decode cX7_image 25 = .ok (.aload_n 0, 1) ∧ decode cX7_image 26 = .ok (.iconst 3, 1) ∧ decode cX7_image 27 = .ok (.invokevirtual 178, 3) := by decide +kernel
theorem dX7_image_16 : decode cX7_image 16 = .ok (.ireturn, 1) := dAX7_image_1.1
theorem dX7_image_17 : decode cX7_image 17 = .ok (.aload_n 0, 1) := dAX7_image_1.2.1
theorem dX7_image_18 : decode cX7_image 18 = .ok (.getfield 193, 3) := dAX7_image_1.2.2.1
theorem dX7_image_21 : decode cX7_image 21 = .ok (.iconst 3, 1) := dAX7_image_1.2.2.2.1
theorem dX7_image_22 : decode cX7_image 22 = .ok (.if_icmp .ne 9, 3) := dAX7_image_1.2.2.2.2.1
theorem dX7_image_25 : decode cX7_image 25 = .ok (.aload_n 0, 1) := dAX7_image_1.2.2.2.2.2.1
theorem dX7_image_26 : decode cX7_image 26 = .ok (.iconst 3, 1) := dAX7_image_1.2.2.2.2.2.2.1
theorem dX7_image_27 : decode cX7_image 27 = .ok (.invokevirtual 178, 3) := dAX7_image_1.2.2.2.2.2.2.2
set_option maxRecDepth 100000 in
theorem dAX7_image_2 : decode cX7_image 30 = .ok (.ireturn, 1) ∧ decode cX7_image 31 = .ok (.aload_n 0, 1) ∧ decode cX7_image 32 = .ok (.getfield 32, 3) ∧ decode cX7_image 35 = .ok (.iconst 0, 1) ∧ decode cX7_image 36 = .ok (.aload_n 0, 1) ∧ decode cX7_image 37 = .ok (.getfield 38, 3) ∧ decode cX7_image 40 = .ok (.bipush 90, 2) ∧ decode cX7_image 42 = .ok (.aload_n 0, 1) := by decide +kernel
theorem dX7_image_30 : decode cX7_image 30 = .ok (.ireturn, 1) := dAX7_image_2.1
theorem dX7_image_31 : decode cX7_image 31 = .ok (.aload_n 0, 1) := dAX7_image_2.2.1
theorem dX7_image_32 : decode cX7_image 32 = .ok (.getfield 32, 3) := dAX7_image_2.2.2.1
theorem dX7_image_35 : decode cX7_image 35 = .ok (.iconst 0, 1) := dAX7_image_2.2.2.2.1
theorem dX7_image_36 : decode cX7_image 36 = .ok (.aload_n 0, 1) := dAX7_image_2.2.2.2.2.1
theorem dX7_image_37 : decode cX7_image 37 = .ok (.getfield 38, 3) := dAX7_image_2.2.2.2.2.2.1
theorem dX7_image_40 : decode cX7_image 40 = .ok (.bipush 90, 2) := dAX7_image_2.2.2.2.2.2.2.1
theorem dX7_image_42 : decode cX7_image 42 = .ok (.aload_n 0, 1) := dAX7_image_2.2.2.2.2.2.2.2
set_option maxRecDepth 100000 in
theorem dAX7_image_3 : decode cX7_image 43 = .ok (.getfield 193, 3) ∧ decode cX7_image 46 = .ok (.imul, 1) ∧ decode cX7_image 47 = .ok (.bipush 90, 2) ∧ decode cX7_image 49 = .ok (.invokestatic 156, 3) ∧ decode cX7_image 52 = .ok (.aload_n 0, 1) ∧ decode cX7_image 53 = .ok (.dup, 1) ∧ decode cX7_image 54 = .ok (.getfield 193, 3) ∧ decode cX7_image 57 = .ok (.iconst 1, 1) := by decide +kernel
theorem dX7_image_43 : decode cX7_image 43 = .ok (.getfield 193, 3) := dAX7_image_3.1
theorem dX7_image_46 : decode cX7_image 46 = .ok (.imul, 1) := dAX7_image_3.2.1
theorem dX7_image_47 : decode cX7_image 47 = .ok (.bipush 90, 2) := dAX7_image_3.2.2.1
theorem dX7_image_49 : decode cX7_image 49 = .ok (.invokestatic 156, 3) := dAX7_image_3.2.2.2.1
theorem dX7_image_52 : decode cX7_image 52 = .ok (.aload_n 0, 1) := dAX7_image_3.2.2.2.2.1
theorem dX7_image_53 : decode cX7_image 53 = .ok (.dup, 1) := dAX7_image_3.2.2.2.2.2.1
theorem dX7_image_54 : decode cX7_image 54 = .ok (.getfield 193, 3) := dAX7_image_3.2.2.2.2.2.2.1
theorem dX7_image_57 : decode cX7_image 57 = .ok (.iconst 1, 1) := dAX7_image_3.2.2.2.2.2.2.2
set_option maxRecDepth 100000 in
theorem dAX7_image_4 : decode cX7_image 58 = .ok (.iadd, 1) ∧ decode cX7_image 59 = .ok (.putfield 193, 3) ∧ decode cX7_image 62 = .ok (.aload_n 0, 1) ∧ decode cX7_image 63 = .ok (.getfield 193, 3) ∧ decode cX7_image 66 = .ok (.iconst 1, 1) ∧ decode cX7_image 67 = .ok (.isub, 1) ∧ decode cX7_image 68 = .ok (.ireturn, 1) := by decide +kernel
theorem dX7_image_58 : decode cX7_image 58 = .ok (.iadd, 1) := dAX7_image_4.1
theorem dX7_image_59 : decode cX7_image 59 = .ok (.putfield 193, 3) := dAX7_image_4.2.1
theorem dX7_image_62 : decode cX7_image 62 = .ok (.aload_n 0, 1) := dAX7_image_4.2.2.1
theorem dX7_image_63 : decode cX7_image 63 = .ok (.getfield 193, 3) := dAX7_image_4.2.2.2.1
theorem dX7_image_66 : decode cX7_image 66 = .ok (.iconst 1, 1) := dAX7_image_4.2.2.2.2.1
theorem dX7_image_67 : decode cX7_image 67 = .ok (.isub, 1) := dAX7_image_4.2.2.2.2.2.1
theorem dX7_image_68 : decode cX7_image 68 = .ok (.ireturn, 1) := dAX7_image_4.2.2.2.2.2.2
set_option maxRecDepth 100000 in
theorem dAX7_in_0 : decode cX7_in 0 = .ok (.iload_n 0, 1) ∧ decode cX7_in 1 = .ok (.iload_n 1, 1) ∧ decode cX7_in 2 = .ok (.if_icmp .lt 12, 3) ∧ decode cX7_in 5 = .ok (.iload_n 0, 1) ∧ decode cX7_in 6 = .ok (.iload_n 2, 1) ∧ decode cX7_in 7 = .ok (.if_icmp .gt 7, 3) ∧ decode cX7_in 10 = .ok (.iconst 1, 1) ∧ decode cX7_in 11 = .ok (.goto 4, 3) := by decide +kernel
theorem dX7_in_0 : decode cX7_in 0 = .ok (.iload_n 0, 1) := dAX7_in_0.1
theorem dX7_in_1 : decode cX7_in 1 = .ok (.iload_n 1, 1) := dAX7_in_0.2.1
theorem dX7_in_2 : decode cX7_in 2 = .ok (.if_icmp .lt 12, 3) := dAX7_in_0.2.2.1
theorem dX7_in_5 : decode cX7_in 5 = .ok (.iload_n 0, 1) := dAX7_in_0.2.2.2.1
theorem dX7_in_6 : decode cX7_in 6 = .ok (.iload_n 2, 1) := dAX7_in_0.2.2.2.2.1
theorem dX7_in_7 : decode cX7_in 7 = .ok (.if_icmp .gt 7, 3) := dAX7_in_0.2.2.2.2.2.1
theorem dX7_in_10 : decode cX7_in 10 = .ok (.iconst 1, 1) := dAX7_in_0.2.2.2.2.2.2.1
theorem dX7_in_11 : decode cX7_in 11 = .ok (.goto 4, 3) := dAX7_in_0.2.2.2.2.2.2.2
set_option maxRecDepth 100000 in
theorem dAX7_in_1 : decode cX7_in 14 = .ok (.iconst 0, 1) ∧ decode cX7_in 15 = .ok (.ireturn, 1) := by decide +kernel
theorem dX7_in_14 : decode cX7_in 14 = .ok (.iconst 0, 1) := dAX7_in_1.1
theorem dX7_in_15 : decode cX7_in 15 = .ok (.ireturn, 1) := dAX7_in_1.2
set_option maxRecDepth 100000 in
theorem dAX7_init_0 : decode cX7_init 0 = .ok (.aload_n 0, 1) ∧ decode cX7_init 1 = .ok (.invokespecial 1, 3) ∧ decode cX7_init 4 = .ok (.aload_n 0, 1) ∧ decode cX7_init 5 = .ok (.sipush 900, 3) ∧ decode cX7_init 8 = .ok (.newarray .int, 2) ∧ decode cX7_init 10 = .ok (.putfield 7, 3) ∧ decode cX7_init 13 = .ok (.aload_n 0, 1) ∧ decode cX7_init 14 = .ok (.iconst (-1), 1) := by decide +kernel
theorem dX7_init_0 : decode cX7_init 0 = .ok (.aload_n 0, 1) := dAX7_init_0.1
theorem dX7_init_1 : decode cX7_init 1 = .ok (.invokespecial 1, 3) := dAX7_init_0.2.1
theorem dX7_init_4 : decode cX7_init 4 = .ok (.aload_n 0, 1) := dAX7_init_0.2.2.1
theorem dX7_init_5 : decode cX7_init 5 = .ok (.sipush 900, 3) := dAX7_init_0.2.2.2.1
theorem dX7_init_8 : decode cX7_init 8 = .ok (.newarray .int, 2) := dAX7_init_0.2.2.2.2.1
theorem dX7_init_10 : decode cX7_init 10 = .ok (.putfield 7, 3) := dAX7_init_0.2.2.2.2.2.1
theorem dX7_init_13 : decode cX7_init 13 = .ok (.aload_n 0, 1) := dAX7_init_0.2.2.2.2.2.2.1
theorem dX7_init_14 : decode cX7_init 14 = .ok (.iconst (-1), 1) := dAX7_init_0.2.2.2.2.2.2.2
set_option maxRecDepth 100000 in
theorem dAX7_init_1 : decode cX7_init 15 = .ok (.putfield 13, 3) ∧ decode cX7_init 18 = .ok (.aload_n 0, 1) ∧ decode cX7_init 19 = .ok (.bipush 8, 2) ∧ decode cX7_init 21 = .ok (.newarray .int, 2) ∧ decode cX7_init 23 = .ok (.putfield 17, 3) ∧ decode cX7_init 26 = .ok (.aload_n 0, 1) ∧ decode cX7_init 27 = .ok (.sipush 287, 3) ∧ decode cX7_init 30 = .ok (.newarray .int, 2) := by decide +kernel
theorem dX7_init_15 : decode cX7_init 15 = .ok (.putfield 13, 3) := dAX7_init_1.1
theorem dX7_init_18 : decode cX7_init 18 = .ok (.aload_n 0, 1) := dAX7_init_1.2.1
theorem dX7_init_19 : decode cX7_init 19 = .ok (.bipush 8, 2) := dAX7_init_1.2.2.1
theorem dX7_init_21 : decode cX7_init 21 = .ok (.newarray .int, 2) := dAX7_init_1.2.2.2.1
theorem dX7_init_23 : decode cX7_init 23 = .ok (.putfield 17, 3) := dAX7_init_1.2.2.2.2.1
theorem dX7_init_26 : decode cX7_init 26 = .ok (.aload_n 0, 1) := dAX7_init_1.2.2.2.2.2.1
theorem dX7_init_27 : decode cX7_init 27 = .ok (.sipush 287, 3) := dAX7_init_1.2.2.2.2.2.2.1
theorem dX7_init_30 : decode cX7_init 30 = .ok (.newarray .int, 2) := dAX7_init_1.2.2.2.2.2.2.2
set_option maxRecDepth 100000 in
theorem dAX7_init_2 : decode cX7_init 32 = .ok (.putfield 20, 3) ∧ decode cX7_init 35 = .ok (.aload_n 0, 1) ∧ decode cX7_init 36 = .ok (.sipush 287, 3) ∧ decode cX7_init 39 = .ok (.newarray .int, 2) ∧ decode cX7_init 41 = .ok (.putfield 23, 3) ∧ decode cX7_init 44 = .ok (.aload_n 0, 1) ∧ decode cX7_init 45 = .ok (.bipush 90, 2) ∧ decode cX7_init 47 = .ok (.newarray .int, 2) := by decide +kernel
theorem dX7_init_32 : decode cX7_init 32 = .ok (.putfield 20, 3) := dAX7_init_2.1
theorem dX7_init_35 : decode cX7_init 35 = .ok (.aload_n 0, 1) := dAX7_init_2.2.1
theorem dX7_init_36 : decode cX7_init 36 = .ok (.sipush 287, 3) := dAX7_init_2.2.2.1
theorem dX7_init_39 : decode cX7_init 39 = .ok (.newarray .int, 2) := dAX7_init_2.2.2.2.1
theorem dX7_init_41 : decode cX7_init 41 = .ok (.putfield 23, 3) := dAX7_init_2.2.2.2.2.1
theorem dX7_init_44 : decode cX7_init 44 = .ok (.aload_n 0, 1) := dAX7_init_2.2.2.2.2.2.1
theorem dX7_init_45 : decode cX7_init 45 = .ok (.bipush 90, 2) := dAX7_init_2.2.2.2.2.2.2.1
theorem dX7_init_47 : decode cX7_init 47 = .ok (.newarray .int, 2) := dAX7_init_2.2.2.2.2.2.2.2
set_option maxRecDepth 100000 in
theorem dAX7_init_3 : decode cX7_init 49 = .ok (.putfield 26, 3) ∧ decode cX7_init 52 = .ok (.aload_n 0, 1) ∧ decode cX7_init 53 = .ok (.bipush 90, 2) ∧ decode cX7_init 55 = .ok (.newarray .int, 2) ∧ decode cX7_init 57 = .ok (.putfield 29, 3) ∧ decode cX7_init 60 = .ok (.aload_n 0, 1) ∧ decode cX7_init 61 = .ok (.bipush 90, 2) ∧ decode cX7_init 63 = .ok (.newarray .int, 2) := by decide +kernel
theorem dX7_init_49 : decode cX7_init 49 = .ok (.putfield 26, 3) := dAX7_init_3.1
theorem dX7_init_52 : decode cX7_init 52 = .ok (.aload_n 0, 1) := dAX7_init_3.2.1
theorem dX7_init_53 : decode cX7_init 53 = .ok (.bipush 90, 2) := dAX7_init_3.2.2.1
theorem dX7_init_55 : decode cX7_init 55 = .ok (.newarray .int, 2) := dAX7_init_3.2.2.2.1
theorem dX7_init_57 : decode cX7_init 57 = .ok (.putfield 29, 3) := dAX7_init_3.2.2.2.2.1
theorem dX7_init_60 : decode cX7_init 60 = .ok (.aload_n 0, 1) := dAX7_init_3.2.2.2.2.2.1
theorem dX7_init_61 : decode cX7_init 61 = .ok (.bipush 90, 2) := dAX7_init_3.2.2.2.2.2.2.1
theorem dX7_init_63 : decode cX7_init 63 = .ok (.newarray .int, 2) := dAX7_init_3.2.2.2.2.2.2.2
set_option maxRecDepth 100000 in
theorem dAX7_init_4 : decode cX7_init 65 = .ok (.putfield 32, 3) ∧ decode cX7_init 68 = .ok (.aload_n 0, 1) ∧ decode cX7_init 69 = .ok (.sipush 1440, 3) ∧ decode cX7_init 72 = .ok (.newarray .int, 2) ∧ decode cX7_init 74 = .ok (.putfield 35, 3) ∧ decode cX7_init 77 = .ok (.aload_n 0, 1) ∧ decode cX7_init 78 = .ok (.sipush 270, 3) ∧ decode cX7_init 81 = .ok (.newarray .int, 2) := by decide +kernel
theorem dX7_init_65 : decode cX7_init 65 = .ok (.putfield 32, 3) := dAX7_init_4.1
theorem dX7_init_68 : decode cX7_init 68 = .ok (.aload_n 0, 1) := dAX7_init_4.2.1
theorem dX7_init_69 : decode cX7_init 69 = .ok (.sipush 1440, 3) := dAX7_init_4.2.2.1
theorem dX7_init_72 : decode cX7_init 72 = .ok (.newarray .int, 2) := dAX7_init_4.2.2.2.1
theorem dX7_init_74 : decode cX7_init 74 = .ok (.putfield 35, 3) := dAX7_init_4.2.2.2.2.1
theorem dX7_init_77 : decode cX7_init 77 = .ok (.aload_n 0, 1) := dAX7_init_4.2.2.2.2.2.1
theorem dX7_init_78 : decode cX7_init 78 = .ok (.sipush 270, 3) := dAX7_init_4.2.2.2.2.2.2.1
theorem dX7_init_81 : decode cX7_init 81 = .ok (.newarray .int, 2) := dAX7_init_4.2.2.2.2.2.2.2
set_option maxRecDepth 100000 in
theorem dAX7_init_5 : decode cX7_init 83 = .ok (.putfield 38, 3) ∧ decode cX7_init 86 = .ok (.aload_n 0, 1) ∧ decode cX7_init 87 = .ok (.bipush 8, 2) ∧ decode cX7_init 89 = .ok (.newarray .int, 2) ∧ decode cX7_init 91 = .ok (.putfield 41, 3) ∧ decode cX7_init 94 = .ok (.aload_n 0, 1) ∧ decode cX7_init 95 = .ok (.iconst 1, 1) ∧ decode cX7_init 96 = .ok (.putfield 44, 3) := by decide +kernel
theorem dX7_init_83 : decode cX7_init 83 = .ok (.putfield 38, 3) := dAX7_init_5.1
theorem dX7_init_86 : decode cX7_init 86 = .ok (.aload_n 0, 1) := dAX7_init_5.2.1
theorem dX7_init_87 : decode cX7_init 87 = .ok (.bipush 8, 2) := dAX7_init_5.2.2.1
theorem dX7_init_89 : decode cX7_init 89 = .ok (.newarray .int, 2) := dAX7_init_5.2.2.2.1
theorem dX7_init_91 : decode cX7_init 91 = .ok (.putfield 41, 3) := dAX7_init_5.2.2.2.2.1
theorem dX7_init_94 : decode cX7_init 94 = .ok (.aload_n 0, 1) := dAX7_init_5.2.2.2.2.2.1
theorem dX7_init_95 : decode cX7_init 95 = .ok (.iconst 1, 1) := dAX7_init_5.2.2.2.2.2.2.1
theorem dX7_init_96 : decode cX7_init 96 = .ok (.putfield 44, 3) := dAX7_init_5.2.2.2.2.2.2.2
set_option maxRecDepth 100000 in
theorem dAX7_init_6 : decode cX7_init 99 = .ok (.aload_n 0, 1) ∧ decode cX7_init 100 = .ok (.iconst (-1), 1) ∧ decode cX7_init 101 = .ok (.putfield 47, 3) ∧ decode cX7_init 104 = .ok (.aload_n 0, 1) ∧ decode cX7_init 105 = .ok (.sipush 400, 3) ∧ decode cX7_init 108 = .ok (.newarray .int, 2) ∧ decode cX7_init 110 = .ok (.putfield 50, 3) ∧ decode cX7_init 113 = .ok (.aload_n 0, 1) := by decide +kernel
theorem dX7_init_99 : decode cX7_init 99 = .ok (.aload_n 0, 1) := dAX7_init_6.1
theorem dX7_init_100 : decode cX7_init 100 = .ok (.iconst (-1), 1) := dAX7_init_6.2.1
theorem dX7_init_101 : decode cX7_init 101 = .ok (.putfield 47, 3) := dAX7_init_6.2.2.1
theorem dX7_init_104 : decode cX7_init 104 = .ok (.aload_n 0, 1) := dAX7_init_6.2.2.2.1
theorem dX7_init_105 : decode cX7_init 105 = .ok (.sipush 400, 3) := dAX7_init_6.2.2.2.2.1
theorem dX7_init_108 : decode cX7_init 108 = .ok (.newarray .int, 2) := dAX7_init_6.2.2.2.2.2.1
theorem dX7_init_110 : decode cX7_init 110 = .ok (.putfield 50, 3) := dAX7_init_6.2.2.2.2.2.2.1
theorem dX7_init_113 : decode cX7_init 113 = .ok (.aload_n 0, 1) := dAX7_init_6.2.2.2.2.2.2.2
set_option maxRecDepth 100000 in
theorem dAX7_init_7 : decode cX7_init 114 = .ok (.sipush 800, 3) ∧ decode cX7_init 117 = .ok (.newarray .int, 2) ∧ decode cX7_init 119 = .ok (.putfield 53, 3) ∧ decode cX7_init 122 = .ok (.aload_n 0, 1) ∧ decode cX7_init 123 = .ok (.bipush 90, 2) ∧ decode cX7_init 125 = .ok (.newarray .int, 2) ∧ decode cX7_init 127 = .ok (.putfield 56, 3) ∧ decode cX7_init 130 = .ok (.aload_n 0, 1) := by decide +kernel
theorem dX7_init_114 : decode cX7_init 114 = .ok (.sipush 800, 3) := dAX7_init_7.1
theorem dX7_init_117 : decode cX7_init 117 = .ok (.newarray .int, 2) := dAX7_init_7.2.1
theorem dX7_init_119 : decode cX7_init 119 = .ok (.putfield 53, 3) := dAX7_init_7.2.2.1
theorem dX7_init_122 : decode cX7_init 122 = .ok (.aload_n 0, 1) := dAX7_init_7.2.2.2.1
theorem dX7_init_123 : decode cX7_init 123 = .ok (.bipush 90, 2) := dAX7_init_7.2.2.2.2.1
theorem dX7_init_125 : decode cX7_init 125 = .ok (.newarray .int, 2) := dAX7_init_7.2.2.2.2.2.1
theorem dX7_init_127 : decode cX7_init 127 = .ok (.putfield 56, 3) := dAX7_init_7.2.2.2.2.2.2.1
theorem dX7_init_130 : decode cX7_init 130 = .ok (.aload_n 0, 1) := dAX7_init_7.2.2.2.2.2.2.2
set_option maxRecDepth 100000 in
theorem dAX7_init_8 : decode cX7_init 131 = .ok (.bipush 10, 2) ∧ decode cX7_init 133 = .ok (.newarray .int, 2) ∧ decode cX7_init 135 = .ok (.putfield 59, 3) ∧ decode cX7_init 138 = .ok (.aload_n 0, 1) ∧ decode cX7_init 139 = .ok (.iconst 4, 1) ∧ decode cX7_init 140 = .ok (.newarray .int, 2) ∧ decode cX7_init 142 = .ok (.putfield 62, 3) ∧ decode cX7_init 145 = .ok (.return_, 1) := by decide +kernel
theorem dX7_init_131 : decode cX7_init 131 = .ok (.bipush 10, 2) := dAX7_init_8.1
theorem dX7_init_133 : decode cX7_init 133 = .ok (.newarray .int, 2) := dAX7_init_8.2.1
theorem dX7_init_135 : decode cX7_init 135 = .ok (.putfield 59, 3) := dAX7_init_8.2.2.1
theorem dX7_init_138 : decode cX7_init 138 = .ok (.aload_n 0, 1) := dAX7_init_8.2.2.2.1
theorem dX7_init_139 : decode cX7_init 139 = .ok (.iconst 4, 1) := dAX7_init_8.2.2.2.2.1
theorem dX7_init_140 : decode cX7_init 140 = .ok (.newarray .int, 2) := dAX7_init_8.2.2.2.2.2.1
theorem dX7_init_142 : decode cX7_init 142 = .ok (.putfield 62, 3) := dAX7_init_8.2.2.2.2.2.2.1
theorem dX7_init_145 : decode cX7_init 145 = .ok (.return_, 1) := dAX7_init_8.2.2.2.2.2.2.2
set_option maxRecDepth 100000 in
theorem dAX7_innerLine_0 : decode cX7_innerLine 0 = .ok (.aload_n 0, 1) ∧ decode cX7_innerLine 1 = .ok (.getfield 103, 3) ∧ decode cX7_innerLine 4 = .ok (.ifCond .eq 4, 3) ∧ decode cX7_innerLine 7 = .ok (.return_, 1) ∧ decode cX7_innerLine 8 = .ok (.aload_n 0, 1) ∧ decode cX7_innerLine 9 = .ok (.invokevirtual 228, 3) ∧ decode cX7_innerLine 12 = .ok (.aload_n 0, 1) ∧ decode cX7_innerLine 13 = .ok (.getfield 23, 3) := by decide +kernel
theorem dX7_innerLine_0 : decode cX7_innerLine 0 = .ok (.aload_n 0, 1) := dAX7_innerLine_0.1
theorem dX7_innerLine_1 : decode cX7_innerLine 1 = .ok (.getfield 103, 3) := dAX7_innerLine_0.2.1
theorem dX7_innerLine_4 : decode cX7_innerLine 4 = .ok (.ifCond .eq 4, 3) := dAX7_innerLine_0.2.2.1
theorem dX7_innerLine_7 : decode cX7_innerLine 7 = .ok (.return_, 1) := dAX7_innerLine_0.2.2.2.1
theorem dX7_innerLine_8 : decode cX7_innerLine 8 = .ok (.aload_n 0, 1) := dAX7_innerLine_0.2.2.2.2.1
theorem dX7_innerLine_9 : decode cX7_innerLine 9 = .ok (.invokevirtual 228, 3) := dAX7_innerLine_0.2.2.2.2.2.1
theorem dX7_innerLine_12 : decode cX7_innerLine 12 = .ok (.aload_n 0, 1) := dAX7_innerLine_0.2.2.2.2.2.2.1
theorem dX7_innerLine_13 : decode cX7_innerLine 13 = .ok (.getfield 23, 3) := dAX7_innerLine_0.2.2.2.2.2.2.2
set_option maxRecDepth 100000 in
theorem dAX7_innerLine_1 : decode cX7_innerLine 16 = .ok (.iconst 1, 1) ∧ decode cX7_innerLine 17 = .ok (.iaload, 1) ∧ decode cX7_innerLine 18 = .ok (.istore_n 2, 1) ∧ decode cX7_innerLine 19 = .ok (.iconst 0, 1) ∧ decode cX7_innerLine 20 = .ok (.istore_n 3, 1) ∧ decode cX7_innerLine 21 = .ok (.iconst 1, 1) ∧ decode cX7_innerLine 22 = .ok (.istore 4, 2) ∧ decode cX7_innerLine 24 = .ok (.iload 4, 2) := by decide +kernel
theorem dX7_innerLine_16 : decode cX7_innerLine 16 = .ok (.iconst 1, 1) := dAX7_innerLine_1.1
theorem dX7_innerLine_17 : decode cX7_innerLine 17 = .ok (.iaload, 1) := dAX7_innerLine_1.2.1
theorem dX7_innerLine_18 : decode cX7_innerLine 18 = .ok (.istore_n 2, 1) := dAX7_innerLine_1.2.2.1
theorem dX7_innerLine_19 : decode cX7_innerLine 19 = .ok (.iconst 0, 1) := dAX7_innerLine_1.2.2.2.1
theorem dX7_innerLine_20 : decode cX7_innerLine 20 = .ok (.istore_n 3, 1) := dAX7_innerLine_1.2.2.2.2.1
theorem dX7_innerLine_21 : decode cX7_innerLine 21 = .ok (.iconst 1, 1) := dAX7_innerLine_1.2.2.2.2.2.1
theorem dX7_innerLine_22 : decode cX7_innerLine 22 = .ok (.istore 4, 2) := dAX7_innerLine_1.2.2.2.2.2.2.1
theorem dX7_innerLine_24 : decode cX7_innerLine 24 = .ok (.iload 4, 2) := dAX7_innerLine_1.2.2.2.2.2.2.2
set_option maxRecDepth 100000 in
theorem dAX7_innerLine_2 : decode cX7_innerLine 26 = .ok (.ifCond .eq 172, 3) ∧ decode cX7_innerLine 29 = .ok (.aload_n 0, 1) ∧ decode cX7_innerLine 30 = .ok (.getfield 103, 3) ∧ decode cX7_innerLine 33 = .ok (.ifCond .ne 165, 3) ∧ decode cX7_innerLine 36 = .ok (.aload_n 0, 1) ∧ decode cX7_innerLine 37 = .ok (.invokevirtual 236, 3) ∧ decode cX7_innerLine 40 = .ok (.istore 5, 2) ∧ decode cX7_innerLine 42 = .ok (.iconst 0, 1) := by decide +kernel
theorem dX7_innerLine_26 : decode cX7_innerLine 26 = .ok (.ifCond .eq 172, 3) := dAX7_innerLine_2.1
theorem dX7_innerLine_29 : decode cX7_innerLine 29 = .ok (.aload_n 0, 1) := dAX7_innerLine_2.2.1
theorem dX7_innerLine_30 : decode cX7_innerLine 30 = .ok (.getfield 103, 3) := dAX7_innerLine_2.2.2.1
theorem dX7_innerLine_33 : decode cX7_innerLine 33 = .ok (.ifCond .ne 165, 3) := dAX7_innerLine_2.2.2.2.1
theorem dX7_innerLine_36 : decode cX7_innerLine 36 = .ok (.aload_n 0, 1) := dAX7_innerLine_2.2.2.2.2.1
theorem dX7_innerLine_37 : decode cX7_innerLine 37 = .ok (.invokevirtual 236, 3) := dAX7_innerLine_2.2.2.2.2.2.1
theorem dX7_innerLine_40 : decode cX7_innerLine 40 = .ok (.istore 5, 2) := dAX7_innerLine_2.2.2.2.2.2.2.1
theorem dX7_innerLine_42 : decode cX7_innerLine 42 = .ok (.iconst 0, 1) := dAX7_innerLine_2.2.2.2.2.2.2.2
set_option maxRecDepth 100000 in
theorem dAX7_innerLine_3 : decode cX7_innerLine 43 = .ok (.istore 6, 2) ∧ decode cX7_innerLine 45 = .ok (.iload 6, 2) ∧ decode cX7_innerLine 47 = .ok (.iload_n 3, 1) ∧ decode cX7_innerLine 48 = .ok (.if_icmp .ge 41, 3) ∧ decode cX7_innerLine 51 = .ok (.aload_n 0, 1) ∧ decode cX7_innerLine 52 = .ok (.getfield 103, 3) ∧ decode cX7_innerLine 55 = .ok (.ifCond .ne 28, 3) ∧ decode cX7_innerLine 58 = .ok (.aload_n 0, 1) := by decide +kernel
theorem dX7_innerLine_43 : decode cX7_innerLine 43 = .ok (.istore 6, 2) := dAX7_innerLine_3.1
theorem dX7_innerLine_45 : decode cX7_innerLine 45 = .ok (.iload 6, 2) := dAX7_innerLine_3.2.1
theorem dX7_innerLine_47 : decode cX7_innerLine 47 = .ok (.iload_n 3, 1) := dAX7_innerLine_3.2.2.1
theorem dX7_innerLine_48 : decode cX7_innerLine 48 = .ok (.if_icmp .ge 41, 3) := dAX7_innerLine_3.2.2.2.1
theorem dX7_innerLine_51 : decode cX7_innerLine 51 = .ok (.aload_n 0, 1) := dAX7_innerLine_3.2.2.2.2.1
theorem dX7_innerLine_52 : decode cX7_innerLine 52 = .ok (.getfield 103, 3) := dAX7_innerLine_3.2.2.2.2.2.1
theorem dX7_innerLine_55 : decode cX7_innerLine 55 = .ok (.ifCond .ne 28, 3) := dAX7_innerLine_3.2.2.2.2.2.2.1
theorem dX7_innerLine_58 : decode cX7_innerLine 58 = .ok (.aload_n 0, 1) := dAX7_innerLine_3.2.2.2.2.2.2.2
set_option maxRecDepth 100000 in
theorem dAX7_innerLine_4 : decode cX7_innerLine 59 = .ok (.getfield 29, 3) ∧ decode cX7_innerLine 62 = .ok (.iconst 4, 1) ∧ decode cX7_innerLine 63 = .ok (.iload_n 2, 1) ∧ decode cX7_innerLine 64 = .ok (.imul, 1) ∧ decode cX7_innerLine 65 = .ok (.iload 6, 2) ∧ decode cX7_innerLine 67 = .ok (.iadd, 1) ∧ decode cX7_innerLine 68 = .ok (.iaload, 1) ∧ decode cX7_innerLine 69 = .ok (.iload 5, 2) := by decide +kernel
theorem dX7_innerLine_59 : decode cX7_innerLine 59 = .ok (.getfield 29, 3) := dAX7_innerLine_4.1
theorem dX7_innerLine_62 : decode cX7_innerLine 62 = .ok (.iconst 4, 1) := dAX7_innerLine_4.2.1
theorem dX7_innerLine_63 : decode cX7_innerLine 63 = .ok (.iload_n 2, 1) := dAX7_innerLine_4.2.2.1
theorem dX7_innerLine_64 : decode cX7_innerLine 64 = .ok (.imul, 1) := dAX7_innerLine_4.2.2.2.1
theorem dX7_innerLine_65 : decode cX7_innerLine 65 = .ok (.iload 6, 2) := dAX7_innerLine_4.2.2.2.2.1
theorem dX7_innerLine_67 : decode cX7_innerLine 67 = .ok (.iadd, 1) := dAX7_innerLine_4.2.2.2.2.2.1
theorem dX7_innerLine_68 : decode cX7_innerLine 68 = .ok (.iaload, 1) := dAX7_innerLine_4.2.2.2.2.2.2.1
theorem dX7_innerLine_69 : decode cX7_innerLine 69 = .ok (.iload 5, 2) := dAX7_innerLine_4.2.2.2.2.2.2.2
set_option maxRecDepth 100000 in
theorem dAX7_innerLine_5 : decode cX7_innerLine 71 = .ok (.if_icmp .ne 12, 3) ∧ decode cX7_innerLine 74 = .ok (.aload_n 0, 1) ∧ decode cX7_innerLine 75 = .ok (.iconst 3, 1) ∧ decode cX7_innerLine 76 = .ok (.aload_n 0, 1) ∧ decode cX7_innerLine 77 = .ok (.getfield 84, 3) ∧ decode cX7_innerLine 80 = .ok (.invokevirtual 130, 3) ∧ decode cX7_innerLine 83 = .ok (.iinc 6 1, 3) ∧ decode cX7_innerLine 86 = .ok (.goto (-41), 3) := by decide +kernel
theorem dX7_innerLine_71 : decode cX7_innerLine 71 = .ok (.if_icmp .ne 12, 3) := dAX7_innerLine_5.1
theorem dX7_innerLine_74 : decode cX7_innerLine 74 = .ok (.aload_n 0, 1) := dAX7_innerLine_5.2.1
theorem dX7_innerLine_75 : decode cX7_innerLine 75 = .ok (.iconst 3, 1) := dAX7_innerLine_5.2.2.1
theorem dX7_innerLine_76 : decode cX7_innerLine 76 = .ok (.aload_n 0, 1) := dAX7_innerLine_5.2.2.2.1
theorem dX7_innerLine_77 : decode cX7_innerLine 77 = .ok (.getfield 84, 3) := dAX7_innerLine_5.2.2.2.2.1
theorem dX7_innerLine_80 : decode cX7_innerLine 80 = .ok (.invokevirtual 130, 3) := dAX7_innerLine_5.2.2.2.2.2.1
theorem dX7_innerLine_83 : decode cX7_innerLine 83 = .ok (.iinc 6 1, 3) := dAX7_innerLine_5.2.2.2.2.2.2.1
theorem dX7_innerLine_86 : decode cX7_innerLine 86 = .ok (.goto (-41), 3) := dAX7_innerLine_5.2.2.2.2.2.2.2
set_option maxRecDepth 100000 in
theorem dAX7_innerLine_6 : decode cX7_innerLine 89 = .ok (.aload_n 0, 1) ∧ decode cX7_innerLine 90 = .ok (.getfield 103, 3) ∧ decode cX7_innerLine 93 = .ok (.ifCond .ne 17, 3) ∧ decode cX7_innerLine 96 = .ok (.iload_n 3, 1) ∧ decode cX7_innerLine 97 = .ok (.iconst 4, 1) ∧ decode cX7_innerLine 98 = .ok (.if_icmp .ne 12, 3) ∧ decode cX7_innerLine 101 = .ok (.aload_n 0, 1) ∧ decode cX7_innerLine 102 = .ok (.iconst 5, 1) := by decide +kernel
theorem dX7_innerLine_89 : decode cX7_innerLine 89 = .ok (.aload_n 0, 1) := dAX7_innerLine_6.1
theorem dX7_innerLine_90 : decode cX7_innerLine 90 = .ok (.getfield 103, 3) := dAX7_innerLine_6.2.1
theorem dX7_innerLine_93 : decode cX7_innerLine 93 = .ok (.ifCond .ne 17, 3) := dAX7_innerLine_6.2.2.1
theorem dX7_innerLine_96 : decode cX7_innerLine 96 = .ok (.iload_n 3, 1) := dAX7_innerLine_6.2.2.2.1
theorem dX7_innerLine_97 : decode cX7_innerLine 97 = .ok (.iconst 4, 1) := dAX7_innerLine_6.2.2.2.2.1
theorem dX7_innerLine_98 : decode cX7_innerLine 98 = .ok (.if_icmp .ne 12, 3) := dAX7_innerLine_6.2.2.2.2.2.1
theorem dX7_innerLine_101 : decode cX7_innerLine 101 = .ok (.aload_n 0, 1) := dAX7_innerLine_6.2.2.2.2.2.2.1
theorem dX7_innerLine_102 : decode cX7_innerLine 102 = .ok (.iconst 5, 1) := dAX7_innerLine_6.2.2.2.2.2.2.2
set_option maxRecDepth 100000 in
theorem dAX7_innerLine_7 : decode cX7_innerLine 103 = .ok (.aload_n 0, 1) ∧ decode cX7_innerLine 104 = .ok (.getfield 84, 3) ∧ decode cX7_innerLine 107 = .ok (.invokevirtual 130, 3) ∧ decode cX7_innerLine 110 = .ok (.aload_n 0, 1) ∧ decode cX7_innerLine 111 = .ok (.invokevirtual 196, 3) ∧ decode cX7_innerLine 114 = .ok (.iload_n 1, 1) ∧ decode cX7_innerLine 115 = .ok (.iconst 3, 1) ∧ decode cX7_innerLine 116 = .ok (.if_icmp .ne 13, 3) := by decide +kernel
theorem dX7_innerLine_103 : decode cX7_innerLine 103 = .ok (.aload_n 0, 1) := dAX7_innerLine_7.1
theorem dX7_innerLine_104 : decode cX7_innerLine 104 = .ok (.getfield 84, 3) := dAX7_innerLine_7.2.1
theorem dX7_innerLine_107 : decode cX7_innerLine 107 = .ok (.invokevirtual 130, 3) := dAX7_innerLine_7.2.2.1
theorem dX7_innerLine_110 : decode cX7_innerLine 110 = .ok (.aload_n 0, 1) := dAX7_innerLine_7.2.2.2.1
theorem dX7_innerLine_111 : decode cX7_innerLine 111 = .ok (.invokevirtual 196, 3) := dAX7_innerLine_7.2.2.2.2.1
theorem dX7_innerLine_114 : decode cX7_innerLine 114 = .ok (.iload_n 1, 1) := dAX7_innerLine_7.2.2.2.2.2.1
theorem dX7_innerLine_115 : decode cX7_innerLine 115 = .ok (.iconst 3, 1) := dAX7_innerLine_7.2.2.2.2.2.2.1
theorem dX7_innerLine_116 : decode cX7_innerLine 116 = .ok (.if_icmp .ne 13, 3) := dAX7_innerLine_7.2.2.2.2.2.2.2
set_option maxRecDepth 100000 in
theorem dAX7_innerLine_8 : decode cX7_innerLine 119 = .ok (.aload_n 0, 1) ∧ decode cX7_innerLine 120 = .ok (.iconst 1, 1) ∧ decode cX7_innerLine 121 = .ok (.bipush 9, 2) ∧ decode cX7_innerLine 123 = .ok (.invokevirtual 171, 3) ∧ decode cX7_innerLine 126 = .ok (.goto 4, 3) ∧ decode cX7_innerLine 129 = .ok (.iconst 0, 1) ∧ decode cX7_innerLine 130 = .ok (.istore 6, 2) ∧ decode cX7_innerLine 132 = .ok (.aload_n 0, 1) := by decide +kernel
theorem dX7_innerLine_119 : decode cX7_innerLine 119 = .ok (.aload_n 0, 1) := dAX7_innerLine_8.1
theorem dX7_innerLine_120 : decode cX7_innerLine 120 = .ok (.iconst 1, 1) := dAX7_innerLine_8.2.1
theorem dX7_innerLine_121 : decode cX7_innerLine 121 = .ok (.bipush 9, 2) := dAX7_innerLine_8.2.2.1
theorem dX7_innerLine_123 : decode cX7_innerLine 123 = .ok (.invokevirtual 171, 3) := dAX7_innerLine_8.2.2.2.1
theorem dX7_innerLine_126 : decode cX7_innerLine 126 = .ok (.goto 4, 3) := dAX7_innerLine_8.2.2.2.2.1
theorem dX7_innerLine_129 : decode cX7_innerLine 129 = .ok (.iconst 0, 1) := dAX7_innerLine_8.2.2.2.2.2.1
theorem dX7_innerLine_130 : decode cX7_innerLine 130 = .ok (.istore 6, 2) := dAX7_innerLine_8.2.2.2.2.2.2.1
theorem dX7_innerLine_132 : decode cX7_innerLine 132 = .ok (.aload_n 0, 1) := dAX7_innerLine_8.2.2.2.2.2.2.2
set_option maxRecDepth 100000 in
theorem dAX7_innerLine_9 : decode cX7_innerLine 133 = .ok (.getfield 103, 3) ∧ decode cX7_innerLine 136 = .ok (.ifCond .eq 4, 3) ∧ decode cX7_innerLine 139 = .ok (.return_, 1) ∧ decode cX7_innerLine 140 = .ok (.aload_n 0, 1) ∧ decode cX7_innerLine 141 = .ok (.getfield 29, 3) ∧ decode cX7_innerLine 144 = .ok (.iconst 4, 1) ∧ decode cX7_innerLine 145 = .ok (.iload_n 2, 1) ∧ decode cX7_innerLine 146 = .ok (.imul, 1) := by decide +kernel
theorem dX7_innerLine_133 : decode cX7_innerLine 133 = .ok (.getfield 103, 3) := dAX7_innerLine_9.1
theorem dX7_innerLine_136 : decode cX7_innerLine 136 = .ok (.ifCond .eq 4, 3) := dAX7_innerLine_9.2.1
theorem dX7_innerLine_139 : decode cX7_innerLine 139 = .ok (.return_, 1) := dAX7_innerLine_9.2.2.1
theorem dX7_innerLine_140 : decode cX7_innerLine 140 = .ok (.aload_n 0, 1) := dAX7_innerLine_9.2.2.2.1
theorem dX7_innerLine_141 : decode cX7_innerLine 141 = .ok (.getfield 29, 3) := dAX7_innerLine_9.2.2.2.2.1
theorem dX7_innerLine_144 : decode cX7_innerLine 144 = .ok (.iconst 4, 1) := dAX7_innerLine_9.2.2.2.2.2.1
theorem dX7_innerLine_145 : decode cX7_innerLine 145 = .ok (.iload_n 2, 1) := dAX7_innerLine_9.2.2.2.2.2.2.1
theorem dX7_innerLine_146 : decode cX7_innerLine 146 = .ok (.imul, 1) := dAX7_innerLine_9.2.2.2.2.2.2.2
set_option maxRecDepth 100000 in
theorem dAX7_innerLine_10 : decode cX7_innerLine 147 = .ok (.iload_n 3, 1) ∧ decode cX7_innerLine 148 = .ok (.iadd, 1) ∧ decode cX7_innerLine 149 = .ok (.iload 5, 2) ∧ decode cX7_innerLine 151 = .ok (.iastore, 1) ∧ decode cX7_innerLine 152 = .ok (.aload_n 0, 1) ∧ decode cX7_innerLine 153 = .ok (.getfield 23, 3) ∧ decode cX7_innerLine 156 = .ok (.bipush 45, 2) ∧ decode cX7_innerLine 158 = .ok (.iconst 4, 1) := by decide +kernel
theorem dX7_innerLine_147 : decode cX7_innerLine 147 = .ok (.iload_n 3, 1) := dAX7_innerLine_10.1
theorem dX7_innerLine_148 : decode cX7_innerLine 148 = .ok (.iadd, 1) := dAX7_innerLine_10.2.1
theorem dX7_innerLine_149 : decode cX7_innerLine 149 = .ok (.iload 5, 2) := dAX7_innerLine_10.2.2.1
theorem dX7_innerLine_151 : decode cX7_innerLine 151 = .ok (.iastore, 1) := dAX7_innerLine_10.2.2.2.1
theorem dX7_innerLine_152 : decode cX7_innerLine 152 = .ok (.aload_n 0, 1) := dAX7_innerLine_10.2.2.2.2.1
theorem dX7_innerLine_153 : decode cX7_innerLine 153 = .ok (.getfield 23, 3) := dAX7_innerLine_10.2.2.2.2.2.1
theorem dX7_innerLine_156 : decode cX7_innerLine 156 = .ok (.bipush 45, 2) := dAX7_innerLine_10.2.2.2.2.2.2.1
theorem dX7_innerLine_158 : decode cX7_innerLine 158 = .ok (.iconst 4, 1) := dAX7_innerLine_10.2.2.2.2.2.2.2
set_option maxRecDepth 100000 in
theorem dAX7_innerLine_11 : decode cX7_innerLine 159 = .ok (.iload_n 2, 1) ∧ decode cX7_innerLine 160 = .ok (.imul, 1) ∧ decode cX7_innerLine 161 = .ok (.iadd, 1) ∧ decode cX7_innerLine 162 = .ok (.iload_n 3, 1) ∧ decode cX7_innerLine 163 = .ok (.iadd, 1) ∧ decode cX7_innerLine 164 = .ok (.iload 6, 2) ∧ decode cX7_innerLine 166 = .ok (.iastore, 1) ∧ decode cX7_innerLine 167 = .ok (.iinc 3 1, 3) := by decide +kernel
theorem dX7_innerLine_159 : decode cX7_innerLine 159 = .ok (.iload_n 2, 1) := dAX7_innerLine_11.1
theorem dX7_innerLine_160 : decode cX7_innerLine 160 = .ok (.imul, 1) := dAX7_innerLine_11.2.1
theorem dX7_innerLine_161 : decode cX7_innerLine 161 = .ok (.iadd, 1) := dAX7_innerLine_11.2.2.1
theorem dX7_innerLine_162 : decode cX7_innerLine 162 = .ok (.iload_n 3, 1) := dAX7_innerLine_11.2.2.2.1
theorem dX7_innerLine_163 : decode cX7_innerLine 163 = .ok (.iadd, 1) := dAX7_innerLine_11.2.2.2.2.1
theorem dX7_innerLine_164 : decode cX7_innerLine 164 = .ok (.iload 6, 2) := dAX7_innerLine_11.2.2.2.2.2.1
theorem dX7_innerLine_166 : decode cX7_innerLine 166 = .ok (.iastore, 1) := dAX7_innerLine_11.2.2.2.2.2.2.1
theorem dX7_innerLine_167 : decode cX7_innerLine 167 = .ok (.iinc 3 1, 3) := dAX7_innerLine_11.2.2.2.2.2.2.2
set_option maxRecDepth 100000 in
theorem dAX7_innerLine_12 : decode cX7_innerLine 170 = .ok (.aload_n 0, 1) ∧ decode cX7_innerLine 171 = .ok (.getfield 93, 3) ∧ decode cX7_innerLine 174 = .ok (.bipush 44, 2) ∧ decode cX7_innerLine 176 = .ok (.if_icmp .ne 7, 3) ∧ decode cX7_innerLine 179 = .ok (.iconst 1, 1) ∧ decode cX7_innerLine 180 = .ok (.goto 4, 3) ∧ decode cX7_innerLine 183 = .ok (.iconst 0, 1) ∧ decode cX7_innerLine 184 = .ok (.istore 4, 2) := by decide +kernel
theorem dX7_innerLine_170 : decode cX7_innerLine 170 = .ok (.aload_n 0, 1) := dAX7_innerLine_12.1
theorem dX7_innerLine_171 : decode cX7_innerLine 171 = .ok (.getfield 93, 3) := dAX7_innerLine_12.2.1
theorem dX7_innerLine_174 : decode cX7_innerLine 174 = .ok (.bipush 44, 2) := dAX7_innerLine_12.2.2.1
theorem dX7_innerLine_176 : decode cX7_innerLine 176 = .ok (.if_icmp .ne 7, 3) := dAX7_innerLine_12.2.2.2.1
theorem dX7_innerLine_179 : decode cX7_innerLine 179 = .ok (.iconst 1, 1) := dAX7_innerLine_12.2.2.2.2.1
theorem dX7_innerLine_180 : decode cX7_innerLine 180 = .ok (.goto 4, 3) := dAX7_innerLine_12.2.2.2.2.2.1
theorem dX7_innerLine_183 : decode cX7_innerLine 183 = .ok (.iconst 0, 1) := dAX7_innerLine_12.2.2.2.2.2.2.1
theorem dX7_innerLine_184 : decode cX7_innerLine 184 = .ok (.istore 4, 2) := dAX7_innerLine_12.2.2.2.2.2.2.2
set_option maxRecDepth 100000 in
theorem dAX7_innerLine_13 : decode cX7_innerLine 186 = .ok (.iload 4, 2) ∧ decode cX7_innerLine 188 = .ok (.ifCond .eq 7, 3) ∧ decode cX7_innerLine 191 = .ok (.aload_n 0, 1) ∧ decode cX7_innerLine 192 = .ok (.invokevirtual 124, 3) ∧ decode cX7_innerLine 195 = .ok (.goto (-171), 3) ∧ decode cX7_innerLine 198 = .ok (.aload_n 0, 1) ∧ decode cX7_innerLine 199 = .ok (.getfield 103, 3) ∧ decode cX7_innerLine 202 = .ok (.ifCond .eq 4, 3) := by decide +kernel
theorem dX7_innerLine_186 : decode cX7_innerLine 186 = .ok (.iload 4, 2) := dAX7_innerLine_13.1
theorem dX7_innerLine_188 : decode cX7_innerLine 188 = .ok (.ifCond .eq 7, 3) := dAX7_innerLine_13.2.1
theorem dX7_innerLine_191 : decode cX7_innerLine 191 = .ok (.aload_n 0, 1) := dAX7_innerLine_13.2.2.1
theorem dX7_innerLine_192 : decode cX7_innerLine 192 = .ok (.invokevirtual 124, 3) := dAX7_innerLine_13.2.2.2.1
theorem dX7_innerLine_195 : decode cX7_innerLine 195 = .ok (.goto (-171), 3) := dAX7_innerLine_13.2.2.2.2.1
theorem dX7_innerLine_198 : decode cX7_innerLine 198 = .ok (.aload_n 0, 1) := dAX7_innerLine_13.2.2.2.2.2.1
theorem dX7_innerLine_199 : decode cX7_innerLine 199 = .ok (.getfield 103, 3) := dAX7_innerLine_13.2.2.2.2.2.2.1
theorem dX7_innerLine_202 : decode cX7_innerLine 202 = .ok (.ifCond .eq 4, 3) := dAX7_innerLine_13.2.2.2.2.2.2.2
set_option maxRecDepth 100000 in
theorem dAX7_innerLine_14 : decode cX7_innerLine 205 = .ok (.return_, 1) ∧ decode cX7_innerLine 206 = .ok (.aload_n 0, 1) ∧ decode cX7_innerLine 207 = .ok (.getfield 23, 3) ∧ decode cX7_innerLine 210 = .ok (.bipush 27, 2) ∧ decode cX7_innerLine 212 = .ok (.iload_n 2, 1) ∧ decode cX7_innerLine 213 = .ok (.iadd, 1) ∧ decode cX7_innerLine 214 = .ok (.iload_n 3, 1) ∧ decode cX7_innerLine 215 = .ok (.iastore, 1) := by decide +kernel
theorem dX7_innerLine_205 : decode cX7_innerLine 205 = .ok (.return_, 1) := dAX7_innerLine_14.1
theorem dX7_innerLine_206 : decode cX7_innerLine 206 = .ok (.aload_n 0, 1) := dAX7_innerLine_14.2.1
theorem dX7_innerLine_207 : decode cX7_innerLine 207 = .ok (.getfield 23, 3) := dAX7_innerLine_14.2.2.1
theorem dX7_innerLine_210 : decode cX7_innerLine 210 = .ok (.bipush 27, 2) := dAX7_innerLine_14.2.2.2.1
theorem dX7_innerLine_212 : decode cX7_innerLine 212 = .ok (.iload_n 2, 1) := dAX7_innerLine_14.2.2.2.2.1
theorem dX7_innerLine_213 : decode cX7_innerLine 213 = .ok (.iadd, 1) := dAX7_innerLine_14.2.2.2.2.2.1
theorem dX7_innerLine_214 : decode cX7_innerLine 214 = .ok (.iload_n 3, 1) := dAX7_innerLine_14.2.2.2.2.2.2.1
theorem dX7_innerLine_215 : decode cX7_innerLine 215 = .ok (.iastore, 1) := dAX7_innerLine_14.2.2.2.2.2.2.2
set_option maxRecDepth 100000 in
theorem dAX7_innerLine_15 : decode cX7_innerLine 216 = .ok (.aload_n 0, 1) ∧ decode cX7_innerLine 217 = .ok (.iload_n 1, 1) ∧ decode cX7_innerLine 218 = .ok (.invokevirtual 233, 3) ∧ decode cX7_innerLine 221 = .ok (.aload_n 0, 1) ∧ decode cX7_innerLine 222 = .ok (.getfield 23, 3) ∧ decode cX7_innerLine 225 = .ok (.bipush 7, 2) ∧ decode cX7_innerLine 227 = .ok (.dup2, 1) ∧ decode cX7_innerLine 228 = .ok (.iaload, 1) := by decide +kernel
theorem dX7_innerLine_216 : decode cX7_innerLine 216 = .ok (.aload_n 0, 1) := dAX7_innerLine_15.1
theorem dX7_innerLine_217 : decode cX7_innerLine 217 = .ok (.iload_n 1, 1) := dAX7_innerLine_15.2.1
theorem dX7_innerLine_218 : decode cX7_innerLine 218 = .ok (.invokevirtual 233, 3) := dAX7_innerLine_15.2.2.1
theorem dX7_innerLine_221 : decode cX7_innerLine 221 = .ok (.aload_n 0, 1) := dAX7_innerLine_15.2.2.2.1
theorem dX7_innerLine_222 : decode cX7_innerLine 222 = .ok (.getfield 23, 3) := dAX7_innerLine_15.2.2.2.2.1
theorem dX7_innerLine_225 : decode cX7_innerLine 225 = .ok (.bipush 7, 2) := dAX7_innerLine_15.2.2.2.2.2.1
theorem dX7_innerLine_227 : decode cX7_innerLine 227 = .ok (.dup2, 1) := dAX7_innerLine_15.2.2.2.2.2.2.1
theorem dX7_innerLine_228 : decode cX7_innerLine 228 = .ok (.iaload, 1) := dAX7_innerLine_15.2.2.2.2.2.2.2
set_option maxRecDepth 100000 in
theorem dAX7_innerLine_16 : decode cX7_innerLine 229 = .ok (.iconst 1, 1) ∧ decode cX7_innerLine 230 = .ok (.iadd, 1) ∧ decode cX7_innerLine 231 = .ok (.iastore, 1) ∧ decode cX7_innerLine 232 = .ok (.aload_n 0, 1) ∧ decode cX7_innerLine 233 = .ok (.getfield 23, 3) ∧ decode cX7_innerLine 236 = .ok (.bipush 8, 2) ∧ decode cX7_innerLine 238 = .ok (.dup2, 1) ∧ decode cX7_innerLine 239 = .ok (.iaload, 1) := by decide +kernel
theorem dX7_innerLine_229 : decode cX7_innerLine 229 = .ok (.iconst 1, 1) := dAX7_innerLine_16.1
theorem dX7_innerLine_230 : decode cX7_innerLine 230 = .ok (.iadd, 1) := dAX7_innerLine_16.2.1
theorem dX7_innerLine_231 : decode cX7_innerLine 231 = .ok (.iastore, 1) := dAX7_innerLine_16.2.2.1
theorem dX7_innerLine_232 : decode cX7_innerLine 232 = .ok (.aload_n 0, 1) := dAX7_innerLine_16.2.2.2.1
theorem dX7_innerLine_233 : decode cX7_innerLine 233 = .ok (.getfield 23, 3) := dAX7_innerLine_16.2.2.2.2.1
theorem dX7_innerLine_236 : decode cX7_innerLine 236 = .ok (.bipush 8, 2) := dAX7_innerLine_16.2.2.2.2.2.1
theorem dX7_innerLine_238 : decode cX7_innerLine 238 = .ok (.dup2, 1) := dAX7_innerLine_16.2.2.2.2.2.2.1
theorem dX7_innerLine_239 : decode cX7_innerLine 239 = .ok (.iaload, 1) := dAX7_innerLine_16.2.2.2.2.2.2.2
set_option maxRecDepth 100000 in
theorem dAX7_innerLine_17 : decode cX7_innerLine 240 = .ok (.iload_n 1, 1) ∧ decode cX7_innerLine 241 = .ok (.iconst 3, 1) ∧ decode cX7_innerLine 242 = .ok (.if_icmp .ne 7, 3) ∧ decode cX7_innerLine 245 = .ok (.iconst 1, 1) ∧ decode cX7_innerLine 246 = .ok (.goto 4, 3) ∧ decode cX7_innerLine 249 = .ok (.iconst 0, 1) ∧ decode cX7_innerLine 250 = .ok (.iadd, 1) ∧ decode cX7_innerLine 251 = .ok (.iastore, 1) := by decide +kernel
theorem dX7_innerLine_240 : decode cX7_innerLine 240 = .ok (.iload_n 1, 1) := dAX7_innerLine_17.1
theorem dX7_innerLine_241 : decode cX7_innerLine 241 = .ok (.iconst 3, 1) := dAX7_innerLine_17.2.1
theorem dX7_innerLine_242 : decode cX7_innerLine 242 = .ok (.if_icmp .ne 7, 3) := dAX7_innerLine_17.2.2.1
theorem dX7_innerLine_245 : decode cX7_innerLine 245 = .ok (.iconst 1, 1) := dAX7_innerLine_17.2.2.2.1
theorem dX7_innerLine_246 : decode cX7_innerLine 246 = .ok (.goto 4, 3) := dAX7_innerLine_17.2.2.2.2.1
theorem dX7_innerLine_249 : decode cX7_innerLine 249 = .ok (.iconst 0, 1) := dAX7_innerLine_17.2.2.2.2.2.1
theorem dX7_innerLine_250 : decode cX7_innerLine 250 = .ok (.iadd, 1) := dAX7_innerLine_17.2.2.2.2.2.2.1
theorem dX7_innerLine_251 : decode cX7_innerLine 251 = .ok (.iastore, 1) := dAX7_innerLine_17.2.2.2.2.2.2.2
theorem dX7_innerLine_252 : decode cX7_innerLine 252 = .ok (.return_, 1) := by decide +kernel
set_option maxRecDepth 100000 in
theorem dAX7_isDigit_0 : decode cX7_isDigit 0 = .ok (.iload_n 0, 1) ∧ decode cX7_isDigit 1 = .ok (.bipush 48, 2) ∧ decode cX7_isDigit 3 = .ok (.if_icmp .lt 13, 3) ∧ decode cX7_isDigit 6 = .ok (.iload_n 0, 1) ∧ decode cX7_isDigit 7 = .ok (.bipush 57, 2) ∧ decode cX7_isDigit 9 = .ok (.if_icmp .gt 7, 3) ∧ decode cX7_isDigit 12 = .ok (.iconst 1, 1) ∧ decode cX7_isDigit 13 = .ok (.goto 4, 3) := by decide +kernel
theorem dX7_isDigit_0 : decode cX7_isDigit 0 = .ok (.iload_n 0, 1) := dAX7_isDigit_0.1
theorem dX7_isDigit_1 : decode cX7_isDigit 1 = .ok (.bipush 48, 2) := dAX7_isDigit_0.2.1
theorem dX7_isDigit_3 : decode cX7_isDigit 3 = .ok (.if_icmp .lt 13, 3) := dAX7_isDigit_0.2.2.1
theorem dX7_isDigit_6 : decode cX7_isDigit 6 = .ok (.iload_n 0, 1) := dAX7_isDigit_0.2.2.2.1
theorem dX7_isDigit_7 : decode cX7_isDigit 7 = .ok (.bipush 57, 2) := dAX7_isDigit_0.2.2.2.2.1
theorem dX7_isDigit_9 : decode cX7_isDigit 9 = .ok (.if_icmp .gt 7, 3) := dAX7_isDigit_0.2.2.2.2.2.1
theorem dX7_isDigit_12 : decode cX7_isDigit 12 = .ok (.iconst 1, 1) := dAX7_isDigit_0.2.2.2.2.2.2.1
theorem dX7_isDigit_13 : decode cX7_isDigit 13 = .ok (.goto 4, 3) := dAX7_isDigit_0.2.2.2.2.2.2.2
set_option maxRecDepth 100000 in
theorem dAX7_isDigit_1 : decode cX7_isDigit 16 = .ok (.iconst 0, 1) ∧ decode cX7_isDigit 17 = .ok (.ireturn, 1) := by decide +kernel
theorem dX7_isDigit_16 : decode cX7_isDigit 16 = .ok (.iconst 0, 1) := dAX7_isDigit_1.1
theorem dX7_isDigit_17 : decode cX7_isDigit 17 = .ok (.ireturn, 1) := dAX7_isDigit_1.2
set_option maxRecDepth 100000 in
theorem dAX7_isNode_0 : decode cX7_isNode 0 = .ok (.aload_n 0, 1) ∧ decode cX7_isNode 1 = .ok (.getfield 187, 3) ∧ decode cX7_isNode 4 = .ok (.ifCond .eq 23, 3) ∧ decode cX7_isNode 7 = .ok (.iload_n 1, 1) ∧ decode cX7_isNode 8 = .ok (.iconst 0, 1) ∧ decode cX7_isNode 9 = .ok (.aload_n 0, 1) ∧ decode cX7_isNode 10 = .ok (.getfield 20, 3) ∧ decode cX7_isNode 13 = .ok (.iconst 1, 1) := by decide +kernel
theorem dX7_isNode_0 : decode cX7_isNode 0 = .ok (.aload_n 0, 1) := dAX7_isNode_0.1
theorem dX7_isNode_1 : decode cX7_isNode 1 = .ok (.getfield 187, 3) := dAX7_isNode_0.2.1
theorem dX7_isNode_4 : decode cX7_isNode 4 = .ok (.ifCond .eq 23, 3) := dAX7_isNode_0.2.2.1
theorem dX7_isNode_7 : decode cX7_isNode 7 = .ok (.iload_n 1, 1) := dAX7_isNode_0.2.2.2.1
theorem dX7_isNode_8 : decode cX7_isNode 8 = .ok (.iconst 0, 1) := dAX7_isNode_0.2.2.2.2.1
theorem dX7_isNode_9 : decode cX7_isNode 9 = .ok (.aload_n 0, 1) := dAX7_isNode_0.2.2.2.2.2.1
theorem dX7_isNode_10 : decode cX7_isNode 10 = .ok (.getfield 20, 3) := dAX7_isNode_0.2.2.2.2.2.2.1
theorem dX7_isNode_13 : decode cX7_isNode 13 = .ok (.iconst 1, 1) := dAX7_isNode_0.2.2.2.2.2.2.2
set_option maxRecDepth 100000 in
theorem dAX7_isNode_1 : decode cX7_isNode 14 = .ok (.iaload, 1) ∧ decode cX7_isNode 15 = .ok (.iconst 1, 1) ∧ decode cX7_isNode 16 = .ok (.isub, 1) ∧ decode cX7_isNode 17 = .ok (.invokestatic 163, 3) ∧ decode cX7_isNode 20 = .ok (.ifCond .eq 7, 3) ∧ decode cX7_isNode 23 = .ok (.iconst 1, 1) ∧ decode cX7_isNode 24 = .ok (.goto 4, 3) ∧ decode cX7_isNode 27 = .ok (.iconst 0, 1) := by decide +kernel
theorem dX7_isNode_14 : decode cX7_isNode 14 = .ok (.iaload, 1) := dAX7_isNode_1.1
theorem dX7_isNode_15 : decode cX7_isNode 15 = .ok (.iconst 1, 1) := dAX7_isNode_1.2.1
theorem dX7_isNode_16 : decode cX7_isNode 16 = .ok (.isub, 1) := dAX7_isNode_1.2.2.1
theorem dX7_isNode_17 : decode cX7_isNode 17 = .ok (.invokestatic 163, 3) := dAX7_isNode_1.2.2.2.1
theorem dX7_isNode_20 : decode cX7_isNode 20 = .ok (.ifCond .eq 7, 3) := dAX7_isNode_1.2.2.2.2.1
theorem dX7_isNode_23 : decode cX7_isNode 23 = .ok (.iconst 1, 1) := dAX7_isNode_1.2.2.2.2.2.1
theorem dX7_isNode_24 : decode cX7_isNode 24 = .ok (.goto 4, 3) := dAX7_isNode_1.2.2.2.2.2.2.1
theorem dX7_isNode_27 : decode cX7_isNode 27 = .ok (.iconst 0, 1) := dAX7_isNode_1.2.2.2.2.2.2.2
theorem dX7_isNode_28 : decode cX7_isNode 28 = .ok (.ireturn, 1) := by decide +kernel
set_option maxRecDepth 100000 in
theorem dAX7_isNot_0 : decode cX7_isNot 0 = .ok (.aload_n 0, 1) ∧ decode cX7_isNot 1 = .ok (.iload_n 1, 1) ∧ decode cX7_isNot 2 = .ok (.putfield 68, 3) ∧ decode cX7_isNot 5 = .ok (.iconst 0, 1) ∧ decode cX7_isNot 6 = .ok (.ireturn, 1) := by decide +kernel
theorem dX7_isNot_0 : decode cX7_isNot 0 = .ok (.aload_n 0, 1) := dAX7_isNot_0.1
theorem dX7_isNot_1 : decode cX7_isNot 1 = .ok (.iload_n 1, 1) := dAX7_isNot_0.2.1
theorem dX7_isNot_2 : decode cX7_isNot 2 = .ok (.putfield 68, 3) := dAX7_isNot_0.2.2.1
theorem dX7_isNot_5 : decode cX7_isNot 5 = .ok (.iconst 0, 1) := dAX7_isNot_0.2.2.2.1
theorem dX7_isNot_6 : decode cX7_isNot 6 = .ok (.ireturn, 1) := dAX7_isNot_0.2.2.2.2
set_option maxRecDepth 100000 in
theorem dAX7_isSmall_0 : decode cX7_isSmall 0 = .ok (.iload_n 0, 1) ∧ decode cX7_isSmall 1 = .ok (.bipush 97, 2) ∧ decode cX7_isSmall 3 = .ok (.if_icmp .lt 13, 3) ∧ decode cX7_isSmall 6 = .ok (.iload_n 0, 1) ∧ decode cX7_isSmall 7 = .ok (.bipush 122, 2) ∧ decode cX7_isSmall 9 = .ok (.if_icmp .gt 7, 3) ∧ decode cX7_isSmall 12 = .ok (.iconst 1, 1) ∧ decode cX7_isSmall 13 = .ok (.goto 4, 3) := by decide +kernel
theorem dX7_isSmall_0 : decode cX7_isSmall 0 = .ok (.iload_n 0, 1) := dAX7_isSmall_0.1
theorem dX7_isSmall_1 : decode cX7_isSmall 1 = .ok (.bipush 97, 2) := dAX7_isSmall_0.2.1
theorem dX7_isSmall_3 : decode cX7_isSmall 3 = .ok (.if_icmp .lt 13, 3) := dAX7_isSmall_0.2.2.1
theorem dX7_isSmall_6 : decode cX7_isSmall 6 = .ok (.iload_n 0, 1) := dAX7_isSmall_0.2.2.2.1
theorem dX7_isSmall_7 : decode cX7_isSmall 7 = .ok (.bipush 122, 2) := dAX7_isSmall_0.2.2.2.2.1
theorem dX7_isSmall_9 : decode cX7_isSmall 9 = .ok (.if_icmp .gt 7, 3) := dAX7_isSmall_0.2.2.2.2.2.1
theorem dX7_isSmall_12 : decode cX7_isSmall 12 = .ok (.iconst 1, 1) := dAX7_isSmall_0.2.2.2.2.2.2.1
theorem dX7_isSmall_13 : decode cX7_isSmall 13 = .ok (.goto 4, 3) := dAX7_isSmall_0.2.2.2.2.2.2.2
set_option maxRecDepth 100000 in
theorem dAX7_isSmall_1 : decode cX7_isSmall 16 = .ok (.iconst 0, 1) ∧ decode cX7_isSmall 17 = .ok (.ireturn, 1) := by decide +kernel
theorem dX7_isSmall_16 : decode cX7_isSmall 16 = .ok (.iconst 0, 1) := dAX7_isSmall_1.1
theorem dX7_isSmall_17 : decode cX7_isSmall 17 = .ok (.ireturn, 1) := dAX7_isSmall_1.2
set_option maxRecDepth 100000 in
theorem dAX7_isSoMuch_0 : decode cX7_isSoMuch 0 = .ok (.aload_n 0, 1) ∧ decode cX7_isSoMuch 1 = .ok (.getfield 20, 3) ∧ decode cX7_isSoMuch 4 = .ok (.bipush 9, 2) ∧ decode cX7_isSoMuch 6 = .ok (.iload_n 1, 1) ∧ decode cX7_isSoMuch 7 = .ok (.iadd, 1) ∧ decode cX7_isSoMuch 8 = .ok (.iaload, 1) ∧ decode cX7_isSoMuch 9 = .ok (.istore_n 3, 1) ∧ decode cX7_isSoMuch 10 = .ok (.iload_n 3, 1) := by decide +kernel
theorem dX7_isSoMuch_0 : decode cX7_isSoMuch 0 = .ok (.aload_n 0, 1) := dAX7_isSoMuch_0.1
theorem dX7_isSoMuch_1 : decode cX7_isSoMuch 1 = .ok (.getfield 20, 3) := dAX7_isSoMuch_0.2.1
theorem dX7_isSoMuch_4 : decode cX7_isSoMuch 4 = .ok (.bipush 9, 2) := dAX7_isSoMuch_0.2.2.1
theorem dX7_isSoMuch_6 : decode cX7_isSoMuch 6 = .ok (.iload_n 1, 1) := dAX7_isSoMuch_0.2.2.2.1
theorem dX7_isSoMuch_7 : decode cX7_isSoMuch 7 = .ok (.iadd, 1) := dAX7_isSoMuch_0.2.2.2.2.1
theorem dX7_isSoMuch_8 : decode cX7_isSoMuch 8 = .ok (.iaload, 1) := dAX7_isSoMuch_0.2.2.2.2.2.1
theorem dX7_isSoMuch_9 : decode cX7_isSoMuch 9 = .ok (.istore_n 3, 1) := dAX7_isSoMuch_0.2.2.2.2.2.2.1
theorem dX7_isSoMuch_10 : decode cX7_isSoMuch 10 = .ok (.iload_n 3, 1) := dAX7_isSoMuch_0.2.2.2.2.2.2.2
set_option maxRecDepth 100000 in
theorem dAX7_isSoMuch_1 : decode cX7_isSoMuch 11 = .ok (.iconst 1, 1) ∧ decode cX7_isSoMuch 12 = .ok (.if_icmp .eq 8, 3) ∧ decode cX7_isSoMuch 15 = .ok (.iload_n 3, 1) ∧ decode cX7_isSoMuch 16 = .ok (.iconst 2, 1) ∧ decode cX7_isSoMuch 17 = .ok (.if_icmp .ne 73, 3) ∧ decode cX7_isSoMuch 20 = .ok (.iload_n 3, 1) ∧ decode cX7_isSoMuch 21 = .ok (.iconst 1, 1) ∧ decode cX7_isSoMuch 22 = .ok (.if_icmp .ne 7, 3) := by decide +kernel
theorem dX7_isSoMuch_11 : decode cX7_isSoMuch 11 = .ok (.iconst 1, 1) := dAX7_isSoMuch_1.1
theorem dX7_isSoMuch_12 : decode cX7_isSoMuch 12 = .ok (.if_icmp .eq 8, 3) := dAX7_isSoMuch_1.2.1
theorem dX7_isSoMuch_15 : decode cX7_isSoMuch 15 = .ok (.iload_n 3, 1) := dAX7_isSoMuch_1.2.2.1
theorem dX7_isSoMuch_16 : decode cX7_isSoMuch 16 = .ok (.iconst 2, 1) := dAX7_isSoMuch_1.2.2.2.1
theorem dX7_isSoMuch_17 : decode cX7_isSoMuch 17 = .ok (.if_icmp .ne 73, 3) := dAX7_isSoMuch_1.2.2.2.2.1
theorem dX7_isSoMuch_20 : decode cX7_isSoMuch 20 = .ok (.iload_n 3, 1) := dAX7_isSoMuch_1.2.2.2.2.2.1
theorem dX7_isSoMuch_21 : decode cX7_isSoMuch 21 = .ok (.iconst 1, 1) := dAX7_isSoMuch_1.2.2.2.2.2.2.1
theorem dX7_isSoMuch_22 : decode cX7_isSoMuch 22 = .ok (.if_icmp .ne 7, 3) := dAX7_isSoMuch_1.2.2.2.2.2.2.2
set_option maxRecDepth 100000 in
theorem dAX7_isSoMuch_2 : decode cX7_isSoMuch 25 = .ok (.iconst 1, 1) ∧ decode cX7_isSoMuch 26 = .ok (.goto 4, 3) ∧ decode cX7_isSoMuch 29 = .ok (.iconst 0, 1) ∧ decode cX7_isSoMuch 30 = .ok (.istore 4, 2) ∧ decode cX7_isSoMuch 32 = .ok (.iconst 0, 1) ∧ decode cX7_isSoMuch 33 = .ok (.istore 5, 2) ∧ decode cX7_isSoMuch 35 = .ok (.iload 5, 2) ∧ decode cX7_isSoMuch 37 = .ok (.aload_n 0, 1) := by decide +kernel
theorem dX7_isSoMuch_25 : decode cX7_isSoMuch 25 = .ok (.iconst 1, 1) := dAX7_isSoMuch_2.1
theorem dX7_isSoMuch_26 : decode cX7_isSoMuch 26 = .ok (.goto 4, 3) := dAX7_isSoMuch_2.2.1
theorem dX7_isSoMuch_29 : decode cX7_isSoMuch 29 = .ok (.iconst 0, 1) := dAX7_isSoMuch_2.2.2.1
theorem dX7_isSoMuch_30 : decode cX7_isSoMuch 30 = .ok (.istore 4, 2) := dAX7_isSoMuch_2.2.2.2.1
theorem dX7_isSoMuch_32 : decode cX7_isSoMuch 32 = .ok (.iconst 0, 1) := dAX7_isSoMuch_2.2.2.2.2.1
theorem dX7_isSoMuch_33 : decode cX7_isSoMuch 33 = .ok (.istore 5, 2) := dAX7_isSoMuch_2.2.2.2.2.2.1
theorem dX7_isSoMuch_35 : decode cX7_isSoMuch 35 = .ok (.iload 5, 2) := dAX7_isSoMuch_2.2.2.2.2.2.2.1
theorem dX7_isSoMuch_37 : decode cX7_isSoMuch 37 = .ok (.aload_n 0, 1) := dAX7_isSoMuch_2.2.2.2.2.2.2.2
set_option maxRecDepth 100000 in
theorem dAX7_isSoMuch_3 : decode cX7_isSoMuch 38 = .ok (.getfield 20, 3) ∧ decode cX7_isSoMuch 41 = .ok (.bipush 27, 2) ∧ decode cX7_isSoMuch 43 = .ok (.iload_n 1, 1) ∧ decode cX7_isSoMuch 44 = .ok (.iadd, 1) ∧ decode cX7_isSoMuch 45 = .ok (.iaload, 1) ∧ decode cX7_isSoMuch 46 = .ok (.if_icmp .ge 33, 3) ∧ decode cX7_isSoMuch 49 = .ok (.aload_n 0, 1) ∧ decode cX7_isSoMuch 50 = .ok (.aload_n 0, 1) := by decide +kernel
theorem dX7_isSoMuch_38 : decode cX7_isSoMuch 38 = .ok (.getfield 20, 3) := dAX7_isSoMuch_3.1
theorem dX7_isSoMuch_41 : decode cX7_isSoMuch 41 = .ok (.bipush 27, 2) := dAX7_isSoMuch_3.2.1
theorem dX7_isSoMuch_43 : decode cX7_isSoMuch 43 = .ok (.iload_n 1, 1) := dAX7_isSoMuch_3.2.2.1
theorem dX7_isSoMuch_44 : decode cX7_isSoMuch 44 = .ok (.iadd, 1) := dAX7_isSoMuch_3.2.2.2.1
theorem dX7_isSoMuch_45 : decode cX7_isSoMuch 45 = .ok (.iaload, 1) := dAX7_isSoMuch_3.2.2.2.2.1
theorem dX7_isSoMuch_46 : decode cX7_isSoMuch 46 = .ok (.if_icmp .ge 33, 3) := dAX7_isSoMuch_3.2.2.2.2.2.1
theorem dX7_isSoMuch_49 : decode cX7_isSoMuch 49 = .ok (.aload_n 0, 1) := dAX7_isSoMuch_3.2.2.2.2.2.2.1
theorem dX7_isSoMuch_50 : decode cX7_isSoMuch 50 = .ok (.aload_n 0, 1) := dAX7_isSoMuch_3.2.2.2.2.2.2.2
set_option maxRecDepth 100000 in
theorem dAX7_isSoMuch_4 : decode cX7_isSoMuch 51 = .ok (.getfield 32, 3) ∧ decode cX7_isSoMuch 54 = .ok (.iconst 4, 1) ∧ decode cX7_isSoMuch 55 = .ok (.iload_n 1, 1) ∧ decode cX7_isSoMuch 56 = .ok (.imul, 1) ∧ decode cX7_isSoMuch 57 = .ok (.iload 5, 2) ∧ decode cX7_isSoMuch 59 = .ok (.iadd, 1) ∧ decode cX7_isSoMuch 60 = .ok (.iaload, 1) ∧ decode cX7_isSoMuch 61 = .ok (.iload_n 2, 1) := by decide +kernel
theorem dX7_isSoMuch_51 : decode cX7_isSoMuch 51 = .ok (.getfield 32, 3) := dAX7_isSoMuch_4.1
theorem dX7_isSoMuch_54 : decode cX7_isSoMuch 54 = .ok (.iconst 4, 1) := dAX7_isSoMuch_4.2.1
theorem dX7_isSoMuch_55 : decode cX7_isSoMuch 55 = .ok (.iload_n 1, 1) := dAX7_isSoMuch_4.2.2.1
theorem dX7_isSoMuch_56 : decode cX7_isSoMuch 56 = .ok (.imul, 1) := dAX7_isSoMuch_4.2.2.2.1
theorem dX7_isSoMuch_57 : decode cX7_isSoMuch 57 = .ok (.iload 5, 2) := dAX7_isSoMuch_4.2.2.2.2.1
theorem dX7_isSoMuch_59 : decode cX7_isSoMuch 59 = .ok (.iadd, 1) := dAX7_isSoMuch_4.2.2.2.2.2.1
theorem dX7_isSoMuch_60 : decode cX7_isSoMuch 60 = .ok (.iaload, 1) := dAX7_isSoMuch_4.2.2.2.2.2.2.1
theorem dX7_isSoMuch_61 : decode cX7_isSoMuch 61 = .ok (.iload_n 2, 1) := dAX7_isSoMuch_4.2.2.2.2.2.2.2
set_option maxRecDepth 100000 in
theorem dAX7_isSoMuch_5 : decode cX7_isSoMuch 62 = .ok (.invokevirtual 303, 3) ∧ decode cX7_isSoMuch 65 = .ok (.iload 4, 2) ∧ decode cX7_isSoMuch 67 = .ok (.if_icmp .ne 6, 3) ∧ decode cX7_isSoMuch 70 = .ok (.iload 4, 2) ∧ decode cX7_isSoMuch 72 = .ok (.ireturn, 1) ∧ decode cX7_isSoMuch 73 = .ok (.iinc 5 1, 3) ∧ decode cX7_isSoMuch 76 = .ok (.goto (-41), 3) ∧ decode cX7_isSoMuch 79 = .ok (.iload 4, 2) := by decide +kernel
theorem dX7_isSoMuch_62 : decode cX7_isSoMuch 62 = .ok (.invokevirtual 303, 3) := dAX7_isSoMuch_5.1
theorem dX7_isSoMuch_65 : decode cX7_isSoMuch 65 = .ok (.iload 4, 2) := dAX7_isSoMuch_5.2.1
theorem dX7_isSoMuch_67 : decode cX7_isSoMuch 67 = .ok (.if_icmp .ne 6, 3) := dAX7_isSoMuch_5.2.2.1
theorem dX7_isSoMuch_70 : decode cX7_isSoMuch 70 = .ok (.iload 4, 2) := dAX7_isSoMuch_5.2.2.2.1
theorem dX7_isSoMuch_72 : decode cX7_isSoMuch 72 = .ok (.ireturn, 1) := dAX7_isSoMuch_5.2.2.2.2.1
theorem dX7_isSoMuch_73 : decode cX7_isSoMuch 73 = .ok (.iinc 5 1, 3) := dAX7_isSoMuch_5.2.2.2.2.2.1
theorem dX7_isSoMuch_76 : decode cX7_isSoMuch 76 = .ok (.goto (-41), 3) := dAX7_isSoMuch_5.2.2.2.2.2.2.1
theorem dX7_isSoMuch_79 : decode cX7_isSoMuch 79 = .ok (.iload 4, 2) := dAX7_isSoMuch_5.2.2.2.2.2.2.2
set_option maxRecDepth 100000 in
theorem dAX7_isSoMuch_6 : decode cX7_isSoMuch 81 = .ok (.ifCond .ne 7, 3) ∧ decode cX7_isSoMuch 84 = .ok (.iconst 1, 1) ∧ decode cX7_isSoMuch 85 = .ok (.goto 4, 3) ∧ decode cX7_isSoMuch 88 = .ok (.iconst 0, 1) ∧ decode cX7_isSoMuch 89 = .ok (.ireturn, 1) ∧ decode cX7_isSoMuch 90 = .ok (.aload_n 0, 1) ∧ decode cX7_isSoMuch 91 = .ok (.aload_n 0, 1) ∧ decode cX7_isSoMuch 92 = .ok (.getfield 32, 3) := by decide +kernel
theorem dX7_isSoMuch_81 : decode cX7_isSoMuch 81 = .ok (.ifCond .ne 7, 3) := dAX7_isSoMuch_6.1
theorem dX7_isSoMuch_84 : decode cX7_isSoMuch 84 = .ok (.iconst 1, 1) := dAX7_isSoMuch_6.2.1
theorem dX7_isSoMuch_85 : decode cX7_isSoMuch 85 = .ok (.goto 4, 3) := dAX7_isSoMuch_6.2.2.1
theorem dX7_isSoMuch_88 : decode cX7_isSoMuch 88 = .ok (.iconst 0, 1) := dAX7_isSoMuch_6.2.2.2.1
theorem dX7_isSoMuch_89 : decode cX7_isSoMuch 89 = .ok (.ireturn, 1) := dAX7_isSoMuch_6.2.2.2.2.1
theorem dX7_isSoMuch_90 : decode cX7_isSoMuch 90 = .ok (.aload_n 0, 1) := dAX7_isSoMuch_6.2.2.2.2.2.1
theorem dX7_isSoMuch_91 : decode cX7_isSoMuch 91 = .ok (.aload_n 0, 1) := dAX7_isSoMuch_6.2.2.2.2.2.2.1
theorem dX7_isSoMuch_92 : decode cX7_isSoMuch 92 = .ok (.getfield 32, 3) := dAX7_isSoMuch_6.2.2.2.2.2.2.2
set_option maxRecDepth 100000 in
theorem dAX7_isSoMuch_7 : decode cX7_isSoMuch 95 = .ok (.iload_n 1, 1) ∧ decode cX7_isSoMuch 96 = .ok (.ldc 246, 2) ∧ decode cX7_isSoMuch 98 = .ok (.ldc 245, 2) ∧ decode cX7_isSoMuch 100 = .ok (.invokevirtual 261, 3) ∧ decode cX7_isSoMuch 103 = .ok (.iload_n 2, 1) ∧ decode cX7_isSoMuch 104 = .ok (.aload_n 0, 1) ∧ decode cX7_isSoMuch 105 = .ok (.getfield 44, 3) ∧ decode cX7_isSoMuch 108 = .ok (.imul, 1) := by decide +kernel
theorem dX7_isSoMuch_95 : decode cX7_isSoMuch 95 = .ok (.iload_n 1, 1) := dAX7_isSoMuch_7.1
theorem dX7_isSoMuch_96 : decode cX7_isSoMuch 96 = .ok (.ldc 246, 2) := dAX7_isSoMuch_7.2.1
theorem dX7_isSoMuch_98 : decode cX7_isSoMuch 98 = .ok (.ldc 245, 2) := dAX7_isSoMuch_7.2.2.1
theorem dX7_isSoMuch_100 : decode cX7_isSoMuch 100 = .ok (.invokevirtual 261, 3) := dAX7_isSoMuch_7.2.2.2.1
theorem dX7_isSoMuch_103 : decode cX7_isSoMuch 103 = .ok (.iload_n 2, 1) := dAX7_isSoMuch_7.2.2.2.2.1
theorem dX7_isSoMuch_104 : decode cX7_isSoMuch 104 = .ok (.aload_n 0, 1) := dAX7_isSoMuch_7.2.2.2.2.2.1
theorem dX7_isSoMuch_105 : decode cX7_isSoMuch 105 = .ok (.getfield 44, 3) := dAX7_isSoMuch_7.2.2.2.2.2.2.1
theorem dX7_isSoMuch_108 : decode cX7_isSoMuch 108 = .ok (.imul, 1) := dAX7_isSoMuch_7.2.2.2.2.2.2.2
set_option maxRecDepth 100000 in
theorem dAX7_isSoMuch_8 : decode cX7_isSoMuch 109 = .ok (.if_icmp .lt 7, 3) ∧ decode cX7_isSoMuch 112 = .ok (.iconst 1, 1) ∧ decode cX7_isSoMuch 113 = .ok (.goto 4, 3) ∧ decode cX7_isSoMuch 116 = .ok (.iconst 0, 1) ∧ decode cX7_isSoMuch 117 = .ok (.ireturn, 1) := by decide +kernel
theorem dX7_isSoMuch_109 : decode cX7_isSoMuch 109 = .ok (.if_icmp .lt 7, 3) := dAX7_isSoMuch_8.1
theorem dX7_isSoMuch_112 : decode cX7_isSoMuch 112 = .ok (.iconst 1, 1) := dAX7_isSoMuch_8.2.1
theorem dX7_isSoMuch_113 : decode cX7_isSoMuch 113 = .ok (.goto 4, 3) := dAX7_isSoMuch_8.2.2.1
theorem dX7_isSoMuch_116 : decode cX7_isSoMuch 116 = .ok (.iconst 0, 1) := dAX7_isSoMuch_8.2.2.2.1
theorem dX7_isSoMuch_117 : decode cX7_isSoMuch 117 = .ok (.ireturn, 1) := dAX7_isSoMuch_8.2.2.2.2
set_option maxRecDepth 100000 in
theorem dAX7_isWord_0 : decode cX7_isWord 0 = .ok (.aload_n 0, 1) ∧ decode cX7_isWord 1 = .ok (.getfield 103, 3) ∧ decode cX7_isWord 4 = .ok (.ifCond .ne 22, 3) ∧ decode cX7_isWord 7 = .ok (.aload_n 0, 1) ∧ decode cX7_isWord 8 = .ok (.getfield 93, 3) ∧ decode cX7_isWord 11 = .ok (.iconst 2, 1) ∧ decode cX7_isWord 12 = .ok (.if_icmp .ne 14, 3) ∧ decode cX7_isWord 15 = .ok (.aload_n 0, 1) := by decide +kernel
theorem dX7_isWord_0 : decode cX7_isWord 0 = .ok (.aload_n 0, 1) := dAX7_isWord_0.1
theorem dX7_isWord_1 : decode cX7_isWord 1 = .ok (.getfield 103, 3) := dAX7_isWord_0.2.1
theorem dX7_isWord_4 : decode cX7_isWord 4 = .ok (.ifCond .ne 22, 3) := dAX7_isWord_0.2.2.1
theorem dX7_isWord_7 : decode cX7_isWord 7 = .ok (.aload_n 0, 1) := dAX7_isWord_0.2.2.2.1
theorem dX7_isWord_8 : decode cX7_isWord 8 = .ok (.getfield 93, 3) := dAX7_isWord_0.2.2.2.2.1
theorem dX7_isWord_11 : decode cX7_isWord 11 = .ok (.iconst 2, 1) := dAX7_isWord_0.2.2.2.2.2.1
theorem dX7_isWord_12 : decode cX7_isWord 12 = .ok (.if_icmp .ne 14, 3) := dAX7_isWord_0.2.2.2.2.2.2.1
theorem dX7_isWord_15 : decode cX7_isWord 15 = .ok (.aload_n 0, 1) := dAX7_isWord_0.2.2.2.2.2.2.2
set_option maxRecDepth 100000 in
theorem dAX7_isWord_1 : decode cX7_isWord 16 = .ok (.getfield 87, 3) ∧ decode cX7_isWord 19 = .ok (.aload_n 1, 1) ∧ decode cX7_isWord 20 = .ok (.invokevirtual 110, 3) ∧ decode cX7_isWord 23 = .ok (.if_icmp .eq 5, 3) ∧ decode cX7_isWord 26 = .ok (.iconst 0, 1) ∧ decode cX7_isWord 27 = .ok (.ireturn, 1) ∧ decode cX7_isWord 28 = .ok (.iconst 1, 1) ∧ decode cX7_isWord 29 = .ok (.istore_n 2, 1) := by decide +kernel
theorem dX7_isWord_16 : decode cX7_isWord 16 = .ok (.getfield 87, 3) := dAX7_isWord_1.1
theorem dX7_isWord_19 : decode cX7_isWord 19 = .ok (.aload_n 1, 1) := dAX7_isWord_1.2.1
theorem dX7_isWord_20 : decode cX7_isWord 20 = .ok (.invokevirtual 110, 3) := dAX7_isWord_1.2.2.1
theorem dX7_isWord_23 : decode cX7_isWord 23 = .ok (.if_icmp .eq 5, 3) := dAX7_isWord_1.2.2.2.1
theorem dX7_isWord_26 : decode cX7_isWord 26 = .ok (.iconst 0, 1) := dAX7_isWord_1.2.2.2.2.1
theorem dX7_isWord_27 : decode cX7_isWord 27 = .ok (.ireturn, 1) := dAX7_isWord_1.2.2.2.2.2.1
theorem dX7_isWord_28 : decode cX7_isWord 28 = .ok (.iconst 1, 1) := dAX7_isWord_1.2.2.2.2.2.2.1
theorem dX7_isWord_29 : decode cX7_isWord 29 = .ok (.istore_n 2, 1) := dAX7_isWord_1.2.2.2.2.2.2.2
set_option maxRecDepth 100000 in
theorem dAX7_isWord_2 : decode cX7_isWord 30 = .ok (.iconst 0, 1) ∧ decode cX7_isWord 31 = .ok (.istore_n 3, 1) ∧ decode cX7_isWord 32 = .ok (.iload_n 3, 1) ∧ decode cX7_isWord 33 = .ok (.aload_n 0, 1) ∧ decode cX7_isWord 34 = .ok (.getfield 87, 3) ∧ decode cX7_isWord 37 = .ok (.if_icmp .ge 33, 3) ∧ decode cX7_isWord 40 = .ok (.iload_n 2, 1) ∧ decode cX7_isWord 41 = .ok (.ifCond .eq 21, 3) := by decide +kernel
theorem dX7_isWord_30 : decode cX7_isWord 30 = .ok (.iconst 0, 1) := dAX7_isWord_2.1
theorem dX7_isWord_31 : decode cX7_isWord 31 = .ok (.istore_n 3, 1) := dAX7_isWord_2.2.1
theorem dX7_isWord_32 : decode cX7_isWord 32 = .ok (.iload_n 3, 1) := dAX7_isWord_2.2.2.1
theorem dX7_isWord_33 : decode cX7_isWord 33 = .ok (.aload_n 0, 1) := dAX7_isWord_2.2.2.2.1
theorem dX7_isWord_34 : decode cX7_isWord 34 = .ok (.getfield 87, 3) := dAX7_isWord_2.2.2.2.2.1
theorem dX7_isWord_37 : decode cX7_isWord 37 = .ok (.if_icmp .ge 33, 3) := dAX7_isWord_2.2.2.2.2.2.1
theorem dX7_isWord_40 : decode cX7_isWord 40 = .ok (.iload_n 2, 1) := dAX7_isWord_2.2.2.2.2.2.2.1
theorem dX7_isWord_41 : decode cX7_isWord 41 = .ok (.ifCond .eq 21, 3) := dAX7_isWord_2.2.2.2.2.2.2.2
set_option maxRecDepth 100000 in
theorem dAX7_isWord_3 : decode cX7_isWord 44 = .ok (.aload_n 0, 1) ∧ decode cX7_isWord 45 = .ok (.getfield 17, 3) ∧ decode cX7_isWord 48 = .ok (.iload_n 3, 1) ∧ decode cX7_isWord 49 = .ok (.iaload, 1) ∧ decode cX7_isWord 50 = .ok (.aload_n 1, 1) ∧ decode cX7_isWord 51 = .ok (.iload_n 3, 1) ∧ decode cX7_isWord 52 = .ok (.invokevirtual 116, 3) ∧ decode cX7_isWord 55 = .ok (.if_icmp .ne 7, 3) := by decide +kernel
theorem dX7_isWord_44 : decode cX7_isWord 44 = .ok (.aload_n 0, 1) := dAX7_isWord_3.1
theorem dX7_isWord_45 : decode cX7_isWord 45 = .ok (.getfield 17, 3) := dAX7_isWord_3.2.1
theorem dX7_isWord_48 : decode cX7_isWord 48 = .ok (.iload_n 3, 1) := dAX7_isWord_3.2.2.1
theorem dX7_isWord_49 : decode cX7_isWord 49 = .ok (.iaload, 1) := dAX7_isWord_3.2.2.2.1
theorem dX7_isWord_50 : decode cX7_isWord 50 = .ok (.aload_n 1, 1) := dAX7_isWord_3.2.2.2.2.1
theorem dX7_isWord_51 : decode cX7_isWord 51 = .ok (.iload_n 3, 1) := dAX7_isWord_3.2.2.2.2.2.1
theorem dX7_isWord_52 : decode cX7_isWord 52 = .ok (.invokevirtual 116, 3) := dAX7_isWord_3.2.2.2.2.2.2.1
theorem dX7_isWord_55 : decode cX7_isWord 55 = .ok (.if_icmp .ne 7, 3) := dAX7_isWord_3.2.2.2.2.2.2.2
set_option maxRecDepth 100000 in
theorem dAX7_isWord_4 : decode cX7_isWord 58 = .ok (.iconst 1, 1) ∧ decode cX7_isWord 59 = .ok (.goto 4, 3) ∧ decode cX7_isWord 62 = .ok (.iconst 0, 1) ∧ decode cX7_isWord 63 = .ok (.istore_n 2, 1) ∧ decode cX7_isWord 64 = .ok (.iinc 3 1, 3) ∧ decode cX7_isWord 67 = .ok (.goto (-35), 3) ∧ decode cX7_isWord 70 = .ok (.iload_n 2, 1) ∧ decode cX7_isWord 71 = .ok (.ireturn, 1) := by decide +kernel
theorem dX7_isWord_58 : decode cX7_isWord 58 = .ok (.iconst 1, 1) := dAX7_isWord_4.1
theorem dX7_isWord_59 : decode cX7_isWord 59 = .ok (.goto 4, 3) := dAX7_isWord_4.2.1
theorem dX7_isWord_62 : decode cX7_isWord 62 = .ok (.iconst 0, 1) := dAX7_isWord_4.2.2.1
theorem dX7_isWord_63 : decode cX7_isWord 63 = .ok (.istore_n 2, 1) := dAX7_isWord_4.2.2.2.1
theorem dX7_isWord_64 : decode cX7_isWord 64 = .ok (.iinc 3 1, 3) := dAX7_isWord_4.2.2.2.2.1
theorem dX7_isWord_67 : decode cX7_isWord 67 = .ok (.goto (-35), 3) := dAX7_isWord_4.2.2.2.2.2.1
theorem dX7_isWord_70 : decode cX7_isWord 70 = .ok (.iload_n 2, 1) := dAX7_isWord_4.2.2.2.2.2.2.1
theorem dX7_isWord_71 : decode cX7_isWord 71 = .ok (.ireturn, 1) := dAX7_isWord_4.2.2.2.2.2.2.2
set_option maxRecDepth 100000 in
theorem dAX7_isWordNode_0 : decode cX7_isWordNode 0 = .ok (.aload_n 0, 1) ∧ decode cX7_isWordNode 1 = .ok (.iload_n 1, 1) ∧ decode cX7_isWordNode 2 = .ok (.invokevirtual 242, 3) ∧ decode cX7_isWordNode 5 = .ok (.ifCond .eq 19, 3) ∧ decode cX7_isWordNode 8 = .ok (.aload_n 0, 1) ∧ decode cX7_isWordNode 9 = .ok (.getfield 20, 3) ∧ decode cX7_isWordNode 12 = .ok (.bipush 9, 2) ∧ decode cX7_isWordNode 14 = .ok (.iload_n 1, 1) := by decide +kernel
theorem dX7_isWordNode_0 : decode cX7_isWordNode 0 = .ok (.aload_n 0, 1) := dAX7_isWordNode_0.1
theorem dX7_isWordNode_1 : decode cX7_isWordNode 1 = .ok (.iload_n 1, 1) := dAX7_isWordNode_0.2.1
theorem dX7_isWordNode_2 : decode cX7_isWordNode 2 = .ok (.invokevirtual 242, 3) := dAX7_isWordNode_0.2.2.1
theorem dX7_isWordNode_5 : decode cX7_isWordNode 5 = .ok (.ifCond .eq 19, 3) := dAX7_isWordNode_0.2.2.2.1
theorem dX7_isWordNode_8 : decode cX7_isWordNode 8 = .ok (.aload_n 0, 1) := dAX7_isWordNode_0.2.2.2.2.1
theorem dX7_isWordNode_9 : decode cX7_isWordNode 9 = .ok (.getfield 20, 3) := dAX7_isWordNode_0.2.2.2.2.2.1
theorem dX7_isWordNode_12 : decode cX7_isWordNode 12 = .ok (.bipush 9, 2) := dAX7_isWordNode_0.2.2.2.2.2.2.1
theorem dX7_isWordNode_14 : decode cX7_isWordNode 14 = .ok (.iload_n 1, 1) := dAX7_isWordNode_0.2.2.2.2.2.2.2
set_option maxRecDepth 100000 in
theorem dAX7_isWordNode_1 : decode cX7_isWordNode 15 = .ok (.iadd, 1) ∧ decode cX7_isWordNode 16 = .ok (.iaload, 1) ∧ decode cX7_isWordNode 17 = .ok (.ifCond .ne 7, 3) ∧ decode cX7_isWordNode 20 = .ok (.iconst 1, 1) ∧ decode cX7_isWordNode 21 = .ok (.goto 4, 3) ∧ decode cX7_isWordNode 24 = .ok (.iconst 0, 1) ∧ decode cX7_isWordNode 25 = .ok (.ireturn, 1) := by decide +kernel
theorem dX7_isWordNode_15 : decode cX7_isWordNode 15 = .ok (.iadd, 1) := dAX7_isWordNode_1.1
theorem dX7_isWordNode_16 : decode cX7_isWordNode 16 = .ok (.iaload, 1) := dAX7_isWordNode_1.2.1
theorem dX7_isWordNode_17 : decode cX7_isWordNode 17 = .ok (.ifCond .ne 7, 3) := dAX7_isWordNode_1.2.2.1
theorem dX7_isWordNode_20 : decode cX7_isWordNode 20 = .ok (.iconst 1, 1) := dAX7_isWordNode_1.2.2.2.1
theorem dX7_isWordNode_21 : decode cX7_isWordNode 21 = .ok (.goto 4, 3) := dAX7_isWordNode_1.2.2.2.2.1
theorem dX7_isWordNode_24 : decode cX7_isWordNode 24 = .ok (.iconst 0, 1) := dAX7_isWordNode_1.2.2.2.2.2.1
theorem dX7_isWordNode_25 : decode cX7_isWordNode 25 = .ok (.ireturn, 1) := dAX7_isWordNode_1.2.2.2.2.2.2
set_option maxRecDepth 100000 in
theorem dAX7_lay_0 : decode cX7_lay 0 = .ok (.aload_n 0, 1) ∧ decode cX7_lay 1 = .ok (.getfield 103, 3) ∧ decode cX7_lay 4 = .ok (.ifCond .eq 4, 3) ∧ decode cX7_lay 7 = .ok (.return_, 1) ∧ decode cX7_lay 8 = .ok (.aload_n 0, 1) ∧ decode cX7_lay 9 = .ok (.getfield 23, 3) ∧ decode cX7_lay 12 = .ok (.iconst 1, 1) ∧ decode cX7_lay 13 = .ok (.iaload, 1) := by decide +kernel
theorem dX7_lay_0 : decode cX7_lay 0 = .ok (.aload_n 0, 1) := dAX7_lay_0.1
theorem dX7_lay_1 : decode cX7_lay 1 = .ok (.getfield 103, 3) := dAX7_lay_0.2.1
theorem dX7_lay_4 : decode cX7_lay 4 = .ok (.ifCond .eq 4, 3) := dAX7_lay_0.2.2.1
theorem dX7_lay_7 : decode cX7_lay 7 = .ok (.return_, 1) := dAX7_lay_0.2.2.2.1
theorem dX7_lay_8 : decode cX7_lay 8 = .ok (.aload_n 0, 1) := dAX7_lay_0.2.2.2.2.1
theorem dX7_lay_9 : decode cX7_lay 9 = .ok (.getfield 23, 3) := dAX7_lay_0.2.2.2.2.2.1
theorem dX7_lay_12 : decode cX7_lay 12 = .ok (.iconst 1, 1) := dAX7_lay_0.2.2.2.2.2.2.1
theorem dX7_lay_13 : decode cX7_lay 13 = .ok (.iaload, 1) := dAX7_lay_0.2.2.2.2.2.2.2
set_option maxRecDepth 100000 in
theorem dAX7_lay_1 : decode cX7_lay 14 = .ok (.istore_n 2, 1) ∧ decode cX7_lay 15 = .ok (.aload_n 0, 1) ∧ decode cX7_lay 16 = .ok (.getfield 41, 3) ∧ decode cX7_lay 19 = .ok (.iconst 0, 1) ∧ decode cX7_lay 20 = .ok (.aload_n 0, 1) ∧ decode cX7_lay 21 = .ok (.getfield 23, 3) ∧ decode cX7_lay 24 = .ok (.sipush 143, 3) ∧ decode cX7_lay 27 = .ok (.bipush 8, 2) := by decide +kernel
theorem dX7_lay_14 : decode cX7_lay 14 = .ok (.istore_n 2, 1) := dAX7_lay_1.1
theorem dX7_lay_15 : decode cX7_lay 15 = .ok (.aload_n 0, 1) := dAX7_lay_1.2.1
theorem dX7_lay_16 : decode cX7_lay 16 = .ok (.getfield 41, 3) := dAX7_lay_1.2.2.1
theorem dX7_lay_19 : decode cX7_lay 19 = .ok (.iconst 0, 1) := dAX7_lay_1.2.2.2.1
theorem dX7_lay_20 : decode cX7_lay 20 = .ok (.aload_n 0, 1) := dAX7_lay_1.2.2.2.2.1
theorem dX7_lay_21 : decode cX7_lay 21 = .ok (.getfield 23, 3) := dAX7_lay_1.2.2.2.2.2.1
theorem dX7_lay_24 : decode cX7_lay 24 = .ok (.sipush 143, 3) := dAX7_lay_1.2.2.2.2.2.2.1
theorem dX7_lay_27 : decode cX7_lay 27 = .ok (.bipush 8, 2) := dAX7_lay_1.2.2.2.2.2.2.2
set_option maxRecDepth 100000 in
theorem dAX7_lay_2 : decode cX7_lay 29 = .ok (.iload_n 2, 1) ∧ decode cX7_lay 30 = .ok (.imul, 1) ∧ decode cX7_lay 31 = .ok (.iadd, 1) ∧ decode cX7_lay 32 = .ok (.bipush 8, 2) ∧ decode cX7_lay 34 = .ok (.invokestatic 156, 3) ∧ decode cX7_lay 37 = .ok (.aload_n 0, 1) ∧ decode cX7_lay 38 = .ok (.getfield 23, 3) ∧ decode cX7_lay 41 = .ok (.bipush 125, 2) := by decide +kernel
theorem dX7_lay_29 : decode cX7_lay 29 = .ok (.iload_n 2, 1) := dAX7_lay_2.1
theorem dX7_lay_30 : decode cX7_lay 30 = .ok (.imul, 1) := dAX7_lay_2.2.1
theorem dX7_lay_31 : decode cX7_lay 31 = .ok (.iadd, 1) := dAX7_lay_2.2.2.1
theorem dX7_lay_32 : decode cX7_lay 32 = .ok (.bipush 8, 2) := dAX7_lay_2.2.2.2.1
theorem dX7_lay_34 : decode cX7_lay 34 = .ok (.invokestatic 156, 3) := dAX7_lay_2.2.2.2.2.1
theorem dX7_lay_37 : decode cX7_lay 37 = .ok (.aload_n 0, 1) := dAX7_lay_2.2.2.2.2.2.1
theorem dX7_lay_38 : decode cX7_lay 38 = .ok (.getfield 23, 3) := dAX7_lay_2.2.2.2.2.2.2.1
theorem dX7_lay_41 : decode cX7_lay 41 = .ok (.bipush 125, 2) := dAX7_lay_2.2.2.2.2.2.2.2
set_option maxRecDepth 100000 in
theorem dAX7_lay_3 : decode cX7_lay 43 = .ok (.iload_n 2, 1) ∧ decode cX7_lay 44 = .ok (.iadd, 1) ∧ decode cX7_lay 45 = .ok (.aload_n 0, 1) ∧ decode cX7_lay 46 = .ok (.getfield 160, 3) ∧ decode cX7_lay 49 = .ok (.iastore, 1) ∧ decode cX7_lay 50 = .ok (.aload_n 0, 1) ∧ decode cX7_lay 51 = .ok (.getfield 23, 3) ∧ decode cX7_lay 54 = .ok (.bipush 9, 2) := by decide +kernel
theorem dX7_lay_43 : decode cX7_lay 43 = .ok (.iload_n 2, 1) := dAX7_lay_3.1
theorem dX7_lay_44 : decode cX7_lay 44 = .ok (.iadd, 1) := dAX7_lay_3.2.1
theorem dX7_lay_45 : decode cX7_lay 45 = .ok (.aload_n 0, 1) := dAX7_lay_3.2.2.1
theorem dX7_lay_46 : decode cX7_lay 46 = .ok (.getfield 160, 3) := dAX7_lay_3.2.2.2.1
theorem dX7_lay_49 : decode cX7_lay 49 = .ok (.iastore, 1) := dAX7_lay_3.2.2.2.2.1
theorem dX7_lay_50 : decode cX7_lay 50 = .ok (.aload_n 0, 1) := dAX7_lay_3.2.2.2.2.2.1
theorem dX7_lay_51 : decode cX7_lay 51 = .ok (.getfield 23, 3) := dAX7_lay_3.2.2.2.2.2.2.1
theorem dX7_lay_54 : decode cX7_lay 54 = .ok (.bipush 9, 2) := dAX7_lay_3.2.2.2.2.2.2.2
set_option maxRecDepth 100000 in
theorem dAX7_lay_4 : decode cX7_lay 56 = .ok (.iload_n 2, 1) ∧ decode cX7_lay 57 = .ok (.iadd, 1) ∧ decode cX7_lay 58 = .ok (.iload_n 1, 1) ∧ decode cX7_lay 59 = .ok (.iastore, 1) ∧ decode cX7_lay 60 = .ok (.aload_n 0, 1) ∧ decode cX7_lay 61 = .ok (.getfield 23, 3) ∧ decode cX7_lay 64 = .ok (.iconst 1, 1) ∧ decode cX7_lay 65 = .ok (.dup2, 1) := by decide +kernel
theorem dX7_lay_56 : decode cX7_lay 56 = .ok (.iload_n 2, 1) := dAX7_lay_4.1
theorem dX7_lay_57 : decode cX7_lay 57 = .ok (.iadd, 1) := dAX7_lay_4.2.1
theorem dX7_lay_58 : decode cX7_lay 58 = .ok (.iload_n 1, 1) := dAX7_lay_4.2.2.1
theorem dX7_lay_59 : decode cX7_lay 59 = .ok (.iastore, 1) := dAX7_lay_4.2.2.2.1
theorem dX7_lay_60 : decode cX7_lay 60 = .ok (.aload_n 0, 1) := dAX7_lay_4.2.2.2.2.1
theorem dX7_lay_61 : decode cX7_lay 61 = .ok (.getfield 23, 3) := dAX7_lay_4.2.2.2.2.2.1
theorem dX7_lay_64 : decode cX7_lay 64 = .ok (.iconst 1, 1) := dAX7_lay_4.2.2.2.2.2.2.1
theorem dX7_lay_65 : decode cX7_lay 65 = .ok (.dup2, 1) := dAX7_lay_4.2.2.2.2.2.2.2
set_option maxRecDepth 100000 in
theorem dAX7_lay_5 : decode cX7_lay 66 = .ok (.iaload, 1) ∧ decode cX7_lay 67 = .ok (.iconst 1, 1) ∧ decode cX7_lay 68 = .ok (.iadd, 1) ∧ decode cX7_lay 69 = .ok (.iastore, 1) ∧ decode cX7_lay 70 = .ok (.return_, 1) := by decide +kernel
theorem dX7_lay_66 : decode cX7_lay 66 = .ok (.iaload, 1) := dAX7_lay_5.1
theorem dX7_lay_67 : decode cX7_lay 67 = .ok (.iconst 1, 1) := dAX7_lay_5.2.1
theorem dX7_lay_68 : decode cX7_lay 68 = .ok (.iadd, 1) := dAX7_lay_5.2.2.1
theorem dX7_lay_69 : decode cX7_lay 69 = .ok (.iastore, 1) := dAX7_lay_5.2.2.2.1
theorem dX7_lay_70 : decode cX7_lay 70 = .ok (.return_, 1) := dAX7_lay_5.2.2.2.2
set_option maxRecDepth 100000 in
theorem dAX7_layScale_0 : decode cX7_layScale 0 = .ok (.aload_n 0, 1) ∧ decode cX7_layScale 1 = .ok (.iconst 1, 1) ∧ decode cX7_layScale 2 = .ok (.putfield 44, 3) ∧ decode cX7_layScale 5 = .ok (.iconst 0, 1) ∧ decode cX7_layScale 6 = .ok (.istore_n 1, 1) ∧ decode cX7_layScale 7 = .ok (.iload_n 1, 1) ∧ decode cX7_layScale 8 = .ok (.aload_n 0, 1) ∧ decode cX7_layScale 9 = .ok (.getfield 20, 3) := by decide +kernel
theorem dX7_layScale_0 : decode cX7_layScale 0 = .ok (.aload_n 0, 1) := dAX7_layScale_0.1
theorem dX7_layScale_1 : decode cX7_layScale 1 = .ok (.iconst 1, 1) := dAX7_layScale_0.2.1
theorem dX7_layScale_2 : decode cX7_layScale 2 = .ok (.putfield 44, 3) := dAX7_layScale_0.2.2.1
theorem dX7_layScale_5 : decode cX7_layScale 5 = .ok (.iconst 0, 1) := dAX7_layScale_0.2.2.2.1
theorem dX7_layScale_6 : decode cX7_layScale 6 = .ok (.istore_n 1, 1) := dAX7_layScale_0.2.2.2.2.1
theorem dX7_layScale_7 : decode cX7_layScale 7 = .ok (.iload_n 1, 1) := dAX7_layScale_0.2.2.2.2.2.1
theorem dX7_layScale_8 : decode cX7_layScale 8 = .ok (.aload_n 0, 1) := dAX7_layScale_0.2.2.2.2.2.2.1
theorem dX7_layScale_9 : decode cX7_layScale 9 = .ok (.getfield 20, 3) := dAX7_layScale_0.2.2.2.2.2.2.2
set_option maxRecDepth 100000 in
theorem dAX7_layScale_1 : decode cX7_layScale 12 = .ok (.iconst 1, 1) ∧ decode cX7_layScale 13 = .ok (.iaload, 1) ∧ decode cX7_layScale 14 = .ok (.if_icmp .ge 36, 3) ∧ decode cX7_layScale 17 = .ok (.aload_n 0, 1) ∧ decode cX7_layScale 18 = .ok (.getfield 20, 3) ∧ decode cX7_layScale 21 = .ok (.bipush 9, 2) ∧ decode cX7_layScale 23 = .ok (.iload_n 1, 1) ∧ decode cX7_layScale 24 = .ok (.iadd, 1) := by decide +kernel
theorem dX7_layScale_12 : decode cX7_layScale 12 = .ok (.iconst 1, 1) := dAX7_layScale_1.1
theorem dX7_layScale_13 : decode cX7_layScale 13 = .ok (.iaload, 1) := dAX7_layScale_1.2.1
theorem dX7_layScale_14 : decode cX7_layScale 14 = .ok (.if_icmp .ge 36, 3) := dAX7_layScale_1.2.2.1
theorem dX7_layScale_17 : decode cX7_layScale 17 = .ok (.aload_n 0, 1) := dAX7_layScale_1.2.2.2.1
theorem dX7_layScale_18 : decode cX7_layScale 18 = .ok (.getfield 20, 3) := dAX7_layScale_1.2.2.2.2.1
theorem dX7_layScale_21 : decode cX7_layScale 21 = .ok (.bipush 9, 2) := dAX7_layScale_1.2.2.2.2.2.1
theorem dX7_layScale_23 : decode cX7_layScale 23 = .ok (.iload_n 1, 1) := dAX7_layScale_1.2.2.2.2.2.2.1
theorem dX7_layScale_24 : decode cX7_layScale 24 = .ok (.iadd, 1) := dAX7_layScale_1.2.2.2.2.2.2.2
set_option maxRecDepth 100000 in
theorem dAX7_layScale_2 : decode cX7_layScale 25 = .ok (.iaload, 1) ∧ decode cX7_layScale 26 = .ok (.iconst 3, 1) ∧ decode cX7_layScale 27 = .ok (.if_icmp .ne 17, 3) ∧ decode cX7_layScale 30 = .ok (.aload_n 0, 1) ∧ decode cX7_layScale 31 = .ok (.dup, 1) ∧ decode cX7_layScale 32 = .ok (.getfield 44, 3) ∧ decode cX7_layScale 35 = .ok (.aload_n 0, 1) ∧ decode cX7_layScale 36 = .ok (.iload_n 1, 1) := by decide +kernel
theorem dX7_layScale_25 : decode cX7_layScale 25 = .ok (.iaload, 1) := dAX7_layScale_2.1
theorem dX7_layScale_26 : decode cX7_layScale 26 = .ok (.iconst 3, 1) := dAX7_layScale_2.2.1
theorem dX7_layScale_27 : decode cX7_layScale 27 = .ok (.if_icmp .ne 17, 3) := dAX7_layScale_2.2.2.1
theorem dX7_layScale_30 : decode cX7_layScale 30 = .ok (.aload_n 0, 1) := dAX7_layScale_2.2.2.2.1
theorem dX7_layScale_31 : decode cX7_layScale 31 = .ok (.dup, 1) := dAX7_layScale_2.2.2.2.2.1
theorem dX7_layScale_32 : decode cX7_layScale 32 = .ok (.getfield 44, 3) := dAX7_layScale_2.2.2.2.2.2.1
theorem dX7_layScale_35 : decode cX7_layScale 35 = .ok (.aload_n 0, 1) := dAX7_layScale_2.2.2.2.2.2.2.1
theorem dX7_layScale_36 : decode cX7_layScale 36 = .ok (.iload_n 1, 1) := dAX7_layScale_2.2.2.2.2.2.2.2
set_option maxRecDepth 100000 in
theorem dAX7_layScale_3 : decode cX7_layScale 37 = .ok (.invokevirtual 239, 3) ∧ decode cX7_layScale 40 = .ok (.imul, 1) ∧ decode cX7_layScale 41 = .ok (.putfield 44, 3) ∧ decode cX7_layScale 44 = .ok (.iinc 1 1, 3) ∧ decode cX7_layScale 47 = .ok (.goto (-40), 3) ∧ decode cX7_layScale 50 = .ok (.return_, 1) := by decide +kernel
theorem dX7_layScale_37 : decode cX7_layScale 37 = .ok (.invokevirtual 239, 3) := dAX7_layScale_3.1
theorem dX7_layScale_40 : decode cX7_layScale 40 = .ok (.imul, 1) := dAX7_layScale_3.2.1
theorem dX7_layScale_41 : decode cX7_layScale 41 = .ok (.putfield 44, 3) := dAX7_layScale_3.2.2.1
theorem dX7_layScale_44 : decode cX7_layScale 44 = .ok (.iinc 1 1, 3) := dAX7_layScale_3.2.2.2.1
theorem dX7_layScale_47 : decode cX7_layScale 47 = .ok (.goto (-40), 3) := dAX7_layScale_3.2.2.2.2.1
theorem dX7_layScale_50 : decode cX7_layScale 50 = .ok (.return_, 1) := dAX7_layScale_3.2.2.2.2.2
set_option maxRecDepth 100000 in
theorem dAX7_leavesOf_0 : decode cX7_leavesOf 0 = .ok (.aload_n 0, 1) ∧ decode cX7_leavesOf 1 = .ok (.getfield 62, 3) ∧ decode cX7_leavesOf 4 = .ok (.iload_n 1, 1) ∧ decode cX7_leavesOf 5 = .ok (.iaload, 1) ∧ decode cX7_leavesOf 6 = .ok (.aload_n 0, 1) ∧ decode cX7_leavesOf 7 = .ok (.getfield 377, 3) ∧ decode cX7_leavesOf 10 = .ok (.aload_n 0, 1) ∧ decode cX7_leavesOf 11 = .ok (.getfield 62, 3) := by decide +kernel
theorem dX7_leavesOf_0 : decode cX7_leavesOf 0 = .ok (.aload_n 0, 1) := dAX7_leavesOf_0.1
theorem dX7_leavesOf_1 : decode cX7_leavesOf 1 = .ok (.getfield 62, 3) := dAX7_leavesOf_0.2.1
theorem dX7_leavesOf_4 : decode cX7_leavesOf 4 = .ok (.iload_n 1, 1) := dAX7_leavesOf_0.2.2.1
theorem dX7_leavesOf_5 : decode cX7_leavesOf 5 = .ok (.iaload, 1) := dAX7_leavesOf_0.2.2.2.1
theorem dX7_leavesOf_6 : decode cX7_leavesOf 6 = .ok (.aload_n 0, 1) := dAX7_leavesOf_0.2.2.2.2.1
theorem dX7_leavesOf_7 : decode cX7_leavesOf 7 = .ok (.getfield 377, 3) := dAX7_leavesOf_0.2.2.2.2.2.1
theorem dX7_leavesOf_10 : decode cX7_leavesOf 10 = .ok (.aload_n 0, 1) := dAX7_leavesOf_0.2.2.2.2.2.2.1
theorem dX7_leavesOf_11 : decode cX7_leavesOf 11 = .ok (.getfield 62, 3) := dAX7_leavesOf_0.2.2.2.2.2.2.2
set_option maxRecDepth 100000 in
theorem dAX7_leavesOf_1 : decode cX7_leavesOf 14 = .ok (.iload_n 1, 1) ∧ decode cX7_leavesOf 15 = .ok (.iaload, 1) ∧ decode cX7_leavesOf 16 = .ok (.isub, 1) ∧ decode cX7_leavesOf 17 = .ok (.if_icmp .le 12, 3) ∧ decode cX7_leavesOf 20 = .ok (.aload_n 0, 1) ∧ decode cX7_leavesOf 21 = .ok (.getfield 62, 3) ∧ decode cX7_leavesOf 24 = .ok (.iload_n 1, 1) ∧ decode cX7_leavesOf 25 = .ok (.iaload, 1) := by decide +kernel
theorem dX7_leavesOf_14 : decode cX7_leavesOf 14 = .ok (.iload_n 1, 1) := dAX7_leavesOf_1.1
theorem dX7_leavesOf_15 : decode cX7_leavesOf 15 = .ok (.iaload, 1) := dAX7_leavesOf_1.2.1
theorem dX7_leavesOf_16 : decode cX7_leavesOf 16 = .ok (.isub, 1) := dAX7_leavesOf_1.2.2.1
theorem dX7_leavesOf_17 : decode cX7_leavesOf 17 = .ok (.if_icmp .le 12, 3) := dAX7_leavesOf_1.2.2.2.1
theorem dX7_leavesOf_20 : decode cX7_leavesOf 20 = .ok (.aload_n 0, 1) := dAX7_leavesOf_1.2.2.2.2.1
theorem dX7_leavesOf_21 : decode cX7_leavesOf 21 = .ok (.getfield 62, 3) := dAX7_leavesOf_1.2.2.2.2.2.1
theorem dX7_leavesOf_24 : decode cX7_leavesOf 24 = .ok (.iload_n 1, 1) := dAX7_leavesOf_1.2.2.2.2.2.2.1
theorem dX7_leavesOf_25 : decode cX7_leavesOf 25 = .ok (.iaload, 1) := dAX7_leavesOf_1.2.2.2.2.2.2.2
set_option maxRecDepth 100000 in
theorem dAX7_leavesOf_2 : decode cX7_leavesOf 26 = .ok (.goto 14, 3) ∧ decode cX7_leavesOf 29 = .ok (.aload_n 0, 1) ∧ decode cX7_leavesOf 30 = .ok (.getfield 377, 3) ∧ decode cX7_leavesOf 33 = .ok (.aload_n 0, 1) ∧ decode cX7_leavesOf 34 = .ok (.getfield 62, 3) ∧ decode cX7_leavesOf 37 = .ok (.iload_n 1, 1) ∧ decode cX7_leavesOf 38 = .ok (.iaload, 1) ∧ decode cX7_leavesOf 39 = .ok (.isub, 1) := by decide +kernel
theorem dX7_leavesOf_26 : decode cX7_leavesOf 26 = .ok (.goto 14, 3) := dAX7_leavesOf_2.1
theorem dX7_leavesOf_29 : decode cX7_leavesOf 29 = .ok (.aload_n 0, 1) := dAX7_leavesOf_2.2.1
theorem dX7_leavesOf_30 : decode cX7_leavesOf 30 = .ok (.getfield 377, 3) := dAX7_leavesOf_2.2.2.1
theorem dX7_leavesOf_33 : decode cX7_leavesOf 33 = .ok (.aload_n 0, 1) := dAX7_leavesOf_2.2.2.2.1
theorem dX7_leavesOf_34 : decode cX7_leavesOf 34 = .ok (.getfield 62, 3) := dAX7_leavesOf_2.2.2.2.2.1
theorem dX7_leavesOf_37 : decode cX7_leavesOf 37 = .ok (.iload_n 1, 1) := dAX7_leavesOf_2.2.2.2.2.2.1
theorem dX7_leavesOf_38 : decode cX7_leavesOf 38 = .ok (.iaload, 1) := dAX7_leavesOf_2.2.2.2.2.2.2.1
theorem dX7_leavesOf_39 : decode cX7_leavesOf 39 = .ok (.isub, 1) := dAX7_leavesOf_2.2.2.2.2.2.2.2
theorem dX7_leavesOf_40 : decode cX7_leavesOf 40 = .ok (.ireturn, 1) := by decide +kernel
set_option maxRecDepth 100000 in
theorem dAX7_led_0 : decode cX7_led 0 = .ok (.iconst 0, 1) ∧ decode cX7_led 1 = .ok (.istore_n 2, 1) ∧ decode cX7_led 2 = .ok (.aload_n 0, 1) ∧ decode cX7_led 3 = .ok (.getfield 187, 3) ∧ decode cX7_led 6 = .ok (.ifCond .eq 10, 3) ∧ decode cX7_led 9 = .ok (.aload_n 0, 1) ∧ decode cX7_led 10 = .ok (.invokevirtual 297, 3) ∧ decode cX7_led 13 = .ok (.goto 4, 3) := by decide +kernel
theorem dX7_led_0 : decode cX7_led 0 = .ok (.iconst 0, 1) := dAX7_led_0.1
theorem dX7_led_1 : decode cX7_led 1 = .ok (.istore_n 2, 1) := dAX7_led_0.2.1
theorem dX7_led_2 : decode cX7_led 2 = .ok (.aload_n 0, 1) := dAX7_led_0.2.2.1
theorem dX7_led_3 : decode cX7_led 3 = .ok (.getfield 187, 3) := dAX7_led_0.2.2.2.1
theorem dX7_led_6 : decode cX7_led 6 = .ok (.ifCond .eq 10, 3) := dAX7_led_0.2.2.2.2.1
theorem dX7_led_9 : decode cX7_led 9 = .ok (.aload_n 0, 1) := dAX7_led_0.2.2.2.2.2.1
theorem dX7_led_10 : decode cX7_led 10 = .ok (.invokevirtual 297, 3) := dAX7_led_0.2.2.2.2.2.2.1
theorem dX7_led_13 : decode cX7_led 13 = .ok (.goto 4, 3) := dAX7_led_0.2.2.2.2.2.2.2
set_option maxRecDepth 100000 in
theorem dAX7_led_1 : decode cX7_led 16 = .ok (.iconst 0, 1) ∧ decode cX7_led 17 = .ok (.istore_n 3, 1) ∧ decode cX7_led 18 = .ok (.iconst 0, 1) ∧ decode cX7_led 19 = .ok (.istore 4, 2) ∧ decode cX7_led 21 = .ok (.aload_n 0, 1) ∧ decode cX7_led 22 = .ok (.getfield 187, 3) ∧ decode cX7_led 25 = .ok (.ifCond .eq 61, 3) ∧ decode cX7_led 28 = .ok (.iload 4, 2) := by decide +kernel
theorem dX7_led_16 : decode cX7_led 16 = .ok (.iconst 0, 1) := dAX7_led_1.1
theorem dX7_led_17 : decode cX7_led 17 = .ok (.istore_n 3, 1) := dAX7_led_1.2.1
theorem dX7_led_18 : decode cX7_led 18 = .ok (.iconst 0, 1) := dAX7_led_1.2.2.1
theorem dX7_led_19 : decode cX7_led 19 = .ok (.istore 4, 2) := dAX7_led_1.2.2.2.1
theorem dX7_led_21 : decode cX7_led 21 = .ok (.aload_n 0, 1) := dAX7_led_1.2.2.2.2.1
theorem dX7_led_22 : decode cX7_led 22 = .ok (.getfield 187, 3) := dAX7_led_1.2.2.2.2.2.1
theorem dX7_led_25 : decode cX7_led 25 = .ok (.ifCond .eq 61, 3) := dAX7_led_1.2.2.2.2.2.2.1
theorem dX7_led_28 : decode cX7_led 28 = .ok (.iload 4, 2) := dAX7_led_1.2.2.2.2.2.2.2
set_option maxRecDepth 100000 in
theorem dAX7_led_2 : decode cX7_led 30 = .ok (.aload_n 0, 1) ∧ decode cX7_led 31 = .ok (.getfield 20, 3) ∧ decode cX7_led 34 = .ok (.iconst 1, 1) ∧ decode cX7_led 35 = .ok (.iaload, 1) ∧ decode cX7_led 36 = .ok (.if_icmp .ge 50, 3) ∧ decode cX7_led 39 = .ok (.aload_n 0, 1) ∧ decode cX7_led 40 = .ok (.getfield 20, 3) ∧ decode cX7_led 43 = .ok (.bipush 9, 2) := by decide +kernel
theorem dX7_led_30 : decode cX7_led 30 = .ok (.aload_n 0, 1) := dAX7_led_2.1
theorem dX7_led_31 : decode cX7_led 31 = .ok (.getfield 20, 3) := dAX7_led_2.2.1
theorem dX7_led_34 : decode cX7_led 34 = .ok (.iconst 1, 1) := dAX7_led_2.2.2.1
theorem dX7_led_35 : decode cX7_led 35 = .ok (.iaload, 1) := dAX7_led_2.2.2.2.1
theorem dX7_led_36 : decode cX7_led 36 = .ok (.if_icmp .ge 50, 3) := dAX7_led_2.2.2.2.2.1
theorem dX7_led_39 : decode cX7_led 39 = .ok (.aload_n 0, 1) := dAX7_led_2.2.2.2.2.2.1
theorem dX7_led_40 : decode cX7_led 40 = .ok (.getfield 20, 3) := dAX7_led_2.2.2.2.2.2.2.1
theorem dX7_led_43 : decode cX7_led 43 = .ok (.bipush 9, 2) := dAX7_led_2.2.2.2.2.2.2.2
set_option maxRecDepth 100000 in
theorem dAX7_led_3 : decode cX7_led 45 = .ok (.iload 4, 2) ∧ decode cX7_led 47 = .ok (.iadd, 1) ∧ decode cX7_led 48 = .ok (.iaload, 1) ∧ decode cX7_led 49 = .ok (.ifCond .ne 31, 3) ∧ decode cX7_led 52 = .ok (.iload_n 3, 1) ∧ decode cX7_led 53 = .ok (.iload 4, 2) ∧ decode cX7_led 55 = .ok (.invokestatic 320, 3) ∧ decode cX7_led 58 = .ok (.ifCond .eq 6, 3) := by decide +kernel
theorem dX7_led_45 : decode cX7_led 45 = .ok (.iload 4, 2) := dAX7_led_3.1
theorem dX7_led_47 : decode cX7_led 47 = .ok (.iadd, 1) := dAX7_led_3.2.1
theorem dX7_led_48 : decode cX7_led 48 = .ok (.iaload, 1) := dAX7_led_3.2.2.1
theorem dX7_led_49 : decode cX7_led 49 = .ok (.ifCond .ne 31, 3) := dAX7_led_3.2.2.2.1
theorem dX7_led_52 : decode cX7_led 52 = .ok (.iload_n 3, 1) := dAX7_led_3.2.2.2.2.1
theorem dX7_led_53 : decode cX7_led 53 = .ok (.iload 4, 2) := dAX7_led_3.2.2.2.2.2.1
theorem dX7_led_55 : decode cX7_led 55 = .ok (.invokestatic 320, 3) := dAX7_led_3.2.2.2.2.2.2.1
theorem dX7_led_58 : decode cX7_led 58 = .ok (.ifCond .eq 6, 3) := dAX7_led_3.2.2.2.2.2.2.2
set_option maxRecDepth 100000 in
theorem dAX7_led_4 : decode cX7_led 61 = .ok (.goto 19, 3) ∧ decode cX7_led 64 = .ok (.iload_n 2, 1) ∧ decode cX7_led 65 = .ok (.iload_n 1, 1) ∧ decode cX7_led 66 = .ok (.if_icmp .ne 11, 3) ∧ decode cX7_led 69 = .ok (.aload_n 0, 1) ∧ decode cX7_led 70 = .ok (.iconst 0, 1) ∧ decode cX7_led 71 = .ok (.putfield 65, 3) ∧ decode cX7_led 74 = .ok (.iload 4, 2) := by decide +kernel
theorem dX7_led_61 : decode cX7_led 61 = .ok (.goto 19, 3) := dAX7_led_4.1
theorem dX7_led_64 : decode cX7_led 64 = .ok (.iload_n 2, 1) := dAX7_led_4.2.1
theorem dX7_led_65 : decode cX7_led 65 = .ok (.iload_n 1, 1) := dAX7_led_4.2.2.1
theorem dX7_led_66 : decode cX7_led 66 = .ok (.if_icmp .ne 11, 3) := dAX7_led_4.2.2.2.1
theorem dX7_led_69 : decode cX7_led 69 = .ok (.aload_n 0, 1) := dAX7_led_4.2.2.2.2.1
theorem dX7_led_70 : decode cX7_led 70 = .ok (.iconst 0, 1) := dAX7_led_4.2.2.2.2.2.1
theorem dX7_led_71 : decode cX7_led 71 = .ok (.putfield 65, 3) := dAX7_led_4.2.2.2.2.2.2.1
theorem dX7_led_74 : decode cX7_led 74 = .ok (.iload 4, 2) := dAX7_led_4.2.2.2.2.2.2.2
set_option maxRecDepth 100000 in
theorem dAX7_led_5 : decode cX7_led 76 = .ok (.ireturn, 1) ∧ decode cX7_led 77 = .ok (.iinc 2 1, 3) ∧ decode cX7_led 80 = .ok (.iinc 4 1, 3) ∧ decode cX7_led 83 = .ok (.goto (-62), 3) ∧ decode cX7_led 86 = .ok (.aload_n 0, 1) ∧ decode cX7_led 87 = .ok (.iconst 1, 1) ∧ decode cX7_led 88 = .ok (.putfield 65, 3) ∧ decode cX7_led 91 = .ok (.iconst 0, 1) := by decide +kernel
theorem dX7_led_76 : decode cX7_led 76 = .ok (.ireturn, 1) := dAX7_led_5.1
theorem dX7_led_77 : decode cX7_led 77 = .ok (.iinc 2 1, 3) := dAX7_led_5.2.1
theorem dX7_led_80 : decode cX7_led 80 = .ok (.iinc 4 1, 3) := dAX7_led_5.2.2.1
theorem dX7_led_83 : decode cX7_led 83 = .ok (.goto (-62), 3) := dAX7_led_5.2.2.2.1
theorem dX7_led_86 : decode cX7_led 86 = .ok (.aload_n 0, 1) := dAX7_led_5.2.2.2.2.1
theorem dX7_led_87 : decode cX7_led 87 = .ok (.iconst 1, 1) := dAX7_led_5.2.2.2.2.2.1
theorem dX7_led_88 : decode cX7_led 88 = .ok (.putfield 65, 3) := dAX7_led_5.2.2.2.2.2.2.1
theorem dX7_led_91 : decode cX7_led 91 = .ok (.iconst 0, 1) := dAX7_led_5.2.2.2.2.2.2.2
theorem dX7_led_92 : decode cX7_led 92 = .ok (.ireturn, 1) := by decide +kernel
set_option maxRecDepth 100000 in
theorem dAX7_line_0 : decode cX7_line 0 = .ok (.aload_n 0, 1) ∧ decode cX7_line 1 = .ok (.invokevirtual 175, 3) ∧ decode cX7_line 4 = .ok (.aload_n 0, 1) ∧ decode cX7_line 5 = .ok (.getfield 187, 3) ∧ decode cX7_line 8 = .ok (.ifCond .ne 9, 3) ∧ decode cX7_line 11 = .ok (.aload_n 0, 1) ∧ decode cX7_line 12 = .ok (.iconst 1, 1) ∧ decode cX7_line 13 = .ok (.invokevirtual 178, 3) := by decide +kernel
theorem dX7_line_0 : decode cX7_line 0 = .ok (.aload_n 0, 1) := dAX7_line_0.1
theorem dX7_line_1 : decode cX7_line 1 = .ok (.invokevirtual 175, 3) := dAX7_line_0.2.1
theorem dX7_line_4 : decode cX7_line 4 = .ok (.aload_n 0, 1) := dAX7_line_0.2.2.1
theorem dX7_line_5 : decode cX7_line 5 = .ok (.getfield 187, 3) := dAX7_line_0.2.2.2.1
theorem dX7_line_8 : decode cX7_line 8 = .ok (.ifCond .ne 9, 3) := dAX7_line_0.2.2.2.2.1
theorem dX7_line_11 : decode cX7_line 11 = .ok (.aload_n 0, 1) := dAX7_line_0.2.2.2.2.2.1
theorem dX7_line_12 : decode cX7_line 12 = .ok (.iconst 1, 1) := dAX7_line_0.2.2.2.2.2.2.1
theorem dX7_line_13 : decode cX7_line 13 = .ok (.invokevirtual 178, 3) := dAX7_line_0.2.2.2.2.2.2.2
set_option maxRecDepth 100000 in
theorem dAX7_line_1 : decode cX7_line 16 = .ok (.ireturn, 1) ∧ decode cX7_line 17 = .ok (.iconst 1, 1) ∧ decode cX7_line 18 = .ok (.istore_n 1, 1) ∧ decode cX7_line 19 = .ok (.aload_n 0, 1) ∧ decode cX7_line 20 = .ok (.aload_n 0, 1) ∧ decode cX7_line 21 = .ok (.getfield 20, 3) ∧ decode cX7_line 24 = .ok (.bipush 6, 2) ∧ decode cX7_line 26 = .ok (.iaload, 1) := by decide +kernel
theorem dX7_line_16 : decode cX7_line 16 = .ok (.ireturn, 1) := dAX7_line_1.1
theorem dX7_line_17 : decode cX7_line 17 = .ok (.iconst 1, 1) := dAX7_line_1.2.1
theorem dX7_line_18 : decode cX7_line 18 = .ok (.istore_n 1, 1) := dAX7_line_1.2.2.1
theorem dX7_line_19 : decode cX7_line 19 = .ok (.aload_n 0, 1) := dAX7_line_1.2.2.2.1
theorem dX7_line_20 : decode cX7_line 20 = .ok (.aload_n 0, 1) := dAX7_line_1.2.2.2.2.1
theorem dX7_line_21 : decode cX7_line 21 = .ok (.getfield 20, 3) := dAX7_line_1.2.2.2.2.2.1
theorem dX7_line_24 : decode cX7_line 24 = .ok (.bipush 6, 2) := dAX7_line_1.2.2.2.2.2.2.1
theorem dX7_line_26 : decode cX7_line 26 = .ok (.iaload, 1) := dAX7_line_1.2.2.2.2.2.2.2
set_option maxRecDepth 100000 in
theorem dAX7_line_2 : decode cX7_line 27 = .ok (.invokevirtual 287, 3) ∧ decode cX7_line 30 = .ok (.istore_n 2, 1) ∧ decode cX7_line 31 = .ok (.iload_n 2, 1) ∧ decode cX7_line 32 = .ok (.ifCond .lt 15, 3) ∧ decode cX7_line 35 = .ok (.iinc 1 1, 3) ∧ decode cX7_line 38 = .ok (.aload_n 0, 1) ∧ decode cX7_line 39 = .ok (.iload_n 2, 1) ∧ decode cX7_line 40 = .ok (.invokevirtual 287, 3) := by decide +kernel
theorem dX7_line_27 : decode cX7_line 27 = .ok (.invokevirtual 287, 3) := dAX7_line_2.1
theorem dX7_line_30 : decode cX7_line 30 = .ok (.istore_n 2, 1) := dAX7_line_2.2.1
theorem dX7_line_31 : decode cX7_line 31 = .ok (.iload_n 2, 1) := dAX7_line_2.2.2.1
theorem dX7_line_32 : decode cX7_line 32 = .ok (.ifCond .lt 15, 3) := dAX7_line_2.2.2.2.1
theorem dX7_line_35 : decode cX7_line 35 = .ok (.iinc 1 1, 3) := dAX7_line_2.2.2.2.2.1
theorem dX7_line_38 : decode cX7_line 38 = .ok (.aload_n 0, 1) := dAX7_line_2.2.2.2.2.2.1
theorem dX7_line_39 : decode cX7_line 39 = .ok (.iload_n 2, 1) := dAX7_line_2.2.2.2.2.2.2.1
theorem dX7_line_40 : decode cX7_line 40 = .ok (.invokevirtual 287, 3) := dAX7_line_2.2.2.2.2.2.2.2
set_option maxRecDepth 100000 in
theorem dAX7_line_3 : decode cX7_line 43 = .ok (.istore_n 2, 1) ∧ decode cX7_line 44 = .ok (.goto (-13), 3) ∧ decode cX7_line 47 = .ok (.iload_n 1, 1) ∧ decode cX7_line 48 = .ok (.ireturn, 1) := by decide +kernel
theorem dX7_line_43 : decode cX7_line 43 = .ok (.istore_n 2, 1) := dAX7_line_3.1
theorem dX7_line_44 : decode cX7_line 44 = .ok (.goto (-13), 3) := dAX7_line_3.2.1
theorem dX7_line_47 : decode cX7_line 47 = .ok (.iload_n 1, 1) := dAX7_line_3.2.2.1
theorem dX7_line_48 : decode cX7_line 48 = .ok (.ireturn, 1) := dAX7_line_3.2.2.2
set_option maxRecDepth 100000 in
theorem dAX7_lineAt_0 : decode cX7_lineAt 0 = .ok (.aload_n 0, 1) ∧ decode cX7_lineAt 1 = .ok (.invokevirtual 175, 3) ∧ decode cX7_lineAt 4 = .ok (.aload_n 0, 1) ∧ decode cX7_lineAt 5 = .ok (.getfield 187, 3) ∧ decode cX7_lineAt 8 = .ok (.ifCond .eq 7, 3) ∧ decode cX7_lineAt 11 = .ok (.iload_n 1, 1) ∧ decode cX7_lineAt 12 = .ok (.ifCond .ge 9, 3) ∧ decode cX7_lineAt 15 = .ok (.aload_n 0, 1) := by decide +kernel
theorem dX7_lineAt_0 : decode cX7_lineAt 0 = .ok (.aload_n 0, 1) := dAX7_lineAt_0.1
theorem dX7_lineAt_1 : decode cX7_lineAt 1 = .ok (.invokevirtual 175, 3) := dAX7_lineAt_0.2.1
theorem dX7_lineAt_4 : decode cX7_lineAt 4 = .ok (.aload_n 0, 1) := dAX7_lineAt_0.2.2.1
theorem dX7_lineAt_5 : decode cX7_lineAt 5 = .ok (.getfield 187, 3) := dAX7_lineAt_0.2.2.2.1
theorem dX7_lineAt_8 : decode cX7_lineAt 8 = .ok (.ifCond .eq 7, 3) := dAX7_lineAt_0.2.2.2.2.1
theorem dX7_lineAt_11 : decode cX7_lineAt 11 = .ok (.iload_n 1, 1) := dAX7_lineAt_0.2.2.2.2.2.1
theorem dX7_lineAt_12 : decode cX7_lineAt 12 = .ok (.ifCond .ge 9, 3) := dAX7_lineAt_0.2.2.2.2.2.2.1
theorem dX7_lineAt_15 : decode cX7_lineAt 15 = .ok (.aload_n 0, 1) := dAX7_lineAt_0.2.2.2.2.2.2.2
set_option maxRecDepth 100000 in
theorem dAX7_lineAt_1 : decode cX7_lineAt 16 = .ok (.iconst 1, 1) ∧ decode cX7_lineAt 17 = .ok (.invokevirtual 178, 3) ∧ decode cX7_lineAt 20 = .ok (.ireturn, 1) ∧ decode cX7_lineAt 21 = .ok (.aload_n 0, 1) ∧ decode cX7_lineAt 22 = .ok (.getfield 20, 3) ∧ decode cX7_lineAt 25 = .ok (.bipush 6, 2) ∧ decode cX7_lineAt 27 = .ok (.iaload, 1) ∧ decode cX7_lineAt 28 = .ok (.istore_n 2, 1) := by decide +kernel
theorem dX7_lineAt_16 : decode cX7_lineAt 16 = .ok (.iconst 1, 1) := dAX7_lineAt_1.1
theorem dX7_lineAt_17 : decode cX7_lineAt 17 = .ok (.invokevirtual 178, 3) := dAX7_lineAt_1.2.1
theorem dX7_lineAt_20 : decode cX7_lineAt 20 = .ok (.ireturn, 1) := dAX7_lineAt_1.2.2.1
theorem dX7_lineAt_21 : decode cX7_lineAt 21 = .ok (.aload_n 0, 1) := dAX7_lineAt_1.2.2.2.1
theorem dX7_lineAt_22 : decode cX7_lineAt 22 = .ok (.getfield 20, 3) := dAX7_lineAt_1.2.2.2.2.1
theorem dX7_lineAt_25 : decode cX7_lineAt 25 = .ok (.bipush 6, 2) := dAX7_lineAt_1.2.2.2.2.2.1
theorem dX7_lineAt_27 : decode cX7_lineAt 27 = .ok (.iaload, 1) := dAX7_lineAt_1.2.2.2.2.2.2.1
theorem dX7_lineAt_28 : decode cX7_lineAt 28 = .ok (.istore_n 2, 1) := dAX7_lineAt_1.2.2.2.2.2.2.2
set_option maxRecDepth 100000 in
theorem dAX7_lineAt_2 : decode cX7_lineAt 29 = .ok (.iconst 0, 1) ∧ decode cX7_lineAt 30 = .ok (.istore_n 3, 1) ∧ decode cX7_lineAt 31 = .ok (.iload_n 3, 1) ∧ decode cX7_lineAt 32 = .ok (.iload_n 1, 1) ∧ decode cX7_lineAt 33 = .ok (.if_icmp .ge 19, 3) ∧ decode cX7_lineAt 36 = .ok (.iload_n 2, 1) ∧ decode cX7_lineAt 37 = .ok (.ifCond .lt 15, 3) ∧ decode cX7_lineAt 40 = .ok (.aload_n 0, 1) := by decide +kernel
theorem dX7_lineAt_29 : decode cX7_lineAt 29 = .ok (.iconst 0, 1) := dAX7_lineAt_2.1
theorem dX7_lineAt_30 : decode cX7_lineAt 30 = .ok (.istore_n 3, 1) := dAX7_lineAt_2.2.1
theorem dX7_lineAt_31 : decode cX7_lineAt 31 = .ok (.iload_n 3, 1) := dAX7_lineAt_2.2.2.1
theorem dX7_lineAt_32 : decode cX7_lineAt 32 = .ok (.iload_n 1, 1) := dAX7_lineAt_2.2.2.2.1
theorem dX7_lineAt_33 : decode cX7_lineAt 33 = .ok (.if_icmp .ge 19, 3) := dAX7_lineAt_2.2.2.2.2.1
theorem dX7_lineAt_36 : decode cX7_lineAt 36 = .ok (.iload_n 2, 1) := dAX7_lineAt_2.2.2.2.2.2.1
theorem dX7_lineAt_37 : decode cX7_lineAt 37 = .ok (.ifCond .lt 15, 3) := dAX7_lineAt_2.2.2.2.2.2.2.1
theorem dX7_lineAt_40 : decode cX7_lineAt 40 = .ok (.aload_n 0, 1) := dAX7_lineAt_2.2.2.2.2.2.2.2
set_option maxRecDepth 100000 in
theorem dAX7_lineAt_3 : decode cX7_lineAt 41 = .ok (.iload_n 2, 1) ∧ decode cX7_lineAt 42 = .ok (.invokevirtual 287, 3) ∧ decode cX7_lineAt 45 = .ok (.istore_n 2, 1) ∧ decode cX7_lineAt 46 = .ok (.iinc 3 1, 3) ∧ decode cX7_lineAt 49 = .ok (.goto (-18), 3) ∧ decode cX7_lineAt 52 = .ok (.iload_n 2, 1) ∧ decode cX7_lineAt 53 = .ok (.ifCond .ge 11, 3) ∧ decode cX7_lineAt 56 = .ok (.aload_n 0, 1) := by decide +kernel
theorem dX7_lineAt_41 : decode cX7_lineAt 41 = .ok (.iload_n 2, 1) := dAX7_lineAt_3.1
theorem dX7_lineAt_42 : decode cX7_lineAt 42 = .ok (.invokevirtual 287, 3) := dAX7_lineAt_3.2.1
theorem dX7_lineAt_45 : decode cX7_lineAt 45 = .ok (.istore_n 2, 1) := dAX7_lineAt_3.2.2.1
theorem dX7_lineAt_46 : decode cX7_lineAt 46 = .ok (.iinc 3 1, 3) := dAX7_lineAt_3.2.2.2.1
theorem dX7_lineAt_49 : decode cX7_lineAt 49 = .ok (.goto (-18), 3) := dAX7_lineAt_3.2.2.2.2.1
theorem dX7_lineAt_52 : decode cX7_lineAt 52 = .ok (.iload_n 2, 1) := dAX7_lineAt_3.2.2.2.2.2.1
theorem dX7_lineAt_53 : decode cX7_lineAt 53 = .ok (.ifCond .ge 11, 3) := dAX7_lineAt_3.2.2.2.2.2.2.1
theorem dX7_lineAt_56 : decode cX7_lineAt 56 = .ok (.aload_n 0, 1) := dAX7_lineAt_3.2.2.2.2.2.2.2
set_option maxRecDepth 100000 in
theorem dAX7_lineAt_4 : decode cX7_lineAt 57 = .ok (.iconst 1, 1) ∧ decode cX7_lineAt 58 = .ok (.invokevirtual 178, 3) ∧ decode cX7_lineAt 61 = .ok (.goto 4, 3) ∧ decode cX7_lineAt 64 = .ok (.iload_n 2, 1) ∧ decode cX7_lineAt 65 = .ok (.ireturn, 1) := by decide +kernel
theorem dX7_lineAt_57 : decode cX7_lineAt 57 = .ok (.iconst 1, 1) := dAX7_lineAt_4.1
theorem dX7_lineAt_58 : decode cX7_lineAt 58 = .ok (.invokevirtual 178, 3) := dAX7_lineAt_4.2.1
theorem dX7_lineAt_61 : decode cX7_lineAt 61 = .ok (.goto 4, 3) := dAX7_lineAt_4.2.2.1
theorem dX7_lineAt_64 : decode cX7_lineAt 64 = .ok (.iload_n 2, 1) := dAX7_lineAt_4.2.2.2.1
theorem dX7_lineAt_65 : decode cX7_lineAt 65 = .ok (.ireturn, 1) := dAX7_lineAt_4.2.2.2.2
set_option maxRecDepth 100000 in
theorem dAX7_lowest_0 : decode cX7_lowest 0 = .ok (.lload_n 2, 1) ∧ decode cX7_lowest 1 = .ok (.lstore 5, 2) ∧ decode cX7_lowest 3 = .ok (.lload_n 0, 1) ∧ decode cX7_lowest 4 = .ok (.lstore 7, 2) ∧ decode cX7_lowest 6 = .ok (.lload 7, 2) ∧ decode cX7_lowest 8 = .ok (.lconst 0, 1) ∧ decode cX7_lowest 9 = .ok (.lcmp, 1) ∧ decode cX7_lowest 10 = .ok (.ifCond .eq 21, 3) := by decide +kernel
theorem dX7_lowest_0 : decode cX7_lowest 0 = .ok (.lload_n 2, 1) := dAX7_lowest_0.1
theorem dX7_lowest_1 : decode cX7_lowest 1 = .ok (.lstore 5, 2) := dAX7_lowest_0.2.1
theorem dX7_lowest_3 : decode cX7_lowest 3 = .ok (.lload_n 0, 1) := dAX7_lowest_0.2.2.1
theorem dX7_lowest_4 : decode cX7_lowest 4 = .ok (.lstore 7, 2) := dAX7_lowest_0.2.2.2.1
theorem dX7_lowest_6 : decode cX7_lowest 6 = .ok (.lload 7, 2) := dAX7_lowest_0.2.2.2.2.1
theorem dX7_lowest_8 : decode cX7_lowest 8 = .ok (.lconst 0, 1) := dAX7_lowest_0.2.2.2.2.2.1
theorem dX7_lowest_9 : decode cX7_lowest 9 = .ok (.lcmp, 1) := dAX7_lowest_0.2.2.2.2.2.2.1
theorem dX7_lowest_10 : decode cX7_lowest 10 = .ok (.ifCond .eq 21, 3) := dAX7_lowest_0.2.2.2.2.2.2.2
set_option maxRecDepth 100000 in
theorem dAX7_lowest_1 : decode cX7_lowest 13 = .ok (.lload 5, 2) ∧ decode cX7_lowest 15 = .ok (.lload 7, 2) ∧ decode cX7_lowest 17 = .ok (.lrem, 1) ∧ decode cX7_lowest 18 = .ok (.lstore 9, 2) ∧ decode cX7_lowest 20 = .ok (.lload 7, 2) ∧ decode cX7_lowest 22 = .ok (.lstore 5, 2) ∧ decode cX7_lowest 24 = .ok (.lload 9, 2) ∧ decode cX7_lowest 26 = .ok (.lstore 7, 2) := by decide +kernel
theorem dX7_lowest_13 : decode cX7_lowest 13 = .ok (.lload 5, 2) := dAX7_lowest_1.1
theorem dX7_lowest_15 : decode cX7_lowest 15 = .ok (.lload 7, 2) := dAX7_lowest_1.2.1
theorem dX7_lowest_17 : decode cX7_lowest 17 = .ok (.lrem, 1) := dAX7_lowest_1.2.2.1
theorem dX7_lowest_18 : decode cX7_lowest 18 = .ok (.lstore 9, 2) := dAX7_lowest_1.2.2.2.1
theorem dX7_lowest_20 : decode cX7_lowest 20 = .ok (.lload 7, 2) := dAX7_lowest_1.2.2.2.2.1
theorem dX7_lowest_22 : decode cX7_lowest 22 = .ok (.lstore 5, 2) := dAX7_lowest_1.2.2.2.2.2.1
theorem dX7_lowest_24 : decode cX7_lowest 24 = .ok (.lload 9, 2) := dAX7_lowest_1.2.2.2.2.2.2.1
theorem dX7_lowest_26 : decode cX7_lowest 26 = .ok (.lstore 7, 2) := dAX7_lowest_1.2.2.2.2.2.2.2
set_option maxRecDepth 100000 in
theorem dAX7_lowest_2 : decode cX7_lowest 28 = .ok (.goto (-22), 3) ∧ decode cX7_lowest 31 = .ok (.iload 4, 2) ∧ decode cX7_lowest 33 = .ok (.ifCond .eq 7, 3) ∧ decode cX7_lowest 36 = .ok (.lload_n 2, 1) ∧ decode cX7_lowest 37 = .ok (.goto 4, 3) ∧ decode cX7_lowest 40 = .ok (.lload_n 0, 1) ∧ decode cX7_lowest 41 = .ok (.lload 5, 2) ∧ decode cX7_lowest 43 = .ok (.ldiv, 1) := by decide +kernel
theorem dX7_lowest_28 : decode cX7_lowest 28 = .ok (.goto (-22), 3) := dAX7_lowest_2.1
theorem dX7_lowest_31 : decode cX7_lowest 31 = .ok (.iload 4, 2) := dAX7_lowest_2.2.1
theorem dX7_lowest_33 : decode cX7_lowest 33 = .ok (.ifCond .eq 7, 3) := dAX7_lowest_2.2.2.1
theorem dX7_lowest_36 : decode cX7_lowest 36 = .ok (.lload_n 2, 1) := dAX7_lowest_2.2.2.2.1
theorem dX7_lowest_37 : decode cX7_lowest 37 = .ok (.goto 4, 3) := dAX7_lowest_2.2.2.2.2.1
theorem dX7_lowest_40 : decode cX7_lowest 40 = .ok (.lload_n 0, 1) := dAX7_lowest_2.2.2.2.2.2.1
theorem dX7_lowest_41 : decode cX7_lowest 41 = .ok (.lload 5, 2) := dAX7_lowest_2.2.2.2.2.2.2.1
theorem dX7_lowest_43 : decode cX7_lowest 43 = .ok (.ldiv, 1) := dAX7_lowest_2.2.2.2.2.2.2.2
theorem dX7_lowest_44 : decode cX7_lowest 44 = .ok (.lreturn, 1) := by decide +kernel
set_option maxRecDepth 100000 in
theorem dAX7_mean_0 : decode cX7_mean 0 = .ok (.aload_n 0, 1) ∧ decode cX7_mean 1 = .ok (.invokevirtual 175, 3) ∧ decode cX7_mean 4 = .ok (.aload_n 0, 1) ∧ decode cX7_mean 5 = .ok (.getfield 187, 3) ∧ decode cX7_mean 8 = .ok (.ifCond .ne 10, 3) ∧ decode cX7_mean 11 = .ok (.aload_n 0, 1) ∧ decode cX7_mean 12 = .ok (.iconst 1, 1) ∧ decode cX7_mean 13 = .ok (.invokevirtual 178, 3) := by decide +kernel
theorem dX7_mean_0 : decode cX7_mean 0 = .ok (.aload_n 0, 1) := dAX7_mean_0.1
theorem dX7_mean_1 : decode cX7_mean 1 = .ok (.invokevirtual 175, 3) := dAX7_mean_0.2.1
theorem dX7_mean_4 : decode cX7_mean 4 = .ok (.aload_n 0, 1) := dAX7_mean_0.2.2.1
theorem dX7_mean_5 : decode cX7_mean 5 = .ok (.getfield 187, 3) := dAX7_mean_0.2.2.2.1
theorem dX7_mean_8 : decode cX7_mean 8 = .ok (.ifCond .ne 10, 3) := dAX7_mean_0.2.2.2.2.1
theorem dX7_mean_11 : decode cX7_mean 11 = .ok (.aload_n 0, 1) := dAX7_mean_0.2.2.2.2.2.1
theorem dX7_mean_12 : decode cX7_mean 12 = .ok (.iconst 1, 1) := dAX7_mean_0.2.2.2.2.2.2.1
theorem dX7_mean_13 : decode cX7_mean 13 = .ok (.invokevirtual 178, 3) := dAX7_mean_0.2.2.2.2.2.2.2
set_option maxRecDepth 100000 in
theorem dAX7_mean_1 : decode cX7_mean 16 = .ok (.i2l, 1) ∧ decode cX7_mean 17 = .ok (.lreturn, 1) ∧ decode cX7_mean 18 = .ok (.aload_n 0, 1) ∧ decode cX7_mean 19 = .ok (.iconst 0, 1) ∧ decode cX7_mean 20 = .ok (.invokevirtual 408, 3) ∧ decode cX7_mean 23 = .ok (.aload_n 0, 1) ∧ decode cX7_mean 24 = .ok (.getfield 405, 3) ∧ decode cX7_mean 27 = .ok (.aload_n 0, 1) := by decide +kernel
theorem dX7_mean_16 : decode cX7_mean 16 = .ok (.i2l, 1) := dAX7_mean_1.1
theorem dX7_mean_17 : decode cX7_mean 17 = .ok (.lreturn, 1) := dAX7_mean_1.2.1
theorem dX7_mean_18 : decode cX7_mean 18 = .ok (.aload_n 0, 1) := dAX7_mean_1.2.2.1
theorem dX7_mean_19 : decode cX7_mean 19 = .ok (.iconst 0, 1) := dAX7_mean_1.2.2.2.1
theorem dX7_mean_20 : decode cX7_mean 20 = .ok (.invokevirtual 408, 3) := dAX7_mean_1.2.2.2.2.1
theorem dX7_mean_23 : decode cX7_mean 23 = .ok (.aload_n 0, 1) := dAX7_mean_1.2.2.2.2.2.1
theorem dX7_mean_24 : decode cX7_mean 24 = .ok (.getfield 405, 3) := dAX7_mean_1.2.2.2.2.2.2.1
theorem dX7_mean_27 : decode cX7_mean 27 = .ok (.aload_n 0, 1) := dAX7_mean_1.2.2.2.2.2.2.2
set_option maxRecDepth 100000 in
theorem dAX7_mean_2 : decode cX7_mean 28 = .ok (.getfield 398, 3) ∧ decode cX7_mean 31 = .ok (.aload_n 0, 1) ∧ decode cX7_mean 32 = .ok (.getfield 44, 3) ∧ decode cX7_mean 35 = .ok (.i2l, 1) ∧ decode cX7_mean 36 = .ok (.lmul, 1) ∧ decode cX7_mean 37 = .ok (.iload_n 1, 1) ∧ decode cX7_mean 38 = .ok (.invokestatic 283, 3) ∧ decode cX7_mean 41 = .ok (.lreturn, 1) := by decide +kernel
theorem dX7_mean_28 : decode cX7_mean 28 = .ok (.getfield 398, 3) := dAX7_mean_2.1
theorem dX7_mean_31 : decode cX7_mean 31 = .ok (.aload_n 0, 1) := dAX7_mean_2.2.1
theorem dX7_mean_32 : decode cX7_mean 32 = .ok (.getfield 44, 3) := dAX7_mean_2.2.2.1
theorem dX7_mean_35 : decode cX7_mean 35 = .ok (.i2l, 1) := dAX7_mean_2.2.2.2.1
theorem dX7_mean_36 : decode cX7_mean 36 = .ok (.lmul, 1) := dAX7_mean_2.2.2.2.2.1
theorem dX7_mean_37 : decode cX7_mean 37 = .ok (.iload_n 1, 1) := dAX7_mean_2.2.2.2.2.2.1
theorem dX7_mean_38 : decode cX7_mean 38 = .ok (.invokestatic 283, 3) := dAX7_mean_2.2.2.2.2.2.2.1
theorem dX7_mean_41 : decode cX7_mean 41 = .ok (.lreturn, 1) := dAX7_mean_2.2.2.2.2.2.2.2
set_option maxRecDepth 100000 in
theorem dAX7_must_0 : decode cX7_must 0 = .ok (.aload_n 0, 1) ∧ decode cX7_must 1 = .ok (.getfield 103, 3) ∧ decode cX7_must 4 = .ok (.ifCond .ne 20, 3) ∧ decode cX7_must 7 = .ok (.aload_n 0, 1) ∧ decode cX7_must 8 = .ok (.aload_n 1, 1) ∧ decode cX7_must 9 = .ok (.invokevirtual 127, 3) ∧ decode cX7_must 12 = .ok (.ifCond .ne 12, 3) ∧ decode cX7_must 15 = .ok (.aload_n 0, 1) := by decide +kernel
theorem dX7_must_0 : decode cX7_must 0 = .ok (.aload_n 0, 1) := dAX7_must_0.1
theorem dX7_must_1 : decode cX7_must 1 = .ok (.getfield 103, 3) := dAX7_must_0.2.1
theorem dX7_must_4 : decode cX7_must 4 = .ok (.ifCond .ne 20, 3) := dAX7_must_0.2.2.1
theorem dX7_must_7 : decode cX7_must 7 = .ok (.aload_n 0, 1) := dAX7_must_0.2.2.2.1
theorem dX7_must_8 : decode cX7_must 8 = .ok (.aload_n 1, 1) := dAX7_must_0.2.2.2.2.1
theorem dX7_must_9 : decode cX7_must 9 = .ok (.invokevirtual 127, 3) := dAX7_must_0.2.2.2.2.2.1
theorem dX7_must_12 : decode cX7_must 12 = .ok (.ifCond .ne 12, 3) := dAX7_must_0.2.2.2.2.2.2.1
theorem dX7_must_15 : decode cX7_must 15 = .ok (.aload_n 0, 1) := dAX7_must_0.2.2.2.2.2.2.2
set_option maxRecDepth 100000 in
theorem dAX7_must_1 : decode cX7_must 16 = .ok (.iconst 1, 1) ∧ decode cX7_must 17 = .ok (.aload_n 0, 1) ∧ decode cX7_must 18 = .ok (.getfield 84, 3) ∧ decode cX7_must 21 = .ok (.invokevirtual 130, 3) ∧ decode cX7_must 24 = .ok (.return_, 1) := by decide +kernel
theorem dX7_must_16 : decode cX7_must 16 = .ok (.iconst 1, 1) := dAX7_must_1.1
theorem dX7_must_17 : decode cX7_must 17 = .ok (.aload_n 0, 1) := dAX7_must_1.2.1
theorem dX7_must_18 : decode cX7_must 18 = .ok (.getfield 84, 3) := dAX7_must_1.2.2.1
theorem dX7_must_21 : decode cX7_must 21 = .ok (.invokevirtual 130, 3) := dAX7_must_1.2.2.2.1
theorem dX7_must_24 : decode cX7_must 24 = .ok (.return_, 1) := dAX7_must_1.2.2.2.2
set_option maxRecDepth 100000 in
theorem dAX7_mustName_0 : decode cX7_mustName 0 = .ok (.aload_n 0, 1) ∧ decode cX7_mustName 1 = .ok (.getfield 93, 3) ∧ decode cX7_mustName 4 = .ok (.iconst 2, 1) ∧ decode cX7_mustName 5 = .ok (.if_icmp .ne 75, 3) ∧ decode cX7_mustName 8 = .ok (.aload_n 0, 1) ∧ decode cX7_mustName 9 = .ok (.ldc 134, 2) ∧ decode cX7_mustName 11 = .ok (.invokevirtual 120, 3) ∧ decode cX7_mustName 14 = .ok (.ifCond .ne 66, 3) := by decide +kernel
theorem dX7_mustName_0 : decode cX7_mustName 0 = .ok (.aload_n 0, 1) := dAX7_mustName_0.1
theorem dX7_mustName_1 : decode cX7_mustName 1 = .ok (.getfield 93, 3) := dAX7_mustName_0.2.1
theorem dX7_mustName_4 : decode cX7_mustName 4 = .ok (.iconst 2, 1) := dAX7_mustName_0.2.2.1
theorem dX7_mustName_5 : decode cX7_mustName 5 = .ok (.if_icmp .ne 75, 3) := dAX7_mustName_0.2.2.2.1
theorem dX7_mustName_8 : decode cX7_mustName 8 = .ok (.aload_n 0, 1) := dAX7_mustName_0.2.2.2.2.1
theorem dX7_mustName_9 : decode cX7_mustName 9 = .ok (.ldc 134, 2) := dAX7_mustName_0.2.2.2.2.2.1
theorem dX7_mustName_11 : decode cX7_mustName 11 = .ok (.invokevirtual 120, 3) := dAX7_mustName_0.2.2.2.2.2.2.1
theorem dX7_mustName_14 : decode cX7_mustName 14 = .ok (.ifCond .ne 66, 3) := dAX7_mustName_0.2.2.2.2.2.2.2
set_option maxRecDepth 100000 in
theorem dAX7_mustName_1 : decode cX7_mustName 17 = .ok (.aload_n 0, 1) ∧ decode cX7_mustName 18 = .ok (.ldc 136, 2) ∧ decode cX7_mustName 20 = .ok (.invokevirtual 120, 3) ∧ decode cX7_mustName 23 = .ok (.ifCond .ne 57, 3) ∧ decode cX7_mustName 26 = .ok (.aload_n 0, 1) ∧ decode cX7_mustName 27 = .ok (.ldc 138, 2) ∧ decode cX7_mustName 29 = .ok (.invokevirtual 120, 3) ∧ decode cX7_mustName 32 = .ok (.ifCond .ne 48, 3) := by decide +kernel
theorem dX7_mustName_17 : decode cX7_mustName 17 = .ok (.aload_n 0, 1) := dAX7_mustName_1.1
theorem dX7_mustName_18 : decode cX7_mustName 18 = .ok (.ldc 136, 2) := dAX7_mustName_1.2.1
theorem dX7_mustName_20 : decode cX7_mustName 20 = .ok (.invokevirtual 120, 3) := dAX7_mustName_1.2.2.1
theorem dX7_mustName_23 : decode cX7_mustName 23 = .ok (.ifCond .ne 57, 3) := dAX7_mustName_1.2.2.2.1
theorem dX7_mustName_26 : decode cX7_mustName 26 = .ok (.aload_n 0, 1) := dAX7_mustName_1.2.2.2.2.1
theorem dX7_mustName_27 : decode cX7_mustName 27 = .ok (.ldc 138, 2) := dAX7_mustName_1.2.2.2.2.2.1
theorem dX7_mustName_29 : decode cX7_mustName 29 = .ok (.invokevirtual 120, 3) := dAX7_mustName_1.2.2.2.2.2.2.1
theorem dX7_mustName_32 : decode cX7_mustName 32 = .ok (.ifCond .ne 48, 3) := dAX7_mustName_1.2.2.2.2.2.2.2
set_option maxRecDepth 100000 in
theorem dAX7_mustName_2 : decode cX7_mustName 35 = .ok (.aload_n 0, 1) ∧ decode cX7_mustName 36 = .ok (.ldc 140, 2) ∧ decode cX7_mustName 38 = .ok (.invokevirtual 120, 3) ∧ decode cX7_mustName 41 = .ok (.ifCond .ne 39, 3) ∧ decode cX7_mustName 44 = .ok (.aload_n 0, 1) ∧ decode cX7_mustName 45 = .ok (.ldc 142, 2) ∧ decode cX7_mustName 47 = .ok (.invokevirtual 120, 3) ∧ decode cX7_mustName 50 = .ok (.ifCond .ne 30, 3) := by decide +kernel
theorem dX7_mustName_35 : decode cX7_mustName 35 = .ok (.aload_n 0, 1) := dAX7_mustName_2.1
theorem dX7_mustName_36 : decode cX7_mustName 36 = .ok (.ldc 140, 2) := dAX7_mustName_2.2.1
theorem dX7_mustName_38 : decode cX7_mustName 38 = .ok (.invokevirtual 120, 3) := dAX7_mustName_2.2.2.1
theorem dX7_mustName_41 : decode cX7_mustName 41 = .ok (.ifCond .ne 39, 3) := dAX7_mustName_2.2.2.2.1
theorem dX7_mustName_44 : decode cX7_mustName 44 = .ok (.aload_n 0, 1) := dAX7_mustName_2.2.2.2.2.1
theorem dX7_mustName_45 : decode cX7_mustName 45 = .ok (.ldc 142, 2) := dAX7_mustName_2.2.2.2.2.2.1
theorem dX7_mustName_47 : decode cX7_mustName 47 = .ok (.invokevirtual 120, 3) := dAX7_mustName_2.2.2.2.2.2.2.1
theorem dX7_mustName_50 : decode cX7_mustName 50 = .ok (.ifCond .ne 30, 3) := dAX7_mustName_2.2.2.2.2.2.2.2
set_option maxRecDepth 100000 in
theorem dAX7_mustName_3 : decode cX7_mustName 53 = .ok (.aload_n 0, 1) ∧ decode cX7_mustName 54 = .ok (.ldc 144, 2) ∧ decode cX7_mustName 56 = .ok (.invokevirtual 120, 3) ∧ decode cX7_mustName 59 = .ok (.ifCond .ne 21, 3) ∧ decode cX7_mustName 62 = .ok (.aload_n 0, 1) ∧ decode cX7_mustName 63 = .ok (.ldc 146, 2) ∧ decode cX7_mustName 65 = .ok (.invokevirtual 120, 3) ∧ decode cX7_mustName 68 = .ok (.ifCond .ne 12, 3) := by decide +kernel
theorem dX7_mustName_53 : decode cX7_mustName 53 = .ok (.aload_n 0, 1) := dAX7_mustName_3.1
theorem dX7_mustName_54 : decode cX7_mustName 54 = .ok (.ldc 144, 2) := dAX7_mustName_3.2.1
theorem dX7_mustName_56 : decode cX7_mustName 56 = .ok (.invokevirtual 120, 3) := dAX7_mustName_3.2.2.1
theorem dX7_mustName_59 : decode cX7_mustName 59 = .ok (.ifCond .ne 21, 3) := dAX7_mustName_3.2.2.2.1
theorem dX7_mustName_62 : decode cX7_mustName 62 = .ok (.aload_n 0, 1) := dAX7_mustName_3.2.2.2.2.1
theorem dX7_mustName_63 : decode cX7_mustName 63 = .ok (.ldc 146, 2) := dAX7_mustName_3.2.2.2.2.2.1
theorem dX7_mustName_65 : decode cX7_mustName 65 = .ok (.invokevirtual 120, 3) := dAX7_mustName_3.2.2.2.2.2.2.1
theorem dX7_mustName_68 : decode cX7_mustName 68 = .ok (.ifCond .ne 12, 3) := dAX7_mustName_3.2.2.2.2.2.2.2
set_option maxRecDepth 100000 in
theorem dAX7_mustName_4 : decode cX7_mustName 71 = .ok (.aload_n 0, 1) ∧ decode cX7_mustName 72 = .ok (.ldc 148, 2) ∧ decode cX7_mustName 74 = .ok (.invokevirtual 120, 3) ∧ decode cX7_mustName 77 = .ok (.ifCond .eq 12, 3) ∧ decode cX7_mustName 80 = .ok (.aload_n 0, 1) ∧ decode cX7_mustName 81 = .ok (.iconst 1, 1) ∧ decode cX7_mustName 82 = .ok (.aload_n 0, 1) ∧ decode cX7_mustName 83 = .ok (.getfield 84, 3) := by decide +kernel
theorem dX7_mustName_71 : decode cX7_mustName 71 = .ok (.aload_n 0, 1) := dAX7_mustName_4.1
theorem dX7_mustName_72 : decode cX7_mustName 72 = .ok (.ldc 148, 2) := dAX7_mustName_4.2.1
theorem dX7_mustName_74 : decode cX7_mustName 74 = .ok (.invokevirtual 120, 3) := dAX7_mustName_4.2.2.1
theorem dX7_mustName_77 : decode cX7_mustName 77 = .ok (.ifCond .eq 12, 3) := dAX7_mustName_4.2.2.2.1
theorem dX7_mustName_80 : decode cX7_mustName 80 = .ok (.aload_n 0, 1) := dAX7_mustName_4.2.2.2.2.1
theorem dX7_mustName_81 : decode cX7_mustName 81 = .ok (.iconst 1, 1) := dAX7_mustName_4.2.2.2.2.2.1
theorem dX7_mustName_82 : decode cX7_mustName 82 = .ok (.aload_n 0, 1) := dAX7_mustName_4.2.2.2.2.2.2.1
theorem dX7_mustName_83 : decode cX7_mustName 83 = .ok (.getfield 84, 3) := dAX7_mustName_4.2.2.2.2.2.2.2
set_option maxRecDepth 100000 in
theorem dAX7_mustName_5 : decode cX7_mustName 86 = .ok (.invokevirtual 130, 3) ∧ decode cX7_mustName 89 = .ok (.return_, 1) := by decide +kernel
theorem dX7_mustName_86 : decode cX7_mustName 86 = .ok (.invokevirtual 130, 3) := dAX7_mustName_5.1
theorem dX7_mustName_89 : decode cX7_mustName 89 = .ok (.return_, 1) := dAX7_mustName_5.2
set_option maxRecDepth 100000 in
theorem dAX7_newName_0 : decode cX7_newName 0 = .ok (.aload_n 0, 1) ∧ decode cX7_newName 1 = .ok (.getfield 103, 3) ∧ decode cX7_newName 4 = .ok (.ifCond .eq 4, 3) ∧ decode cX7_newName 7 = .ok (.return_, 1) ∧ decode cX7_newName 8 = .ok (.aload_n 0, 1) ∧ decode cX7_newName 9 = .ok (.invokevirtual 150, 3) ∧ decode cX7_newName 12 = .ok (.aload_n 0, 1) ∧ decode cX7_newName 13 = .ok (.getfield 103, 3) := by decide +kernel
theorem dX7_newName_0 : decode cX7_newName 0 = .ok (.aload_n 0, 1) := dAX7_newName_0.1
theorem dX7_newName_1 : decode cX7_newName 1 = .ok (.getfield 103, 3) := dAX7_newName_0.2.1
theorem dX7_newName_4 : decode cX7_newName 4 = .ok (.ifCond .eq 4, 3) := dAX7_newName_0.2.2.1
theorem dX7_newName_7 : decode cX7_newName 7 = .ok (.return_, 1) := dAX7_newName_0.2.2.2.1
theorem dX7_newName_8 : decode cX7_newName 8 = .ok (.aload_n 0, 1) := dAX7_newName_0.2.2.2.2.1
theorem dX7_newName_9 : decode cX7_newName 9 = .ok (.invokevirtual 150, 3) := dAX7_newName_0.2.2.2.2.2.1
theorem dX7_newName_12 : decode cX7_newName 12 = .ok (.aload_n 0, 1) := dAX7_newName_0.2.2.2.2.2.2.1
theorem dX7_newName_13 : decode cX7_newName 13 = .ok (.getfield 103, 3) := dAX7_newName_0.2.2.2.2.2.2.2
set_option maxRecDepth 100000 in
theorem dAX7_newName_1 : decode cX7_newName 16 = .ok (.ifCond .ne 19, 3) ∧ decode cX7_newName 19 = .ok (.aload_n 0, 1) ∧ decode cX7_newName 20 = .ok (.invokevirtual 153, 3) ∧ decode cX7_newName 23 = .ok (.ifCond .lt 12, 3) ∧ decode cX7_newName 26 = .ok (.aload_n 0, 1) ∧ decode cX7_newName 27 = .ok (.iconst 3, 1) ∧ decode cX7_newName 28 = .ok (.aload_n 0, 1) ∧ decode cX7_newName 29 = .ok (.getfield 84, 3) := by decide +kernel
theorem dX7_newName_16 : decode cX7_newName 16 = .ok (.ifCond .ne 19, 3) := dAX7_newName_1.1
theorem dX7_newName_19 : decode cX7_newName 19 = .ok (.aload_n 0, 1) := dAX7_newName_1.2.1
theorem dX7_newName_20 : decode cX7_newName 20 = .ok (.invokevirtual 153, 3) := dAX7_newName_1.2.2.1
theorem dX7_newName_23 : decode cX7_newName 23 = .ok (.ifCond .lt 12, 3) := dAX7_newName_1.2.2.2.1
theorem dX7_newName_26 : decode cX7_newName 26 = .ok (.aload_n 0, 1) := dAX7_newName_1.2.2.2.2.1
theorem dX7_newName_27 : decode cX7_newName 27 = .ok (.iconst 3, 1) := dAX7_newName_1.2.2.2.2.2.1
theorem dX7_newName_28 : decode cX7_newName 28 = .ok (.aload_n 0, 1) := dAX7_newName_1.2.2.2.2.2.2.1
theorem dX7_newName_29 : decode cX7_newName 29 = .ok (.getfield 84, 3) := dAX7_newName_1.2.2.2.2.2.2.2
set_option maxRecDepth 100000 in
theorem dAX7_newName_2 : decode cX7_newName 32 = .ok (.invokevirtual 130, 3) ∧ decode cX7_newName 35 = .ok (.aload_n 0, 1) ∧ decode cX7_newName 36 = .ok (.getfield 103, 3) ∧ decode cX7_newName 39 = .ok (.ifCond .eq 4, 3) ∧ decode cX7_newName 42 = .ok (.return_, 1) ∧ decode cX7_newName 43 = .ok (.aload_n 0, 1) ∧ decode cX7_newName 44 = .ok (.getfield 17, 3) ∧ decode cX7_newName 47 = .ok (.iconst 0, 1) := by decide +kernel
theorem dX7_newName_32 : decode cX7_newName 32 = .ok (.invokevirtual 130, 3) := dAX7_newName_2.1
theorem dX7_newName_35 : decode cX7_newName 35 = .ok (.aload_n 0, 1) := dAX7_newName_2.2.1
theorem dX7_newName_36 : decode cX7_newName 36 = .ok (.getfield 103, 3) := dAX7_newName_2.2.2.1
theorem dX7_newName_39 : decode cX7_newName 39 = .ok (.ifCond .eq 4, 3) := dAX7_newName_2.2.2.2.1
theorem dX7_newName_42 : decode cX7_newName 42 = .ok (.return_, 1) := dAX7_newName_2.2.2.2.2.1
theorem dX7_newName_43 : decode cX7_newName 43 = .ok (.aload_n 0, 1) := dAX7_newName_2.2.2.2.2.2.1
theorem dX7_newName_44 : decode cX7_newName 44 = .ok (.getfield 17, 3) := dAX7_newName_2.2.2.2.2.2.2.1
theorem dX7_newName_47 : decode cX7_newName 47 = .ok (.iconst 0, 1) := dAX7_newName_2.2.2.2.2.2.2.2
set_option maxRecDepth 100000 in
theorem dAX7_newName_3 : decode cX7_newName 48 = .ok (.aload_n 0, 1) ∧ decode cX7_newName 49 = .ok (.getfield 41, 3) ∧ decode cX7_newName 52 = .ok (.iconst 0, 1) ∧ decode cX7_newName 53 = .ok (.bipush 8, 2) ∧ decode cX7_newName 55 = .ok (.invokestatic 156, 3) ∧ decode cX7_newName 58 = .ok (.aload_n 0, 1) ∧ decode cX7_newName 59 = .ok (.aload_n 0, 1) ∧ decode cX7_newName 60 = .ok (.getfield 87, 3) := by decide +kernel
theorem dX7_newName_48 : decode cX7_newName 48 = .ok (.aload_n 0, 1) := dAX7_newName_3.1
theorem dX7_newName_49 : decode cX7_newName 49 = .ok (.getfield 41, 3) := dAX7_newName_3.2.1
theorem dX7_newName_52 : decode cX7_newName 52 = .ok (.iconst 0, 1) := dAX7_newName_3.2.2.1
theorem dX7_newName_53 : decode cX7_newName 53 = .ok (.bipush 8, 2) := dAX7_newName_3.2.2.2.1
theorem dX7_newName_55 : decode cX7_newName 55 = .ok (.invokestatic 156, 3) := dAX7_newName_3.2.2.2.2.1
theorem dX7_newName_58 : decode cX7_newName 58 = .ok (.aload_n 0, 1) := dAX7_newName_3.2.2.2.2.2.1
theorem dX7_newName_59 : decode cX7_newName 59 = .ok (.aload_n 0, 1) := dAX7_newName_3.2.2.2.2.2.2.1
theorem dX7_newName_60 : decode cX7_newName 60 = .ok (.getfield 87, 3) := dAX7_newName_3.2.2.2.2.2.2.2
set_option maxRecDepth 100000 in
theorem dAX7_newName_4 : decode cX7_newName 63 = .ok (.putfield 160, 3) ∧ decode cX7_newName 66 = .ok (.aload_n 0, 1) ∧ decode cX7_newName 67 = .ok (.invokevirtual 124, 3) ∧ decode cX7_newName 70 = .ok (.return_, 1) := by decide +kernel
theorem dX7_newName_63 : decode cX7_newName 63 = .ok (.putfield 160, 3) := dAX7_newName_4.1
theorem dX7_newName_66 : decode cX7_newName 66 = .ok (.aload_n 0, 1) := dAX7_newName_4.2.1
theorem dX7_newName_67 : decode cX7_newName 67 = .ok (.invokevirtual 124, 3) := dAX7_newName_4.2.2.1
theorem dX7_newName_70 : decode cX7_newName 70 = .ok (.return_, 1) := dAX7_newName_4.2.2.2
set_option maxRecDepth 100000 in
theorem dAX7_next_0 : decode cX7_next 0 = .ok (.aload_n 0, 1) ∧ decode cX7_next 1 = .ok (.getfield 77, 3) ∧ decode cX7_next 4 = .ok (.istore_n 1, 1) ∧ decode cX7_next 5 = .ok (.aload_n 0, 1) ∧ decode cX7_next 6 = .ok (.iload_n 1, 1) ∧ decode cX7_next 7 = .ok (.invokevirtual 80, 3) ∧ decode cX7_next 10 = .ok (.bipush 32, 2) ∧ decode cX7_next 12 = .ok (.if_icmp .ne 9, 3) := by decide +kernel
theorem dX7_next_0 : decode cX7_next 0 = .ok (.aload_n 0, 1) := dAX7_next_0.1
theorem dX7_next_1 : decode cX7_next 1 = .ok (.getfield 77, 3) := dAX7_next_0.2.1
theorem dX7_next_4 : decode cX7_next 4 = .ok (.istore_n 1, 1) := dAX7_next_0.2.2.1
theorem dX7_next_5 : decode cX7_next 5 = .ok (.aload_n 0, 1) := dAX7_next_0.2.2.2.1
theorem dX7_next_6 : decode cX7_next 6 = .ok (.iload_n 1, 1) := dAX7_next_0.2.2.2.2.1
theorem dX7_next_7 : decode cX7_next 7 = .ok (.invokevirtual 80, 3) := dAX7_next_0.2.2.2.2.2.1
theorem dX7_next_10 : decode cX7_next 10 = .ok (.bipush 32, 2) := dAX7_next_0.2.2.2.2.2.2.1
theorem dX7_next_12 : decode cX7_next 12 = .ok (.if_icmp .ne 9, 3) := dAX7_next_0.2.2.2.2.2.2.2
set_option maxRecDepth 100000 in
theorem dAX7_next_1 : decode cX7_next 15 = .ok (.iinc 1 1, 3) ∧ decode cX7_next 18 = .ok (.goto (-13), 3) ∧ decode cX7_next 21 = .ok (.aload_n 0, 1) ∧ decode cX7_next 22 = .ok (.iload_n 1, 1) ∧ decode cX7_next 23 = .ok (.putfield 84, 3) ∧ decode cX7_next 26 = .ok (.aload_n 0, 1) ∧ decode cX7_next 27 = .ok (.iload_n 1, 1) ∧ decode cX7_next 28 = .ok (.invokevirtual 80, 3) := by decide +kernel
theorem dX7_next_15 : decode cX7_next 15 = .ok (.iinc 1 1, 3) := dAX7_next_1.1
theorem dX7_next_18 : decode cX7_next 18 = .ok (.goto (-13), 3) := dAX7_next_1.2.1
theorem dX7_next_21 : decode cX7_next 21 = .ok (.aload_n 0, 1) := dAX7_next_1.2.2.1
theorem dX7_next_22 : decode cX7_next 22 = .ok (.iload_n 1, 1) := dAX7_next_1.2.2.2.1
theorem dX7_next_23 : decode cX7_next 23 = .ok (.putfield 84, 3) := dAX7_next_1.2.2.2.2.1
theorem dX7_next_26 : decode cX7_next 26 = .ok (.aload_n 0, 1) := dAX7_next_1.2.2.2.2.2.1
theorem dX7_next_27 : decode cX7_next 27 = .ok (.iload_n 1, 1) := dAX7_next_1.2.2.2.2.2.2.1
theorem dX7_next_28 : decode cX7_next 28 = .ok (.invokevirtual 80, 3) := dAX7_next_1.2.2.2.2.2.2.2
set_option maxRecDepth 100000 in
theorem dAX7_next_2 : decode cX7_next 31 = .ok (.istore_n 2, 1) ∧ decode cX7_next 32 = .ok (.aload_n 0, 1) ∧ decode cX7_next 33 = .ok (.iconst 0, 1) ∧ decode cX7_next 34 = .ok (.putfield 87, 3) ∧ decode cX7_next 37 = .ok (.aload_n 0, 1) ∧ decode cX7_next 38 = .ok (.iconst 0, 1) ∧ decode cX7_next 39 = .ok (.putfield 90, 3) ∧ decode cX7_next 42 = .ok (.iload_n 2, 1) := by decide +kernel
theorem dX7_next_31 : decode cX7_next 31 = .ok (.istore_n 2, 1) := dAX7_next_2.1
theorem dX7_next_32 : decode cX7_next 32 = .ok (.aload_n 0, 1) := dAX7_next_2.2.1
theorem dX7_next_33 : decode cX7_next 33 = .ok (.iconst 0, 1) := dAX7_next_2.2.2.1
theorem dX7_next_34 : decode cX7_next 34 = .ok (.putfield 87, 3) := dAX7_next_2.2.2.2.1
theorem dX7_next_37 : decode cX7_next 37 = .ok (.aload_n 0, 1) := dAX7_next_2.2.2.2.2.1
theorem dX7_next_38 : decode cX7_next 38 = .ok (.iconst 0, 1) := dAX7_next_2.2.2.2.2.2.1
theorem dX7_next_39 : decode cX7_next 39 = .ok (.putfield 90, 3) := dAX7_next_2.2.2.2.2.2.2.1
theorem dX7_next_42 : decode cX7_next 42 = .ok (.iload_n 2, 1) := dAX7_next_2.2.2.2.2.2.2.2
set_option maxRecDepth 100000 in
theorem dAX7_next_3 : decode cX7_next 43 = .ok (.iconst (-1), 1) ∧ decode cX7_next 44 = .ok (.if_icmp .ne 16, 3) ∧ decode cX7_next 47 = .ok (.aload_n 0, 1) ∧ decode cX7_next 48 = .ok (.iconst 0, 1) ∧ decode cX7_next 49 = .ok (.putfield 93, 3) ∧ decode cX7_next 52 = .ok (.aload_n 0, 1) ∧ decode cX7_next 53 = .ok (.iload_n 1, 1) ∧ decode cX7_next 54 = .ok (.putfield 77, 3) := by decide +kernel
theorem dX7_next_43 : decode cX7_next 43 = .ok (.iconst (-1), 1) := dAX7_next_3.1
theorem dX7_next_44 : decode cX7_next 44 = .ok (.if_icmp .ne 16, 3) := dAX7_next_3.2.1
theorem dX7_next_47 : decode cX7_next 47 = .ok (.aload_n 0, 1) := dAX7_next_3.2.2.1
theorem dX7_next_48 : decode cX7_next 48 = .ok (.iconst 0, 1) := dAX7_next_3.2.2.2.1
theorem dX7_next_49 : decode cX7_next 49 = .ok (.putfield 93, 3) := dAX7_next_3.2.2.2.2.1
theorem dX7_next_52 : decode cX7_next 52 = .ok (.aload_n 0, 1) := dAX7_next_3.2.2.2.2.2.1
theorem dX7_next_53 : decode cX7_next 53 = .ok (.iload_n 1, 1) := dAX7_next_3.2.2.2.2.2.2.1
theorem dX7_next_54 : decode cX7_next 54 = .ok (.putfield 77, 3) := dAX7_next_3.2.2.2.2.2.2.2
set_option maxRecDepth 100000 in
theorem dAX7_next_4 : decode cX7_next 57 = .ok (.goto 190, 3) ∧ decode cX7_next 60 = .ok (.iload_n 2, 1) ∧ decode cX7_next 61 = .ok (.invokestatic 96, 3) ∧ decode cX7_next 64 = .ok (.ifCond .eq 79, 3) ∧ decode cX7_next 67 = .ok (.aload_n 0, 1) ∧ decode cX7_next 68 = .ok (.iload_n 1, 1) ∧ decode cX7_next 69 = .ok (.invokevirtual 80, 3) ∧ decode cX7_next 72 = .ok (.invokestatic 96, 3) := by decide +kernel
theorem dX7_next_57 : decode cX7_next 57 = .ok (.goto 190, 3) := dAX7_next_4.1
theorem dX7_next_60 : decode cX7_next 60 = .ok (.iload_n 2, 1) := dAX7_next_4.2.1
theorem dX7_next_61 : decode cX7_next 61 = .ok (.invokestatic 96, 3) := dAX7_next_4.2.2.1
theorem dX7_next_64 : decode cX7_next 64 = .ok (.ifCond .eq 79, 3) := dAX7_next_4.2.2.2.1
theorem dX7_next_67 : decode cX7_next 67 = .ok (.aload_n 0, 1) := dAX7_next_4.2.2.2.2.1
theorem dX7_next_68 : decode cX7_next 68 = .ok (.iload_n 1, 1) := dAX7_next_4.2.2.2.2.2.1
theorem dX7_next_69 : decode cX7_next 69 = .ok (.invokevirtual 80, 3) := dAX7_next_4.2.2.2.2.2.2.1
theorem dX7_next_72 : decode cX7_next 72 = .ok (.invokestatic 96, 3) := dAX7_next_4.2.2.2.2.2.2.2
set_option maxRecDepth 100000 in
theorem dAX7_next_5 : decode cX7_next 75 = .ok (.ifCond .eq 42, 3) ∧ decode cX7_next 78 = .ok (.aload_n 0, 1) ∧ decode cX7_next 79 = .ok (.getfield 87, 3) ∧ decode cX7_next 82 = .ok (.bipush 8, 2) ∧ decode cX7_next 84 = .ok (.if_icmp .ge 17, 3) ∧ decode cX7_next 87 = .ok (.aload_n 0, 1) ∧ decode cX7_next 88 = .ok (.getfield 17, 3) ∧ decode cX7_next 91 = .ok (.aload_n 0, 1) := by decide +kernel
theorem dX7_next_75 : decode cX7_next 75 = .ok (.ifCond .eq 42, 3) := dAX7_next_5.1
theorem dX7_next_78 : decode cX7_next 78 = .ok (.aload_n 0, 1) := dAX7_next_5.2.1
theorem dX7_next_79 : decode cX7_next 79 = .ok (.getfield 87, 3) := dAX7_next_5.2.2.1
theorem dX7_next_82 : decode cX7_next 82 = .ok (.bipush 8, 2) := dAX7_next_5.2.2.2.1
theorem dX7_next_84 : decode cX7_next 84 = .ok (.if_icmp .ge 17, 3) := dAX7_next_5.2.2.2.2.1
theorem dX7_next_87 : decode cX7_next 87 = .ok (.aload_n 0, 1) := dAX7_next_5.2.2.2.2.2.1
theorem dX7_next_88 : decode cX7_next 88 = .ok (.getfield 17, 3) := dAX7_next_5.2.2.2.2.2.2.1
theorem dX7_next_91 : decode cX7_next 91 = .ok (.aload_n 0, 1) := dAX7_next_5.2.2.2.2.2.2.2
set_option maxRecDepth 100000 in
theorem dAX7_next_6 : decode cX7_next 92 = .ok (.getfield 87, 3) ∧ decode cX7_next 95 = .ok (.aload_n 0, 1) ∧ decode cX7_next 96 = .ok (.iload_n 1, 1) ∧ decode cX7_next 97 = .ok (.invokevirtual 80, 3) ∧ decode cX7_next 100 = .ok (.iastore, 1) ∧ decode cX7_next 101 = .ok (.aload_n 0, 1) ∧ decode cX7_next 102 = .ok (.dup, 1) ∧ decode cX7_next 103 = .ok (.getfield 87, 3) := by decide +kernel
theorem dX7_next_92 : decode cX7_next 92 = .ok (.getfield 87, 3) := dAX7_next_6.1
theorem dX7_next_95 : decode cX7_next 95 = .ok (.aload_n 0, 1) := dAX7_next_6.2.1
theorem dX7_next_96 : decode cX7_next 96 = .ok (.iload_n 1, 1) := dAX7_next_6.2.2.1
theorem dX7_next_97 : decode cX7_next 97 = .ok (.invokevirtual 80, 3) := dAX7_next_6.2.2.2.1
theorem dX7_next_100 : decode cX7_next 100 = .ok (.iastore, 1) := dAX7_next_6.2.2.2.2.1
theorem dX7_next_101 : decode cX7_next 101 = .ok (.aload_n 0, 1) := dAX7_next_6.2.2.2.2.2.1
theorem dX7_next_102 : decode cX7_next 102 = .ok (.dup, 1) := dAX7_next_6.2.2.2.2.2.2.1
theorem dX7_next_103 : decode cX7_next 103 = .ok (.getfield 87, 3) := dAX7_next_6.2.2.2.2.2.2.2
set_option maxRecDepth 100000 in
theorem dAX7_next_7 : decode cX7_next 106 = .ok (.iconst 1, 1) ∧ decode cX7_next 107 = .ok (.iadd, 1) ∧ decode cX7_next 108 = .ok (.putfield 87, 3) ∧ decode cX7_next 111 = .ok (.iinc 1 1, 3) ∧ decode cX7_next 114 = .ok (.goto (-47), 3) ∧ decode cX7_next 117 = .ok (.aload_n 0, 1) ∧ decode cX7_next 118 = .ok (.iload_n 1, 1) ∧ decode cX7_next 119 = .ok (.putfield 77, 3) := by decide +kernel
theorem dX7_next_106 : decode cX7_next 106 = .ok (.iconst 1, 1) := dAX7_next_7.1
theorem dX7_next_107 : decode cX7_next 107 = .ok (.iadd, 1) := dAX7_next_7.2.1
theorem dX7_next_108 : decode cX7_next 108 = .ok (.putfield 87, 3) := dAX7_next_7.2.2.1
theorem dX7_next_111 : decode cX7_next 111 = .ok (.iinc 1 1, 3) := dAX7_next_7.2.2.2.1
theorem dX7_next_114 : decode cX7_next 114 = .ok (.goto (-47), 3) := dAX7_next_7.2.2.2.2.1
theorem dX7_next_117 : decode cX7_next 117 = .ok (.aload_n 0, 1) := dAX7_next_7.2.2.2.2.2.1
theorem dX7_next_118 : decode cX7_next 118 = .ok (.iload_n 1, 1) := dAX7_next_7.2.2.2.2.2.2.1
theorem dX7_next_119 : decode cX7_next 119 = .ok (.putfield 77, 3) := dAX7_next_7.2.2.2.2.2.2.2
set_option maxRecDepth 100000 in
theorem dAX7_next_8 : decode cX7_next 122 = .ok (.aload_n 0, 1) ∧ decode cX7_next 123 = .ok (.aload_n 0, 1) ∧ decode cX7_next 124 = .ok (.getfield 87, 3) ∧ decode cX7_next 127 = .ok (.bipush 8, 2) ∧ decode cX7_next 129 = .ok (.if_icmp .le 7, 3) ∧ decode cX7_next 132 = .ok (.iconst 1, 1) ∧ decode cX7_next 133 = .ok (.goto 4, 3) ∧ decode cX7_next 136 = .ok (.iconst 2, 1) := by decide +kernel
theorem dX7_next_122 : decode cX7_next 122 = .ok (.aload_n 0, 1) := dAX7_next_8.1
theorem dX7_next_123 : decode cX7_next 123 = .ok (.aload_n 0, 1) := dAX7_next_8.2.1
theorem dX7_next_124 : decode cX7_next 124 = .ok (.getfield 87, 3) := dAX7_next_8.2.2.1
theorem dX7_next_127 : decode cX7_next 127 = .ok (.bipush 8, 2) := dAX7_next_8.2.2.2.1
theorem dX7_next_129 : decode cX7_next 129 = .ok (.if_icmp .le 7, 3) := dAX7_next_8.2.2.2.2.1
theorem dX7_next_132 : decode cX7_next 132 = .ok (.iconst 1, 1) := dAX7_next_8.2.2.2.2.2.1
theorem dX7_next_133 : decode cX7_next 133 = .ok (.goto 4, 3) := dAX7_next_8.2.2.2.2.2.2.1
theorem dX7_next_136 : decode cX7_next 136 = .ok (.iconst 2, 1) := dAX7_next_8.2.2.2.2.2.2.2
set_option maxRecDepth 100000 in
theorem dAX7_next_9 : decode cX7_next 137 = .ok (.putfield 93, 3) ∧ decode cX7_next 140 = .ok (.goto 107, 3) ∧ decode cX7_next 143 = .ok (.iload_n 2, 1) ∧ decode cX7_next 144 = .ok (.invokestatic 100, 3) ∧ decode cX7_next 147 = .ok (.ifCond .eq 72, 3) ∧ decode cX7_next 150 = .ok (.iconst 0, 1) ∧ decode cX7_next 151 = .ok (.istore_n 3, 1) ∧ decode cX7_next 152 = .ok (.aload_n 0, 1) := by decide +kernel
theorem dX7_next_137 : decode cX7_next 137 = .ok (.putfield 93, 3) := dAX7_next_9.1
theorem dX7_next_140 : decode cX7_next 140 = .ok (.goto 107, 3) := dAX7_next_9.2.1
theorem dX7_next_143 : decode cX7_next 143 = .ok (.iload_n 2, 1) := dAX7_next_9.2.2.1
theorem dX7_next_144 : decode cX7_next 144 = .ok (.invokestatic 100, 3) := dAX7_next_9.2.2.2.1
theorem dX7_next_147 : decode cX7_next 147 = .ok (.ifCond .eq 72, 3) := dAX7_next_9.2.2.2.2.1
theorem dX7_next_150 : decode cX7_next 150 = .ok (.iconst 0, 1) := dAX7_next_9.2.2.2.2.2.1
theorem dX7_next_151 : decode cX7_next 151 = .ok (.istore_n 3, 1) := dAX7_next_9.2.2.2.2.2.2.1
theorem dX7_next_152 : decode cX7_next 152 = .ok (.aload_n 0, 1) := dAX7_next_9.2.2.2.2.2.2.2
set_option maxRecDepth 100000 in
theorem dAX7_next_10 : decode cX7_next 153 = .ok (.iload_n 1, 1) ∧ decode cX7_next 154 = .ok (.invokevirtual 80, 3) ∧ decode cX7_next 157 = .ok (.invokestatic 100, 3) ∧ decode cX7_next 160 = .ok (.ifCond .eq 37, 3) ∧ decode cX7_next 163 = .ok (.iload_n 3, 1) ∧ decode cX7_next 164 = .ok (.iconst 3, 1) ∧ decode cX7_next 165 = .ok (.if_icmp .ge 23, 3) ∧ decode cX7_next 168 = .ok (.aload_n 0, 1) := by decide +kernel
theorem dX7_next_153 : decode cX7_next 153 = .ok (.iload_n 1, 1) := dAX7_next_10.1
theorem dX7_next_154 : decode cX7_next 154 = .ok (.invokevirtual 80, 3) := dAX7_next_10.2.1
theorem dX7_next_157 : decode cX7_next 157 = .ok (.invokestatic 100, 3) := dAX7_next_10.2.2.1
theorem dX7_next_160 : decode cX7_next 160 = .ok (.ifCond .eq 37, 3) := dAX7_next_10.2.2.2.1
theorem dX7_next_163 : decode cX7_next 163 = .ok (.iload_n 3, 1) := dAX7_next_10.2.2.2.2.1
theorem dX7_next_164 : decode cX7_next 164 = .ok (.iconst 3, 1) := dAX7_next_10.2.2.2.2.2.1
theorem dX7_next_165 : decode cX7_next 165 = .ok (.if_icmp .ge 23, 3) := dAX7_next_10.2.2.2.2.2.2.1
theorem dX7_next_168 : decode cX7_next 168 = .ok (.aload_n 0, 1) := dAX7_next_10.2.2.2.2.2.2.2
set_option maxRecDepth 100000 in
theorem dAX7_next_11 : decode cX7_next 169 = .ok (.bipush 10, 2) ∧ decode cX7_next 171 = .ok (.aload_n 0, 1) ∧ decode cX7_next 172 = .ok (.getfield 90, 3) ∧ decode cX7_next 175 = .ok (.imul, 1) ∧ decode cX7_next 176 = .ok (.aload_n 0, 1) ∧ decode cX7_next 177 = .ok (.iload_n 1, 1) ∧ decode cX7_next 178 = .ok (.invokevirtual 80, 3) ∧ decode cX7_next 181 = .ok (.iadd, 1) := by decide +kernel
theorem dX7_next_169 : decode cX7_next 169 = .ok (.bipush 10, 2) := dAX7_next_11.1
theorem dX7_next_171 : decode cX7_next 171 = .ok (.aload_n 0, 1) := dAX7_next_11.2.1
theorem dX7_next_172 : decode cX7_next 172 = .ok (.getfield 90, 3) := dAX7_next_11.2.2.1
theorem dX7_next_175 : decode cX7_next 175 = .ok (.imul, 1) := dAX7_next_11.2.2.2.1
theorem dX7_next_176 : decode cX7_next 176 = .ok (.aload_n 0, 1) := dAX7_next_11.2.2.2.2.1
theorem dX7_next_177 : decode cX7_next 177 = .ok (.iload_n 1, 1) := dAX7_next_11.2.2.2.2.2.1
theorem dX7_next_178 : decode cX7_next 178 = .ok (.invokevirtual 80, 3) := dAX7_next_11.2.2.2.2.2.2.1
theorem dX7_next_181 : decode cX7_next 181 = .ok (.iadd, 1) := dAX7_next_11.2.2.2.2.2.2.2
set_option maxRecDepth 100000 in
theorem dAX7_next_12 : decode cX7_next 182 = .ok (.bipush 48, 2) ∧ decode cX7_next 184 = .ok (.isub, 1) ∧ decode cX7_next 185 = .ok (.putfield 90, 3) ∧ decode cX7_next 188 = .ok (.iinc 3 1, 3) ∧ decode cX7_next 191 = .ok (.iinc 1 1, 3) ∧ decode cX7_next 194 = .ok (.goto (-42), 3) ∧ decode cX7_next 197 = .ok (.aload_n 0, 1) ∧ decode cX7_next 198 = .ok (.iload_n 1, 1) := by decide +kernel
theorem dX7_next_182 : decode cX7_next 182 = .ok (.bipush 48, 2) := dAX7_next_12.1
theorem dX7_next_184 : decode cX7_next 184 = .ok (.isub, 1) := dAX7_next_12.2.1
theorem dX7_next_185 : decode cX7_next 185 = .ok (.putfield 90, 3) := dAX7_next_12.2.2.1
theorem dX7_next_188 : decode cX7_next 188 = .ok (.iinc 3 1, 3) := dAX7_next_12.2.2.2.1
theorem dX7_next_191 : decode cX7_next 191 = .ok (.iinc 1 1, 3) := dAX7_next_12.2.2.2.2.1
theorem dX7_next_194 : decode cX7_next 194 = .ok (.goto (-42), 3) := dAX7_next_12.2.2.2.2.2.1
theorem dX7_next_197 : decode cX7_next 197 = .ok (.aload_n 0, 1) := dAX7_next_12.2.2.2.2.2.2.1
theorem dX7_next_198 : decode cX7_next 198 = .ok (.iload_n 1, 1) := dAX7_next_12.2.2.2.2.2.2.2
set_option maxRecDepth 100000 in
theorem dAX7_next_13 : decode cX7_next 199 = .ok (.putfield 77, 3) ∧ decode cX7_next 202 = .ok (.aload_n 0, 1) ∧ decode cX7_next 203 = .ok (.iload_n 3, 1) ∧ decode cX7_next 204 = .ok (.iconst 3, 1) ∧ decode cX7_next 205 = .ok (.if_icmp .le 7, 3) ∧ decode cX7_next 208 = .ok (.iconst 1, 1) ∧ decode cX7_next 209 = .ok (.goto 4, 3) ∧ decode cX7_next 212 = .ok (.iconst 3, 1) := by decide +kernel
theorem dX7_next_199 : decode cX7_next 199 = .ok (.putfield 77, 3) := dAX7_next_13.1
theorem dX7_next_202 : decode cX7_next 202 = .ok (.aload_n 0, 1) := dAX7_next_13.2.1
theorem dX7_next_203 : decode cX7_next 203 = .ok (.iload_n 3, 1) := dAX7_next_13.2.2.1
theorem dX7_next_204 : decode cX7_next 204 = .ok (.iconst 3, 1) := dAX7_next_13.2.2.2.1
theorem dX7_next_205 : decode cX7_next 205 = .ok (.if_icmp .le 7, 3) := dAX7_next_13.2.2.2.2.1
theorem dX7_next_208 : decode cX7_next 208 = .ok (.iconst 1, 1) := dAX7_next_13.2.2.2.2.2.1
theorem dX7_next_209 : decode cX7_next 209 = .ok (.goto 4, 3) := dAX7_next_13.2.2.2.2.2.2.1
theorem dX7_next_212 : decode cX7_next 212 = .ok (.iconst 3, 1) := dAX7_next_13.2.2.2.2.2.2.2
set_option maxRecDepth 100000 in
theorem dAX7_next_14 : decode cX7_next 213 = .ok (.putfield 93, 3) ∧ decode cX7_next 216 = .ok (.goto 31, 3) ∧ decode cX7_next 219 = .ok (.aload_n 0, 1) ∧ decode cX7_next 220 = .ok (.iload_n 1, 1) ∧ decode cX7_next 221 = .ok (.iconst 1, 1) ∧ decode cX7_next 222 = .ok (.iadd, 1) ∧ decode cX7_next 223 = .ok (.putfield 77, 3) ∧ decode cX7_next 226 = .ok (.aload_n 0, 1) := by decide +kernel
theorem dX7_next_213 : decode cX7_next 213 = .ok (.putfield 93, 3) := dAX7_next_14.1
theorem dX7_next_216 : decode cX7_next 216 = .ok (.goto 31, 3) := dAX7_next_14.2.1
theorem dX7_next_219 : decode cX7_next 219 = .ok (.aload_n 0, 1) := dAX7_next_14.2.2.1
theorem dX7_next_220 : decode cX7_next 220 = .ok (.iload_n 1, 1) := dAX7_next_14.2.2.2.1
theorem dX7_next_221 : decode cX7_next 221 = .ok (.iconst 1, 1) := dAX7_next_14.2.2.2.2.1
theorem dX7_next_222 : decode cX7_next 222 = .ok (.iadd, 1) := dAX7_next_14.2.2.2.2.2.1
theorem dX7_next_223 : decode cX7_next 223 = .ok (.putfield 77, 3) := dAX7_next_14.2.2.2.2.2.2.1
theorem dX7_next_226 : decode cX7_next 226 = .ok (.aload_n 0, 1) := dAX7_next_14.2.2.2.2.2.2.2
set_option maxRecDepth 100000 in
theorem dAX7_next_15 : decode cX7_next 227 = .ok (.iload_n 2, 1) ∧ decode cX7_next 228 = .ok (.bipush 59, 2) ∧ decode cX7_next 230 = .ok (.if_icmp .eq 9, 3) ∧ decode cX7_next 233 = .ok (.iload_n 2, 1) ∧ decode cX7_next 234 = .ok (.bipush 44, 2) ∧ decode cX7_next 236 = .ok (.if_icmp .ne 7, 3) ∧ decode cX7_next 239 = .ok (.iload_n 2, 1) ∧ decode cX7_next 240 = .ok (.goto 4, 3) := by decide +kernel
theorem dX7_next_227 : decode cX7_next 227 = .ok (.iload_n 2, 1) := dAX7_next_15.1
theorem dX7_next_228 : decode cX7_next 228 = .ok (.bipush 59, 2) := dAX7_next_15.2.1
theorem dX7_next_230 : decode cX7_next 230 = .ok (.if_icmp .eq 9, 3) := dAX7_next_15.2.2.1
theorem dX7_next_233 : decode cX7_next 233 = .ok (.iload_n 2, 1) := dAX7_next_15.2.2.2.1
theorem dX7_next_234 : decode cX7_next 234 = .ok (.bipush 44, 2) := dAX7_next_15.2.2.2.2.1
theorem dX7_next_236 : decode cX7_next 236 = .ok (.if_icmp .ne 7, 3) := dAX7_next_15.2.2.2.2.2.1
theorem dX7_next_239 : decode cX7_next 239 = .ok (.iload_n 2, 1) := dAX7_next_15.2.2.2.2.2.2.1
theorem dX7_next_240 : decode cX7_next 240 = .ok (.goto 4, 3) := dAX7_next_15.2.2.2.2.2.2.2
set_option maxRecDepth 100000 in
theorem dAX7_next_16 : decode cX7_next 243 = .ok (.iconst 1, 1) ∧ decode cX7_next 244 = .ok (.putfield 93, 3) ∧ decode cX7_next 247 = .ok (.return_, 1) := by decide +kernel
theorem dX7_next_243 : decode cX7_next 243 = .ok (.iconst 1, 1) := dAX7_next_16.1
theorem dX7_next_244 : decode cX7_next 244 = .ok (.putfield 93, 3) := dAX7_next_16.2.1
theorem dX7_next_247 : decode cX7_next 247 = .ok (.return_, 1) := dAX7_next_16.2.2
set_option maxRecDepth 100000 in
theorem dAX7_night_0 : decode cX7_night 0 = .ok (.aload_n 0, 1) ∧ decode cX7_night 1 = .ok (.invokevirtual 175, 3) ∧ decode cX7_night 4 = .ok (.aload_n 0, 1) ∧ decode cX7_night 5 = .ok (.iload_n 1, 1) ∧ decode cX7_night 6 = .ok (.iconst 0, 1) ∧ decode cX7_night 7 = .ok (.bipush 9, 2) ∧ decode cX7_night 9 = .ok (.invokestatic 163, 3) ∧ decode cX7_night 12 = .ok (.invokevirtual 307, 3) := by decide +kernel
theorem dX7_night_0 : decode cX7_night 0 = .ok (.aload_n 0, 1) := dAX7_night_0.1
theorem dX7_night_1 : decode cX7_night 1 = .ok (.invokevirtual 175, 3) := dAX7_night_0.2.1
theorem dX7_night_4 : decode cX7_night 4 = .ok (.aload_n 0, 1) := dAX7_night_0.2.2.1
theorem dX7_night_5 : decode cX7_night 5 = .ok (.iload_n 1, 1) := dAX7_night_0.2.2.2.1
theorem dX7_night_6 : decode cX7_night 6 = .ok (.iconst 0, 1) := dAX7_night_0.2.2.2.2.1
theorem dX7_night_7 : decode cX7_night 7 = .ok (.bipush 9, 2) := dAX7_night_0.2.2.2.2.2.1
theorem dX7_night_9 : decode cX7_night 9 = .ok (.invokestatic 163, 3) := dAX7_night_0.2.2.2.2.2.2.1
theorem dX7_night_12 : decode cX7_night 12 = .ok (.invokevirtual 307, 3) := dAX7_night_0.2.2.2.2.2.2.2
set_option maxRecDepth 100000 in
theorem dAX7_night_1 : decode cX7_night 15 = .ok (.istore_n 3, 1) ∧ decode cX7_night 16 = .ok (.iload_n 3, 1) ∧ decode cX7_night 17 = .ok (.ifCond .eq 12, 3) ∧ decode cX7_night 20 = .ok (.aload_n 0, 1) ∧ decode cX7_night 21 = .ok (.iload_n 3, 1) ∧ decode cX7_night 22 = .ok (.invokevirtual 178, 3) ∧ decode cX7_night 25 = .ok (.i2l, 1) ∧ decode cX7_night 26 = .ok (.goto 18, 3) := by decide +kernel
theorem dX7_night_15 : decode cX7_night 15 = .ok (.istore_n 3, 1) := dAX7_night_1.1
theorem dX7_night_16 : decode cX7_night 16 = .ok (.iload_n 3, 1) := dAX7_night_1.2.1
theorem dX7_night_17 : decode cX7_night 17 = .ok (.ifCond .eq 12, 3) := dAX7_night_1.2.2.1
theorem dX7_night_20 : decode cX7_night 20 = .ok (.aload_n 0, 1) := dAX7_night_1.2.2.2.1
theorem dX7_night_21 : decode cX7_night 21 = .ok (.iload_n 3, 1) := dAX7_night_1.2.2.2.2.1
theorem dX7_night_22 : decode cX7_night 22 = .ok (.invokevirtual 178, 3) := dAX7_night_1.2.2.2.2.2.1
theorem dX7_night_25 : decode cX7_night 25 = .ok (.i2l, 1) := dAX7_night_1.2.2.2.2.2.2.1
theorem dX7_night_26 : decode cX7_night 26 = .ok (.goto 18, 3) := dAX7_night_1.2.2.2.2.2.2.2
set_option maxRecDepth 100000 in
theorem dAX7_night_2 : decode cX7_night 29 = .ok (.aload_n 0, 1) ∧ decode cX7_night 30 = .ok (.iload_n 1, 1) ∧ decode cX7_night 31 = .ok (.invokevirtual 364, 3) ∧ decode cX7_night 34 = .ok (.i2l, 1) ∧ decode cX7_night 35 = .ok (.aload_n 0, 1) ∧ decode cX7_night 36 = .ok (.getfield 44, 3) ∧ decode cX7_night 39 = .ok (.i2l, 1) ∧ decode cX7_night 40 = .ok (.iload_n 2, 1) := by decide +kernel
theorem dX7_night_29 : decode cX7_night 29 = .ok (.aload_n 0, 1) := dAX7_night_2.1
theorem dX7_night_30 : decode cX7_night 30 = .ok (.iload_n 1, 1) := dAX7_night_2.2.1
theorem dX7_night_31 : decode cX7_night 31 = .ok (.invokevirtual 364, 3) := dAX7_night_2.2.2.1
theorem dX7_night_34 : decode cX7_night 34 = .ok (.i2l, 1) := dAX7_night_2.2.2.2.1
theorem dX7_night_35 : decode cX7_night 35 = .ok (.aload_n 0, 1) := dAX7_night_2.2.2.2.2.1
theorem dX7_night_36 : decode cX7_night 36 = .ok (.getfield 44, 3) := dAX7_night_2.2.2.2.2.2.1
theorem dX7_night_39 : decode cX7_night 39 = .ok (.i2l, 1) := dAX7_night_2.2.2.2.2.2.2.1
theorem dX7_night_40 : decode cX7_night 40 = .ok (.iload_n 2, 1) := dAX7_night_2.2.2.2.2.2.2.2
set_option maxRecDepth 100000 in
theorem dAX7_night_3 : decode cX7_night 41 = .ok (.invokestatic 283, 3) ∧ decode cX7_night 44 = .ok (.lreturn, 1) := by decide +kernel
theorem dX7_night_41 : decode cX7_night 41 = .ok (.invokestatic 283, 3) := dAX7_night_3.1
theorem dX7_night_44 : decode cX7_night 44 = .ok (.lreturn, 1) := dAX7_night_3.2
set_option maxRecDepth 100000 in
theorem dAX7_no_0 : decode cX7_no 0 = .ok (.aload_n 0, 1) ∧ decode cX7_no 1 = .ok (.iload_n 1, 1) ∧ decode cX7_no 2 = .ok (.putfield 68, 3) ∧ decode cX7_no 5 = .ok (.iconst (-1), 1) ∧ decode cX7_no 6 = .ok (.ireturn, 1) := by decide +kernel
theorem dX7_no_0 : decode cX7_no 0 = .ok (.aload_n 0, 1) := dAX7_no_0.1
theorem dX7_no_1 : decode cX7_no 1 = .ok (.iload_n 1, 1) := dAX7_no_0.2.1
theorem dX7_no_2 : decode cX7_no 2 = .ok (.putfield 68, 3) := dAX7_no_0.2.2.1
theorem dX7_no_5 : decode cX7_no 5 = .ok (.iconst (-1), 1) := dAX7_no_0.2.2.2.1
theorem dX7_no_6 : decode cX7_no 6 = .ok (.ireturn, 1) := dAX7_no_0.2.2.2.2
set_option maxRecDepth 100000 in
theorem dAX7_node_0 : decode cX7_node 0 = .ok (.aload_n 0, 1) ∧ decode cX7_node 1 = .ok (.invokevirtual 175, 3) ∧ decode cX7_node 4 = .ok (.aload_n 0, 1) ∧ decode cX7_node 5 = .ok (.iload_n 1, 1) ∧ decode cX7_node 6 = .ok (.invokevirtual 242, 3) ∧ decode cX7_node 9 = .ok (.ifCond .eq 12, 3) ∧ decode cX7_node 12 = .ok (.iload_n 2, 1) ∧ decode cX7_node 13 = .ok (.iconst 0, 1) := by decide +kernel
theorem dX7_node_0 : decode cX7_node 0 = .ok (.aload_n 0, 1) := dAX7_node_0.1
theorem dX7_node_1 : decode cX7_node 1 = .ok (.invokevirtual 175, 3) := dAX7_node_0.2.1
theorem dX7_node_4 : decode cX7_node 4 = .ok (.aload_n 0, 1) := dAX7_node_0.2.2.1
theorem dX7_node_5 : decode cX7_node 5 = .ok (.iload_n 1, 1) := dAX7_node_0.2.2.2.1
theorem dX7_node_6 : decode cX7_node 6 = .ok (.invokevirtual 242, 3) := dAX7_node_0.2.2.2.2.1
theorem dX7_node_9 : decode cX7_node 9 = .ok (.ifCond .eq 12, 3) := dAX7_node_0.2.2.2.2.2.1
theorem dX7_node_12 : decode cX7_node 12 = .ok (.iload_n 2, 1) := dAX7_node_0.2.2.2.2.2.2.1
theorem dX7_node_13 : decode cX7_node 13 = .ok (.iconst 0, 1) := dAX7_node_0.2.2.2.2.2.2.2
set_option maxRecDepth 100000 in
theorem dAX7_node_1 : decode cX7_node 14 = .ok (.iconst 4, 1) ∧ decode cX7_node 15 = .ok (.invokestatic 163, 3) ∧ decode cX7_node 18 = .ok (.ifCond .ne 9, 3) ∧ decode cX7_node 21 = .ok (.aload_n 0, 1) ∧ decode cX7_node 22 = .ok (.iconst 1, 1) ∧ decode cX7_node 23 = .ok (.invokevirtual 178, 3) ∧ decode cX7_node 26 = .ok (.ireturn, 1) ∧ decode cX7_node 27 = .ok (.iload_n 2, 1) := by decide +kernel
theorem dX7_node_14 : decode cX7_node 14 = .ok (.iconst 4, 1) := dAX7_node_1.1
theorem dX7_node_15 : decode cX7_node 15 = .ok (.invokestatic 163, 3) := dAX7_node_1.2.1
theorem dX7_node_18 : decode cX7_node 18 = .ok (.ifCond .ne 9, 3) := dAX7_node_1.2.2.1
theorem dX7_node_21 : decode cX7_node 21 = .ok (.aload_n 0, 1) := dAX7_node_1.2.2.2.1
theorem dX7_node_22 : decode cX7_node 22 = .ok (.iconst 1, 1) := dAX7_node_1.2.2.2.2.1
theorem dX7_node_23 : decode cX7_node 23 = .ok (.invokevirtual 178, 3) := dAX7_node_1.2.2.2.2.2.1
theorem dX7_node_26 : decode cX7_node 26 = .ok (.ireturn, 1) := dAX7_node_1.2.2.2.2.2.2.1
theorem dX7_node_27 : decode cX7_node 27 = .ok (.iload_n 2, 1) := dAX7_node_1.2.2.2.2.2.2.2
set_option maxRecDepth 100000 in
theorem dAX7_node_2 : decode cX7_node 28 = .ok (.tableswitch 64 0 3 #[32, 42, 52, 58], 32) ∧ decode cX7_node 60 = .ok (.aload_n 0, 1) ∧ decode cX7_node 61 = .ok (.getfield 20, 3) ∧ decode cX7_node 64 = .ok (.bipush 9, 2) ∧ decode cX7_node 66 = .ok (.iload_n 1, 1) ∧ decode cX7_node 67 = .ok (.iadd, 1) ∧ decode cX7_node 68 = .ok (.iaload, 1) ∧ decode cX7_node 69 = .ok (.ireturn, 1) := by decide +kernel
theorem dX7_node_28 : decode cX7_node 28 = .ok (.tableswitch 64 0 3 #[32, 42, 52, 58], 32) := dAX7_node_2.1
theorem dX7_node_60 : decode cX7_node 60 = .ok (.aload_n 0, 1) := dAX7_node_2.2.1
theorem dX7_node_61 : decode cX7_node 61 = .ok (.getfield 20, 3) := dAX7_node_2.2.2.1
theorem dX7_node_64 : decode cX7_node 64 = .ok (.bipush 9, 2) := dAX7_node_2.2.2.2.1
theorem dX7_node_66 : decode cX7_node 66 = .ok (.iload_n 1, 1) := dAX7_node_2.2.2.2.2.1
theorem dX7_node_67 : decode cX7_node 67 = .ok (.iadd, 1) := dAX7_node_2.2.2.2.2.2.1
theorem dX7_node_68 : decode cX7_node 68 = .ok (.iaload, 1) := dAX7_node_2.2.2.2.2.2.2.1
theorem dX7_node_69 : decode cX7_node 69 = .ok (.ireturn, 1) := dAX7_node_2.2.2.2.2.2.2.2
set_option maxRecDepth 100000 in
theorem dAX7_node_3 : decode cX7_node 70 = .ok (.aload_n 0, 1) ∧ decode cX7_node 71 = .ok (.getfield 20, 3) ∧ decode cX7_node 74 = .ok (.bipush 27, 2) ∧ decode cX7_node 76 = .ok (.iload_n 1, 1) ∧ decode cX7_node 77 = .ok (.iadd, 1) ∧ decode cX7_node 78 = .ok (.iaload, 1) ∧ decode cX7_node 79 = .ok (.ireturn, 1) ∧ decode cX7_node 80 = .ok (.aload_n 0, 1) := by decide +kernel
theorem dX7_node_70 : decode cX7_node 70 = .ok (.aload_n 0, 1) := dAX7_node_3.1
theorem dX7_node_71 : decode cX7_node 71 = .ok (.getfield 20, 3) := dAX7_node_3.2.1
theorem dX7_node_74 : decode cX7_node 74 = .ok (.bipush 27, 2) := dAX7_node_3.2.2.1
theorem dX7_node_76 : decode cX7_node 76 = .ok (.iload_n 1, 1) := dAX7_node_3.2.2.2.1
theorem dX7_node_77 : decode cX7_node 77 = .ok (.iadd, 1) := dAX7_node_3.2.2.2.2.1
theorem dX7_node_78 : decode cX7_node 78 = .ok (.iaload, 1) := dAX7_node_3.2.2.2.2.2.1
theorem dX7_node_79 : decode cX7_node 79 = .ok (.ireturn, 1) := dAX7_node_3.2.2.2.2.2.2.1
theorem dX7_node_80 : decode cX7_node 80 = .ok (.aload_n 0, 1) := dAX7_node_3.2.2.2.2.2.2.2
set_option maxRecDepth 100000 in
theorem dAX7_node_4 : decode cX7_node 81 = .ok (.iload_n 1, 1) ∧ decode cX7_node 82 = .ok (.invokevirtual 274, 3) ∧ decode cX7_node 85 = .ok (.ireturn, 1) ∧ decode cX7_node 86 = .ok (.aload_n 0, 1) ∧ decode cX7_node 87 = .ok (.iload_n 1, 1) ∧ decode cX7_node 88 = .ok (.invokevirtual 277, 3) ∧ decode cX7_node 91 = .ok (.ireturn, 1) ∧ decode cX7_node 92 = .ok (.aload_n 0, 1) := by decide +kernel
theorem dX7_node_81 : decode cX7_node 81 = .ok (.iload_n 1, 1) := dAX7_node_4.1
theorem dX7_node_82 : decode cX7_node 82 = .ok (.invokevirtual 274, 3) := dAX7_node_4.2.1
theorem dX7_node_85 : decode cX7_node 85 = .ok (.ireturn, 1) := dAX7_node_4.2.2.1
theorem dX7_node_86 : decode cX7_node 86 = .ok (.aload_n 0, 1) := dAX7_node_4.2.2.2.1
theorem dX7_node_87 : decode cX7_node 87 = .ok (.iload_n 1, 1) := dAX7_node_4.2.2.2.2.1
theorem dX7_node_88 : decode cX7_node 88 = .ok (.invokevirtual 277, 3) := dAX7_node_4.2.2.2.2.2.1
theorem dX7_node_91 : decode cX7_node 91 = .ok (.ireturn, 1) := dAX7_node_4.2.2.2.2.2.2.1
theorem dX7_node_92 : decode cX7_node 92 = .ok (.aload_n 0, 1) := dAX7_node_4.2.2.2.2.2.2.2
set_option maxRecDepth 100000 in
theorem dAX7_node_5 : decode cX7_node 93 = .ok (.iload_n 1, 1) ∧ decode cX7_node 94 = .ok (.invokevirtual 280, 3) ∧ decode cX7_node 97 = .ok (.ireturn, 1) := by decide +kernel
theorem dX7_node_93 : decode cX7_node 93 = .ok (.iload_n 1, 1) := dAX7_node_5.1
theorem dX7_node_94 : decode cX7_node 94 = .ok (.invokevirtual 280, 3) := dAX7_node_5.2.1
theorem dX7_node_97 : decode cX7_node 97 = .ok (.ireturn, 1) := dAX7_node_5.2.2
set_option maxRecDepth 100000 in
theorem dAX7_nodeHere_0 : decode cX7_nodeHere 0 = .ok (.aload_n 0, 1) ∧ decode cX7_nodeHere 1 = .ok (.getfield 103, 3) ∧ decode cX7_nodeHere 4 = .ok (.ifCond .eq 5, 3) ∧ decode cX7_nodeHere 7 = .ok (.iconst 0, 1) ∧ decode cX7_nodeHere 8 = .ok (.ireturn, 1) ∧ decode cX7_nodeHere 9 = .ok (.aload_n 0, 1) ∧ decode cX7_nodeHere 10 = .ok (.invokevirtual 150, 3) ∧ decode cX7_nodeHere 13 = .ok (.aload_n 0, 1) := by decide +kernel
theorem dX7_nodeHere_0 : decode cX7_nodeHere 0 = .ok (.aload_n 0, 1) := dAX7_nodeHere_0.1
theorem dX7_nodeHere_1 : decode cX7_nodeHere 1 = .ok (.getfield 103, 3) := dAX7_nodeHere_0.2.1
theorem dX7_nodeHere_4 : decode cX7_nodeHere 4 = .ok (.ifCond .eq 5, 3) := dAX7_nodeHere_0.2.2.1
theorem dX7_nodeHere_7 : decode cX7_nodeHere 7 = .ok (.iconst 0, 1) := dAX7_nodeHere_0.2.2.2.1
theorem dX7_nodeHere_8 : decode cX7_nodeHere 8 = .ok (.ireturn, 1) := dAX7_nodeHere_0.2.2.2.2.1
theorem dX7_nodeHere_9 : decode cX7_nodeHere 9 = .ok (.aload_n 0, 1) := dAX7_nodeHere_0.2.2.2.2.2.1
theorem dX7_nodeHere_10 : decode cX7_nodeHere 10 = .ok (.invokevirtual 150, 3) := dAX7_nodeHere_0.2.2.2.2.2.2.1
theorem dX7_nodeHere_13 : decode cX7_nodeHere 13 = .ok (.aload_n 0, 1) := dAX7_nodeHere_0.2.2.2.2.2.2.2
set_option maxRecDepth 100000 in
theorem dAX7_nodeHere_1 : decode cX7_nodeHere 14 = .ok (.getfield 103, 3) ∧ decode cX7_nodeHere 17 = .ok (.ifCond .eq 5, 3) ∧ decode cX7_nodeHere 20 = .ok (.iconst 0, 1) ∧ decode cX7_nodeHere 21 = .ok (.ireturn, 1) ∧ decode cX7_nodeHere 22 = .ok (.aload_n 0, 1) ∧ decode cX7_nodeHere 23 = .ok (.invokevirtual 153, 3) ∧ decode cX7_nodeHere 26 = .ok (.istore_n 1, 1) ∧ decode cX7_nodeHere 27 = .ok (.iload_n 1, 1) := by decide +kernel
theorem dX7_nodeHere_14 : decode cX7_nodeHere 14 = .ok (.getfield 103, 3) := dAX7_nodeHere_1.1
theorem dX7_nodeHere_17 : decode cX7_nodeHere 17 = .ok (.ifCond .eq 5, 3) := dAX7_nodeHere_1.2.1
theorem dX7_nodeHere_20 : decode cX7_nodeHere 20 = .ok (.iconst 0, 1) := dAX7_nodeHere_1.2.2.1
theorem dX7_nodeHere_21 : decode cX7_nodeHere 21 = .ok (.ireturn, 1) := dAX7_nodeHere_1.2.2.2.1
theorem dX7_nodeHere_22 : decode cX7_nodeHere 22 = .ok (.aload_n 0, 1) := dAX7_nodeHere_1.2.2.2.2.1
theorem dX7_nodeHere_23 : decode cX7_nodeHere 23 = .ok (.invokevirtual 153, 3) := dAX7_nodeHere_1.2.2.2.2.2.1
theorem dX7_nodeHere_26 : decode cX7_nodeHere 26 = .ok (.istore_n 1, 1) := dAX7_nodeHere_1.2.2.2.2.2.2.1
theorem dX7_nodeHere_27 : decode cX7_nodeHere 27 = .ok (.iload_n 1, 1) := dAX7_nodeHere_1.2.2.2.2.2.2.2
set_option maxRecDepth 100000 in
theorem dAX7_nodeHere_2 : decode cX7_nodeHere 28 = .ok (.ifCond .ge 12, 3) ∧ decode cX7_nodeHere 31 = .ok (.aload_n 0, 1) ∧ decode cX7_nodeHere 32 = .ok (.iconst 2, 1) ∧ decode cX7_nodeHere 33 = .ok (.aload_n 0, 1) ∧ decode cX7_nodeHere 34 = .ok (.getfield 84, 3) ∧ decode cX7_nodeHere 37 = .ok (.invokevirtual 130, 3) ∧ decode cX7_nodeHere 40 = .ok (.aload_n 0, 1) ∧ decode cX7_nodeHere 41 = .ok (.getfield 103, 3) := by decide +kernel
theorem dX7_nodeHere_28 : decode cX7_nodeHere 28 = .ok (.ifCond .ge 12, 3) := dAX7_nodeHere_2.1
theorem dX7_nodeHere_31 : decode cX7_nodeHere 31 = .ok (.aload_n 0, 1) := dAX7_nodeHere_2.2.1
theorem dX7_nodeHere_32 : decode cX7_nodeHere 32 = .ok (.iconst 2, 1) := dAX7_nodeHere_2.2.2.1
theorem dX7_nodeHere_33 : decode cX7_nodeHere 33 = .ok (.aload_n 0, 1) := dAX7_nodeHere_2.2.2.2.1
theorem dX7_nodeHere_34 : decode cX7_nodeHere 34 = .ok (.getfield 84, 3) := dAX7_nodeHere_2.2.2.2.2.1
theorem dX7_nodeHere_37 : decode cX7_nodeHere 37 = .ok (.invokevirtual 130, 3) := dAX7_nodeHere_2.2.2.2.2.2.1
theorem dX7_nodeHere_40 : decode cX7_nodeHere 40 = .ok (.aload_n 0, 1) := dAX7_nodeHere_2.2.2.2.2.2.2.1
theorem dX7_nodeHere_41 : decode cX7_nodeHere 41 = .ok (.getfield 103, 3) := dAX7_nodeHere_2.2.2.2.2.2.2.2
set_option maxRecDepth 100000 in
theorem dAX7_nodeHere_3 : decode cX7_nodeHere 44 = .ok (.ifCond .eq 7, 3) ∧ decode cX7_nodeHere 47 = .ok (.iconst 0, 1) ∧ decode cX7_nodeHere 48 = .ok (.goto 4, 3) ∧ decode cX7_nodeHere 51 = .ok (.iload_n 1, 1) ∧ decode cX7_nodeHere 52 = .ok (.ireturn, 1) := by decide +kernel
theorem dX7_nodeHere_44 : decode cX7_nodeHere 44 = .ok (.ifCond .eq 7, 3) := dAX7_nodeHere_3.1
theorem dX7_nodeHere_47 : decode cX7_nodeHere 47 = .ok (.iconst 0, 1) := dAX7_nodeHere_3.2.1
theorem dX7_nodeHere_48 : decode cX7_nodeHere 48 = .ok (.goto 4, 3) := dAX7_nodeHere_3.2.2.1
theorem dX7_nodeHere_51 : decode cX7_nodeHere 51 = .ok (.iload_n 1, 1) := dAX7_nodeHere_3.2.2.2.1
theorem dX7_nodeHere_52 : decode cX7_nodeHere 52 = .ok (.ireturn, 1) := dAX7_nodeHere_3.2.2.2.2
set_option maxRecDepth 100000 in
theorem dAX7_note_0 : decode cX7_note 0 = .ok (.aload_n 0, 1) ∧ decode cX7_note 1 = .ok (.getfield 190, 3) ∧ decode cX7_note 4 = .ok (.bipush 16, 2) ∧ decode cX7_note 6 = .ok (.if_icmp .ne 43, 3) ∧ decode cX7_note 9 = .ok (.iconst 0, 1) ∧ decode cX7_note 10 = .ok (.istore_n 1, 1) ∧ decode cX7_note 11 = .ok (.iload_n 1, 1) ∧ decode cX7_note 12 = .ok (.sipush 1350, 3) := by decide +kernel
theorem dX7_note_0 : decode cX7_note 0 = .ok (.aload_n 0, 1) := dAX7_note_0.1
theorem dX7_note_1 : decode cX7_note 1 = .ok (.getfield 190, 3) := dAX7_note_0.2.1
theorem dX7_note_4 : decode cX7_note 4 = .ok (.bipush 16, 2) := dAX7_note_0.2.2.1
theorem dX7_note_6 : decode cX7_note 6 = .ok (.if_icmp .ne 43, 3) := dAX7_note_0.2.2.2.1
theorem dX7_note_9 : decode cX7_note 9 = .ok (.iconst 0, 1) := dAX7_note_0.2.2.2.2.1
theorem dX7_note_10 : decode cX7_note 10 = .ok (.istore_n 1, 1) := dAX7_note_0.2.2.2.2.2.1
theorem dX7_note_11 : decode cX7_note 11 = .ok (.iload_n 1, 1) := dAX7_note_0.2.2.2.2.2.2.1
theorem dX7_note_12 : decode cX7_note 12 = .ok (.sipush 1350, 3) := dAX7_note_0.2.2.2.2.2.2.2
set_option maxRecDepth 100000 in
theorem dAX7_note_1 : decode cX7_note 15 = .ok (.if_icmp .ge 24, 3) ∧ decode cX7_note 18 = .ok (.aload_n 0, 1) ∧ decode cX7_note 19 = .ok (.getfield 35, 3) ∧ decode cX7_note 22 = .ok (.iload_n 1, 1) ∧ decode cX7_note 23 = .ok (.aload_n 0, 1) ∧ decode cX7_note 24 = .ok (.getfield 35, 3) ∧ decode cX7_note 27 = .ok (.iload_n 1, 1) ∧ decode cX7_note 28 = .ok (.bipush 90, 2) := by decide +kernel
theorem dX7_note_15 : decode cX7_note 15 = .ok (.if_icmp .ge 24, 3) := dAX7_note_1.1
theorem dX7_note_18 : decode cX7_note 18 = .ok (.aload_n 0, 1) := dAX7_note_1.2.1
theorem dX7_note_19 : decode cX7_note 19 = .ok (.getfield 35, 3) := dAX7_note_1.2.2.1
theorem dX7_note_22 : decode cX7_note 22 = .ok (.iload_n 1, 1) := dAX7_note_1.2.2.2.1
theorem dX7_note_23 : decode cX7_note 23 = .ok (.aload_n 0, 1) := dAX7_note_1.2.2.2.2.1
theorem dX7_note_24 : decode cX7_note 24 = .ok (.getfield 35, 3) := dAX7_note_1.2.2.2.2.2.1
theorem dX7_note_27 : decode cX7_note 27 = .ok (.iload_n 1, 1) := dAX7_note_1.2.2.2.2.2.2.1
theorem dX7_note_28 : decode cX7_note 28 = .ok (.bipush 90, 2) := dAX7_note_1.2.2.2.2.2.2.2
set_option maxRecDepth 100000 in
theorem dAX7_note_2 : decode cX7_note 30 = .ok (.iadd, 1) ∧ decode cX7_note 31 = .ok (.iaload, 1) ∧ decode cX7_note 32 = .ok (.iastore, 1) ∧ decode cX7_note 33 = .ok (.iinc 1 1, 3) ∧ decode cX7_note 36 = .ok (.goto (-25), 3) ∧ decode cX7_note 39 = .ok (.aload_n 0, 1) ∧ decode cX7_note 40 = .ok (.dup, 1) ∧ decode cX7_note 41 = .ok (.getfield 190, 3) := by decide +kernel
theorem dX7_note_30 : decode cX7_note 30 = .ok (.iadd, 1) := dAX7_note_2.1
theorem dX7_note_31 : decode cX7_note 31 = .ok (.iaload, 1) := dAX7_note_2.2.1
theorem dX7_note_32 : decode cX7_note 32 = .ok (.iastore, 1) := dAX7_note_2.2.2.1
theorem dX7_note_33 : decode cX7_note 33 = .ok (.iinc 1 1, 3) := dAX7_note_2.2.2.2.1
theorem dX7_note_36 : decode cX7_note 36 = .ok (.goto (-25), 3) := dAX7_note_2.2.2.2.2.1
theorem dX7_note_39 : decode cX7_note 39 = .ok (.aload_n 0, 1) := dAX7_note_2.2.2.2.2.2.1
theorem dX7_note_40 : decode cX7_note 40 = .ok (.dup, 1) := dAX7_note_2.2.2.2.2.2.2.1
theorem dX7_note_41 : decode cX7_note 41 = .ok (.getfield 190, 3) := dAX7_note_2.2.2.2.2.2.2.2
set_option maxRecDepth 100000 in
theorem dAX7_note_3 : decode cX7_note 44 = .ok (.iconst 1, 1) ∧ decode cX7_note 45 = .ok (.isub, 1) ∧ decode cX7_note 46 = .ok (.putfield 190, 3) ∧ decode cX7_note 49 = .ok (.aload_n 0, 1) ∧ decode cX7_note 50 = .ok (.getfield 32, 3) ∧ decode cX7_note 53 = .ok (.iconst 0, 1) ∧ decode cX7_note 54 = .ok (.aload_n 0, 1) ∧ decode cX7_note 55 = .ok (.getfield 35, 3) := by decide +kernel
theorem dX7_note_44 : decode cX7_note 44 = .ok (.iconst 1, 1) := dAX7_note_3.1
theorem dX7_note_45 : decode cX7_note 45 = .ok (.isub, 1) := dAX7_note_3.2.1
theorem dX7_note_46 : decode cX7_note 46 = .ok (.putfield 190, 3) := dAX7_note_3.2.2.1
theorem dX7_note_49 : decode cX7_note 49 = .ok (.aload_n 0, 1) := dAX7_note_3.2.2.2.1
theorem dX7_note_50 : decode cX7_note 50 = .ok (.getfield 32, 3) := dAX7_note_3.2.2.2.2.1
theorem dX7_note_53 : decode cX7_note 53 = .ok (.iconst 0, 1) := dAX7_note_3.2.2.2.2.2.1
theorem dX7_note_54 : decode cX7_note 54 = .ok (.aload_n 0, 1) := dAX7_note_3.2.2.2.2.2.2.1
theorem dX7_note_55 : decode cX7_note 55 = .ok (.getfield 35, 3) := dAX7_note_3.2.2.2.2.2.2.2
set_option maxRecDepth 100000 in
theorem dAX7_note_4 : decode cX7_note 58 = .ok (.bipush 90, 2) ∧ decode cX7_note 60 = .ok (.aload_n 0, 1) ∧ decode cX7_note 61 = .ok (.getfield 190, 3) ∧ decode cX7_note 64 = .ok (.imul, 1) ∧ decode cX7_note 65 = .ok (.bipush 90, 2) ∧ decode cX7_note 67 = .ok (.invokestatic 156, 3) ∧ decode cX7_note 70 = .ok (.aload_n 0, 1) ∧ decode cX7_note 71 = .ok (.dup, 1) := by decide +kernel
theorem dX7_note_58 : decode cX7_note 58 = .ok (.bipush 90, 2) := dAX7_note_4.1
theorem dX7_note_60 : decode cX7_note 60 = .ok (.aload_n 0, 1) := dAX7_note_4.2.1
theorem dX7_note_61 : decode cX7_note 61 = .ok (.getfield 190, 3) := dAX7_note_4.2.2.1
theorem dX7_note_64 : decode cX7_note 64 = .ok (.imul, 1) := dAX7_note_4.2.2.2.1
theorem dX7_note_65 : decode cX7_note 65 = .ok (.bipush 90, 2) := dAX7_note_4.2.2.2.2.1
theorem dX7_note_67 : decode cX7_note 67 = .ok (.invokestatic 156, 3) := dAX7_note_4.2.2.2.2.2.1
theorem dX7_note_70 : decode cX7_note 70 = .ok (.aload_n 0, 1) := dAX7_note_4.2.2.2.2.2.2.1
theorem dX7_note_71 : decode cX7_note 71 = .ok (.dup, 1) := dAX7_note_4.2.2.2.2.2.2.2
set_option maxRecDepth 100000 in
theorem dAX7_note_5 : decode cX7_note 72 = .ok (.getfield 190, 3) ∧ decode cX7_note 75 = .ok (.iconst 1, 1) ∧ decode cX7_note 76 = .ok (.iadd, 1) ∧ decode cX7_note 77 = .ok (.putfield 190, 3) ∧ decode cX7_note 80 = .ok (.return_, 1) := by decide +kernel
theorem dX7_note_72 : decode cX7_note 72 = .ok (.getfield 190, 3) := dAX7_note_5.1
theorem dX7_note_75 : decode cX7_note 75 = .ok (.iconst 1, 1) := dAX7_note_5.2.1
theorem dX7_note_76 : decode cX7_note 76 = .ok (.iadd, 1) := dAX7_note_5.2.2.1
theorem dX7_note_77 : decode cX7_note 77 = .ok (.putfield 190, 3) := dAX7_note_5.2.2.2.1
theorem dX7_note_80 : decode cX7_note 80 = .ok (.return_, 1) := dAX7_note_5.2.2.2.2
set_option maxRecDepth 100000 in
theorem dAX7_number_0 : decode cX7_number 0 = .ok (.aload_n 0, 1) ∧ decode cX7_number 1 = .ok (.getfield 103, 3) ∧ decode cX7_number 4 = .ok (.ifCond .eq 5, 3) ∧ decode cX7_number 7 = .ok (.iload_n 1, 1) ∧ decode cX7_number 8 = .ok (.ireturn, 1) ∧ decode cX7_number 9 = .ok (.aload_n 0, 1) ∧ decode cX7_number 10 = .ok (.getfield 93, 3) ∧ decode cX7_number 13 = .ok (.iconst 3, 1) := by decide +kernel
theorem dX7_number_0 : decode cX7_number 0 = .ok (.aload_n 0, 1) := dAX7_number_0.1
theorem dX7_number_1 : decode cX7_number 1 = .ok (.getfield 103, 3) := dAX7_number_0.2.1
theorem dX7_number_4 : decode cX7_number 4 = .ok (.ifCond .eq 5, 3) := dAX7_number_0.2.2.1
theorem dX7_number_7 : decode cX7_number 7 = .ok (.iload_n 1, 1) := dAX7_number_0.2.2.2.1
theorem dX7_number_8 : decode cX7_number 8 = .ok (.ireturn, 1) := dAX7_number_0.2.2.2.2.1
theorem dX7_number_9 : decode cX7_number 9 = .ok (.aload_n 0, 1) := dAX7_number_0.2.2.2.2.2.1
theorem dX7_number_10 : decode cX7_number 10 = .ok (.getfield 93, 3) := dAX7_number_0.2.2.2.2.2.2.1
theorem dX7_number_13 : decode cX7_number 13 = .ok (.iconst 3, 1) := dAX7_number_0.2.2.2.2.2.2.2
set_option maxRecDepth 100000 in
theorem dAX7_number_1 : decode cX7_number 14 = .ok (.if_icmp .eq 15, 3) ∧ decode cX7_number 17 = .ok (.aload_n 0, 1) ∧ decode cX7_number 18 = .ok (.iconst 1, 1) ∧ decode cX7_number 19 = .ok (.aload_n 0, 1) ∧ decode cX7_number 20 = .ok (.getfield 84, 3) ∧ decode cX7_number 23 = .ok (.invokevirtual 130, 3) ∧ decode cX7_number 26 = .ok (.goto 24, 3) ∧ decode cX7_number 29 = .ok (.aload_n 0, 1) := by decide +kernel
theorem dX7_number_14 : decode cX7_number 14 = .ok (.if_icmp .eq 15, 3) := dAX7_number_1.1
theorem dX7_number_17 : decode cX7_number 17 = .ok (.aload_n 0, 1) := dAX7_number_1.2.1
theorem dX7_number_18 : decode cX7_number 18 = .ok (.iconst 1, 1) := dAX7_number_1.2.2.1
theorem dX7_number_19 : decode cX7_number 19 = .ok (.aload_n 0, 1) := dAX7_number_1.2.2.2.1
theorem dX7_number_20 : decode cX7_number 20 = .ok (.getfield 84, 3) := dAX7_number_1.2.2.2.2.1
theorem dX7_number_23 : decode cX7_number 23 = .ok (.invokevirtual 130, 3) := dAX7_number_1.2.2.2.2.2.1
theorem dX7_number_26 : decode cX7_number 26 = .ok (.goto 24, 3) := dAX7_number_1.2.2.2.2.2.2.1
theorem dX7_number_29 : decode cX7_number 29 = .ok (.aload_n 0, 1) := dAX7_number_1.2.2.2.2.2.2.2
set_option maxRecDepth 100000 in
theorem dAX7_number_2 : decode cX7_number 30 = .ok (.getfield 90, 3) ∧ decode cX7_number 33 = .ok (.iload_n 1, 1) ∧ decode cX7_number 34 = .ok (.iload_n 2, 1) ∧ decode cX7_number 35 = .ok (.invokestatic 163, 3) ∧ decode cX7_number 38 = .ok (.ifCond .ne 12, 3) ∧ decode cX7_number 41 = .ok (.aload_n 0, 1) ∧ decode cX7_number 42 = .ok (.iconst 4, 1) ∧ decode cX7_number 43 = .ok (.aload_n 0, 1) := by decide +kernel
theorem dX7_number_30 : decode cX7_number 30 = .ok (.getfield 90, 3) := dAX7_number_2.1
theorem dX7_number_33 : decode cX7_number 33 = .ok (.iload_n 1, 1) := dAX7_number_2.2.1
theorem dX7_number_34 : decode cX7_number 34 = .ok (.iload_n 2, 1) := dAX7_number_2.2.2.1
theorem dX7_number_35 : decode cX7_number 35 = .ok (.invokestatic 163, 3) := dAX7_number_2.2.2.2.1
theorem dX7_number_38 : decode cX7_number 38 = .ok (.ifCond .ne 12, 3) := dAX7_number_2.2.2.2.2.1
theorem dX7_number_41 : decode cX7_number 41 = .ok (.aload_n 0, 1) := dAX7_number_2.2.2.2.2.2.1
theorem dX7_number_42 : decode cX7_number 42 = .ok (.iconst 4, 1) := dAX7_number_2.2.2.2.2.2.2.1
theorem dX7_number_43 : decode cX7_number 43 = .ok (.aload_n 0, 1) := dAX7_number_2.2.2.2.2.2.2.2
set_option maxRecDepth 100000 in
theorem dAX7_number_3 : decode cX7_number 44 = .ok (.getfield 84, 3) ∧ decode cX7_number 47 = .ok (.invokevirtual 130, 3) ∧ decode cX7_number 50 = .ok (.aload_n 0, 1) ∧ decode cX7_number 51 = .ok (.getfield 103, 3) ∧ decode cX7_number 54 = .ok (.ifCond .eq 5, 3) ∧ decode cX7_number 57 = .ok (.iload_n 1, 1) ∧ decode cX7_number 58 = .ok (.ireturn, 1) ∧ decode cX7_number 59 = .ok (.aload_n 0, 1) := by decide +kernel
theorem dX7_number_44 : decode cX7_number 44 = .ok (.getfield 84, 3) := dAX7_number_3.1
theorem dX7_number_47 : decode cX7_number 47 = .ok (.invokevirtual 130, 3) := dAX7_number_3.2.1
theorem dX7_number_50 : decode cX7_number 50 = .ok (.aload_n 0, 1) := dAX7_number_3.2.2.1
theorem dX7_number_51 : decode cX7_number 51 = .ok (.getfield 103, 3) := dAX7_number_3.2.2.2.1
theorem dX7_number_54 : decode cX7_number 54 = .ok (.ifCond .eq 5, 3) := dAX7_number_3.2.2.2.2.1
theorem dX7_number_57 : decode cX7_number 57 = .ok (.iload_n 1, 1) := dAX7_number_3.2.2.2.2.2.1
theorem dX7_number_58 : decode cX7_number 58 = .ok (.ireturn, 1) := dAX7_number_3.2.2.2.2.2.2.1
theorem dX7_number_59 : decode cX7_number 59 = .ok (.aload_n 0, 1) := dAX7_number_3.2.2.2.2.2.2.2
set_option maxRecDepth 100000 in
theorem dAX7_number_4 : decode cX7_number 60 = .ok (.getfield 90, 3) ∧ decode cX7_number 63 = .ok (.istore_n 3, 1) ∧ decode cX7_number 64 = .ok (.aload_n 0, 1) ∧ decode cX7_number 65 = .ok (.invokevirtual 124, 3) ∧ decode cX7_number 68 = .ok (.iload_n 3, 1) ∧ decode cX7_number 69 = .ok (.ireturn, 1) := by decide +kernel
theorem dX7_number_60 : decode cX7_number 60 = .ok (.getfield 90, 3) := dAX7_number_4.1
theorem dX7_number_63 : decode cX7_number 63 = .ok (.istore_n 3, 1) := dAX7_number_4.2.1
theorem dX7_number_64 : decode cX7_number 64 = .ok (.aload_n 0, 1) := dAX7_number_4.2.2.1
theorem dX7_number_65 : decode cX7_number 65 = .ok (.invokevirtual 124, 3) := dAX7_number_4.2.2.2.1
theorem dX7_number_68 : decode cX7_number 68 = .ok (.iload_n 3, 1) := dAX7_number_4.2.2.2.2.1
theorem dX7_number_69 : decode cX7_number 69 = .ok (.ireturn, 1) := dAX7_number_4.2.2.2.2.2
set_option maxRecDepth 100000 in
theorem dAX7_odds_0 : decode cX7_odds 0 = .ok (.aload_n 0, 1) ∧ decode cX7_odds 1 = .ok (.invokevirtual 175, 3) ∧ decode cX7_odds 4 = .ok (.aload_n 0, 1) ∧ decode cX7_odds 5 = .ok (.iload_n 1, 1) ∧ decode cX7_odds 6 = .ok (.iconst 0, 1) ∧ decode cX7_odds 7 = .ok (.bipush 99, 2) ∧ decode cX7_odds 9 = .ok (.invokestatic 163, 3) ∧ decode cX7_odds 12 = .ok (.invokevirtual 307, 3) := by decide +kernel
theorem dX7_odds_0 : decode cX7_odds 0 = .ok (.aload_n 0, 1) := dAX7_odds_0.1
theorem dX7_odds_1 : decode cX7_odds 1 = .ok (.invokevirtual 175, 3) := dAX7_odds_0.2.1
theorem dX7_odds_4 : decode cX7_odds 4 = .ok (.aload_n 0, 1) := dAX7_odds_0.2.2.1
theorem dX7_odds_5 : decode cX7_odds 5 = .ok (.iload_n 1, 1) := dAX7_odds_0.2.2.2.1
theorem dX7_odds_6 : decode cX7_odds 6 = .ok (.iconst 0, 1) := dAX7_odds_0.2.2.2.2.1
theorem dX7_odds_7 : decode cX7_odds 7 = .ok (.bipush 99, 2) := dAX7_odds_0.2.2.2.2.2.1
theorem dX7_odds_9 : decode cX7_odds 9 = .ok (.invokestatic 163, 3) := dAX7_odds_0.2.2.2.2.2.2.1
theorem dX7_odds_12 : decode cX7_odds 12 = .ok (.invokevirtual 307, 3) := dAX7_odds_0.2.2.2.2.2.2.2
set_option maxRecDepth 100000 in
theorem dAX7_odds_1 : decode cX7_odds 15 = .ok (.istore_n 3, 1) ∧ decode cX7_odds 16 = .ok (.iload_n 3, 1) ∧ decode cX7_odds 17 = .ok (.ifCond .eq 10, 3) ∧ decode cX7_odds 20 = .ok (.aload_n 0, 1) ∧ decode cX7_odds 21 = .ok (.iload_n 3, 1) ∧ decode cX7_odds 22 = .ok (.invokevirtual 178, 3) ∧ decode cX7_odds 25 = .ok (.i2l, 1) ∧ decode cX7_odds 26 = .ok (.lreturn, 1) := by decide +kernel
theorem dX7_odds_15 : decode cX7_odds 15 = .ok (.istore_n 3, 1) := dAX7_odds_1.1
theorem dX7_odds_16 : decode cX7_odds 16 = .ok (.iload_n 3, 1) := dAX7_odds_1.2.1
theorem dX7_odds_17 : decode cX7_odds 17 = .ok (.ifCond .eq 10, 3) := dAX7_odds_1.2.2.1
theorem dX7_odds_20 : decode cX7_odds 20 = .ok (.aload_n 0, 1) := dAX7_odds_1.2.2.2.1
theorem dX7_odds_21 : decode cX7_odds 21 = .ok (.iload_n 3, 1) := dAX7_odds_1.2.2.2.2.1
theorem dX7_odds_22 : decode cX7_odds 22 = .ok (.invokevirtual 178, 3) := dAX7_odds_1.2.2.2.2.2.1
theorem dX7_odds_25 : decode cX7_odds 25 = .ok (.i2l, 1) := dAX7_odds_1.2.2.2.2.2.2.1
theorem dX7_odds_26 : decode cX7_odds 26 = .ok (.lreturn, 1) := dAX7_odds_1.2.2.2.2.2.2.2
set_option maxRecDepth 100000 in
theorem dAX7_odds_2 : decode cX7_odds 27 = .ok (.aload_n 0, 1) ∧ decode cX7_odds 28 = .ok (.iload_n 1, 1) ∧ decode cX7_odds 29 = .ok (.invokevirtual 408, 3) ∧ decode cX7_odds 32 = .ok (.aload_n 0, 1) ∧ decode cX7_odds 33 = .ok (.getfield 402, 3) ∧ decode cX7_odds 36 = .ok (.aload_n 0, 1) ∧ decode cX7_odds 37 = .ok (.getfield 398, 3) ∧ decode cX7_odds 40 = .ok (.iload_n 2, 1) := by decide +kernel
theorem dX7_odds_27 : decode cX7_odds 27 = .ok (.aload_n 0, 1) := dAX7_odds_2.1
theorem dX7_odds_28 : decode cX7_odds 28 = .ok (.iload_n 1, 1) := dAX7_odds_2.2.1
theorem dX7_odds_29 : decode cX7_odds 29 = .ok (.invokevirtual 408, 3) := dAX7_odds_2.2.2.1
theorem dX7_odds_32 : decode cX7_odds 32 = .ok (.aload_n 0, 1) := dAX7_odds_2.2.2.2.1
theorem dX7_odds_33 : decode cX7_odds 33 = .ok (.getfield 402, 3) := dAX7_odds_2.2.2.2.2.1
theorem dX7_odds_36 : decode cX7_odds 36 = .ok (.aload_n 0, 1) := dAX7_odds_2.2.2.2.2.2.1
theorem dX7_odds_37 : decode cX7_odds 37 = .ok (.getfield 398, 3) := dAX7_odds_2.2.2.2.2.2.2.1
theorem dX7_odds_40 : decode cX7_odds 40 = .ok (.iload_n 2, 1) := dAX7_odds_2.2.2.2.2.2.2.2
set_option maxRecDepth 100000 in
theorem dAX7_odds_3 : decode cX7_odds 41 = .ok (.invokestatic 283, 3) ∧ decode cX7_odds 44 = .ok (.lreturn, 1) := by decide +kernel
theorem dX7_odds_41 : decode cX7_odds 41 = .ok (.invokestatic 283, 3) := dAX7_odds_3.1
theorem dX7_odds_44 : decode cX7_odds 44 = .ok (.lreturn, 1) := dAX7_odds_3.2
set_option maxRecDepth 100000 in
theorem dAX7_ones_0 : decode cX7_ones 0 = .ok (.iconst 0, 1) ∧ decode cX7_ones 1 = .ok (.istore_n 1, 1) ∧ decode cX7_ones 2 = .ok (.iconst 0, 1) ∧ decode cX7_ones 3 = .ok (.istore_n 2, 1) ∧ decode cX7_ones 4 = .ok (.iload_n 2, 1) ∧ decode cX7_ones 5 = .ok (.bipush 18, 2) ∧ decode cX7_ones 7 = .ok (.if_icmp .ge 17, 3) ∧ decode cX7_ones 10 = .ok (.iload_n 1, 1) := by decide +kernel
theorem dX7_ones_0 : decode cX7_ones 0 = .ok (.iconst 0, 1) := dAX7_ones_0.1
theorem dX7_ones_1 : decode cX7_ones 1 = .ok (.istore_n 1, 1) := dAX7_ones_0.2.1
theorem dX7_ones_2 : decode cX7_ones 2 = .ok (.iconst 0, 1) := dAX7_ones_0.2.2.1
theorem dX7_ones_3 : decode cX7_ones 3 = .ok (.istore_n 2, 1) := dAX7_ones_0.2.2.2.1
theorem dX7_ones_4 : decode cX7_ones 4 = .ok (.iload_n 2, 1) := dAX7_ones_0.2.2.2.2.1
theorem dX7_ones_5 : decode cX7_ones 5 = .ok (.bipush 18, 2) := dAX7_ones_0.2.2.2.2.2.1
theorem dX7_ones_7 : decode cX7_ones 7 = .ok (.if_icmp .ge 17, 3) := dAX7_ones_0.2.2.2.2.2.2.1
theorem dX7_ones_10 : decode cX7_ones 10 = .ok (.iload_n 1, 1) := dAX7_ones_0.2.2.2.2.2.2.2
set_option maxRecDepth 100000 in
theorem dAX7_ones_1 : decode cX7_ones 11 = .ok (.iload_n 0, 1) ∧ decode cX7_ones 12 = .ok (.iload_n 2, 1) ∧ decode cX7_ones 13 = .ok (.ishr, 1) ∧ decode cX7_ones 14 = .ok (.iconst 1, 1) ∧ decode cX7_ones 15 = .ok (.iand, 1) ∧ decode cX7_ones 16 = .ok (.iadd, 1) ∧ decode cX7_ones 17 = .ok (.istore_n 1, 1) ∧ decode cX7_ones 18 = .ok (.iinc 2 1, 3) := by decide +kernel
theorem dX7_ones_11 : decode cX7_ones 11 = .ok (.iload_n 0, 1) := dAX7_ones_1.1
theorem dX7_ones_12 : decode cX7_ones 12 = .ok (.iload_n 2, 1) := dAX7_ones_1.2.1
theorem dX7_ones_13 : decode cX7_ones 13 = .ok (.ishr, 1) := dAX7_ones_1.2.2.1
theorem dX7_ones_14 : decode cX7_ones 14 = .ok (.iconst 1, 1) := dAX7_ones_1.2.2.2.1
theorem dX7_ones_15 : decode cX7_ones 15 = .ok (.iand, 1) := dAX7_ones_1.2.2.2.2.1
theorem dX7_ones_16 : decode cX7_ones 16 = .ok (.iadd, 1) := dAX7_ones_1.2.2.2.2.2.1
theorem dX7_ones_17 : decode cX7_ones 17 = .ok (.istore_n 1, 1) := dAX7_ones_1.2.2.2.2.2.2.1
theorem dX7_ones_18 : decode cX7_ones 18 = .ok (.iinc 2 1, 3) := dAX7_ones_1.2.2.2.2.2.2.2
set_option maxRecDepth 100000 in
theorem dAX7_ones_2 : decode cX7_ones 21 = .ok (.goto (-17), 3) ∧ decode cX7_ones 24 = .ok (.iload_n 1, 1) ∧ decode cX7_ones 25 = .ok (.ireturn, 1) := by decide +kernel
theorem dX7_ones_21 : decode cX7_ones 21 = .ok (.goto (-17), 3) := dAX7_ones_2.1
theorem dX7_ones_24 : decode cX7_ones 24 = .ok (.iload_n 1, 1) := dAX7_ones_2.2.1
theorem dX7_ones_25 : decode cX7_ones 25 = .ok (.ireturn, 1) := dAX7_ones_2.2.2
set_option maxRecDepth 100000 in
theorem dAX7_orderLeast_0 : decode cX7_orderLeast 0 = .ok (.aload_n 0, 1) ∧ decode cX7_orderLeast 1 = .ok (.invokevirtual 175, 3) ∧ decode cX7_orderLeast 4 = .ok (.aload_n 0, 1) ∧ decode cX7_orderLeast 5 = .ok (.iload_n 1, 1) ∧ decode cX7_orderLeast 6 = .ok (.invokevirtual 242, 3) ∧ decode cX7_orderLeast 9 = .ok (.ifCond .ne 9, 3) ∧ decode cX7_orderLeast 12 = .ok (.aload_n 0, 1) ∧ decode cX7_orderLeast 13 = .ok (.iconst 1, 1) := by decide +kernel
theorem dX7_orderLeast_0 : decode cX7_orderLeast 0 = .ok (.aload_n 0, 1) := dAX7_orderLeast_0.1
theorem dX7_orderLeast_1 : decode cX7_orderLeast 1 = .ok (.invokevirtual 175, 3) := dAX7_orderLeast_0.2.1
theorem dX7_orderLeast_4 : decode cX7_orderLeast 4 = .ok (.aload_n 0, 1) := dAX7_orderLeast_0.2.2.1
theorem dX7_orderLeast_5 : decode cX7_orderLeast 5 = .ok (.iload_n 1, 1) := dAX7_orderLeast_0.2.2.2.1
theorem dX7_orderLeast_6 : decode cX7_orderLeast 6 = .ok (.invokevirtual 242, 3) := dAX7_orderLeast_0.2.2.2.2.1
theorem dX7_orderLeast_9 : decode cX7_orderLeast 9 = .ok (.ifCond .ne 9, 3) := dAX7_orderLeast_0.2.2.2.2.2.1
theorem dX7_orderLeast_12 : decode cX7_orderLeast 12 = .ok (.aload_n 0, 1) := dAX7_orderLeast_0.2.2.2.2.2.2.1
theorem dX7_orderLeast_13 : decode cX7_orderLeast 13 = .ok (.iconst 1, 1) := dAX7_orderLeast_0.2.2.2.2.2.2.2
set_option maxRecDepth 100000 in
theorem dAX7_orderLeast_1 : decode cX7_orderLeast 14 = .ok (.invokevirtual 178, 3) ∧ decode cX7_orderLeast 17 = .ok (.ireturn, 1) ∧ decode cX7_orderLeast 18 = .ok (.aload_n 0, 1) ∧ decode cX7_orderLeast 19 = .ok (.iload_n 1, 1) ∧ decode cX7_orderLeast 20 = .ok (.invokevirtual 361, 3) ∧ decode cX7_orderLeast 23 = .ok (.aload_n 0, 1) ∧ decode cX7_orderLeast 24 = .ok (.getfield 354, 3) ∧ decode cX7_orderLeast 27 = .ok (.ireturn, 1) := by decide +kernel
theorem dX7_orderLeast_14 : decode cX7_orderLeast 14 = .ok (.invokevirtual 178, 3) := dAX7_orderLeast_1.1
theorem dX7_orderLeast_17 : decode cX7_orderLeast 17 = .ok (.ireturn, 1) := dAX7_orderLeast_1.2.1
theorem dX7_orderLeast_18 : decode cX7_orderLeast 18 = .ok (.aload_n 0, 1) := dAX7_orderLeast_1.2.2.1
theorem dX7_orderLeast_19 : decode cX7_orderLeast 19 = .ok (.iload_n 1, 1) := dAX7_orderLeast_1.2.2.2.1
theorem dX7_orderLeast_20 : decode cX7_orderLeast 20 = .ok (.invokevirtual 361, 3) := dAX7_orderLeast_1.2.2.2.2.1
theorem dX7_orderLeast_23 : decode cX7_orderLeast 23 = .ok (.aload_n 0, 1) := dAX7_orderLeast_1.2.2.2.2.2.1
theorem dX7_orderLeast_24 : decode cX7_orderLeast 24 = .ok (.getfield 354, 3) := dAX7_orderLeast_1.2.2.2.2.2.2.1
theorem dX7_orderLeast_27 : decode cX7_orderLeast 27 = .ok (.ireturn, 1) := dAX7_orderLeast_1.2.2.2.2.2.2.2
set_option maxRecDepth 100000 in
theorem dAX7_orderMean_0 : decode cX7_orderMean 0 = .ok (.aload_n 0, 1) ∧ decode cX7_orderMean 1 = .ok (.invokevirtual 175, 3) ∧ decode cX7_orderMean 4 = .ok (.aload_n 0, 1) ∧ decode cX7_orderMean 5 = .ok (.iload_n 1, 1) ∧ decode cX7_orderMean 6 = .ok (.invokevirtual 242, 3) ∧ decode cX7_orderMean 9 = .ok (.ifCond .ne 10, 3) ∧ decode cX7_orderMean 12 = .ok (.aload_n 0, 1) ∧ decode cX7_orderMean 13 = .ok (.iconst 1, 1) := by decide +kernel
theorem dX7_orderMean_0 : decode cX7_orderMean 0 = .ok (.aload_n 0, 1) := dAX7_orderMean_0.1
theorem dX7_orderMean_1 : decode cX7_orderMean 1 = .ok (.invokevirtual 175, 3) := dAX7_orderMean_0.2.1
theorem dX7_orderMean_4 : decode cX7_orderMean 4 = .ok (.aload_n 0, 1) := dAX7_orderMean_0.2.2.1
theorem dX7_orderMean_5 : decode cX7_orderMean 5 = .ok (.iload_n 1, 1) := dAX7_orderMean_0.2.2.2.1
theorem dX7_orderMean_6 : decode cX7_orderMean 6 = .ok (.invokevirtual 242, 3) := dAX7_orderMean_0.2.2.2.2.1
theorem dX7_orderMean_9 : decode cX7_orderMean 9 = .ok (.ifCond .ne 10, 3) := dAX7_orderMean_0.2.2.2.2.2.1
theorem dX7_orderMean_12 : decode cX7_orderMean 12 = .ok (.aload_n 0, 1) := dAX7_orderMean_0.2.2.2.2.2.2.1
theorem dX7_orderMean_13 : decode cX7_orderMean 13 = .ok (.iconst 1, 1) := dAX7_orderMean_0.2.2.2.2.2.2.2
set_option maxRecDepth 100000 in
theorem dAX7_orderMean_1 : decode cX7_orderMean 14 = .ok (.invokevirtual 178, 3) ∧ decode cX7_orderMean 17 = .ok (.i2l, 1) ∧ decode cX7_orderMean 18 = .ok (.lreturn, 1) ∧ decode cX7_orderMean 19 = .ok (.aload_n 0, 1) ∧ decode cX7_orderMean 20 = .ok (.iload_n 1, 1) ∧ decode cX7_orderMean 21 = .ok (.invokevirtual 361, 3) ∧ decode cX7_orderMean 24 = .ok (.aload_n 0, 1) ∧ decode cX7_orderMean 25 = .ok (.getfield 351, 3) := by decide +kernel
theorem dX7_orderMean_14 : decode cX7_orderMean 14 = .ok (.invokevirtual 178, 3) := dAX7_orderMean_1.1
theorem dX7_orderMean_17 : decode cX7_orderMean 17 = .ok (.i2l, 1) := dAX7_orderMean_1.2.1
theorem dX7_orderMean_18 : decode cX7_orderMean 18 = .ok (.lreturn, 1) := dAX7_orderMean_1.2.2.1
theorem dX7_orderMean_19 : decode cX7_orderMean 19 = .ok (.aload_n 0, 1) := dAX7_orderMean_1.2.2.2.1
theorem dX7_orderMean_20 : decode cX7_orderMean 20 = .ok (.iload_n 1, 1) := dAX7_orderMean_1.2.2.2.2.1
theorem dX7_orderMean_21 : decode cX7_orderMean 21 = .ok (.invokevirtual 361, 3) := dAX7_orderMean_1.2.2.2.2.2.1
theorem dX7_orderMean_24 : decode cX7_orderMean 24 = .ok (.aload_n 0, 1) := dAX7_orderMean_1.2.2.2.2.2.2.1
theorem dX7_orderMean_25 : decode cX7_orderMean 25 = .ok (.getfield 351, 3) := dAX7_orderMean_1.2.2.2.2.2.2.2
set_option maxRecDepth 100000 in
theorem dAX7_orderMean_2 : decode cX7_orderMean 28 = .ok (.i2l, 1) ∧ decode cX7_orderMean 29 = .ok (.aload_n 0, 1) ∧ decode cX7_orderMean 30 = .ok (.getfield 348, 3) ∧ decode cX7_orderMean 33 = .ok (.i2l, 1) ∧ decode cX7_orderMean 34 = .ok (.iload_n 2, 1) ∧ decode cX7_orderMean 35 = .ok (.invokestatic 283, 3) ∧ decode cX7_orderMean 38 = .ok (.lreturn, 1) := by decide +kernel
theorem dX7_orderMean_28 : decode cX7_orderMean 28 = .ok (.i2l, 1) := dAX7_orderMean_2.1
theorem dX7_orderMean_29 : decode cX7_orderMean 29 = .ok (.aload_n 0, 1) := dAX7_orderMean_2.2.1
theorem dX7_orderMean_30 : decode cX7_orderMean 30 = .ok (.getfield 348, 3) := dAX7_orderMean_2.2.2.1
theorem dX7_orderMean_33 : decode cX7_orderMean 33 = .ok (.i2l, 1) := dAX7_orderMean_2.2.2.2.1
theorem dX7_orderMean_34 : decode cX7_orderMean 34 = .ok (.iload_n 2, 1) := dAX7_orderMean_2.2.2.2.2.1
theorem dX7_orderMean_35 : decode cX7_orderMean 35 = .ok (.invokestatic 283, 3) := dAX7_orderMean_2.2.2.2.2.2.1
theorem dX7_orderMean_38 : decode cX7_orderMean 38 = .ok (.lreturn, 1) := dAX7_orderMean_2.2.2.2.2.2.2
set_option maxRecDepth 100000 in
theorem dAX7_part_0 : decode cX7_part 0 = .ok (.aload_n 0, 1) ∧ decode cX7_part 1 = .ok (.invokevirtual 175, 3) ∧ decode cX7_part 4 = .ok (.aload_n 0, 1) ∧ decode cX7_part 5 = .ok (.iload_n 1, 1) ∧ decode cX7_part 6 = .ok (.invokevirtual 242, 3) ∧ decode cX7_part 9 = .ok (.ifCond .eq 35, 3) ∧ decode cX7_part 12 = .ok (.iload_n 2, 1) ∧ decode cX7_part 13 = .ok (.iconst 0, 1) := by decide +kernel
theorem dX7_part_0 : decode cX7_part 0 = .ok (.aload_n 0, 1) := dAX7_part_0.1
theorem dX7_part_1 : decode cX7_part 1 = .ok (.invokevirtual 175, 3) := dAX7_part_0.2.1
theorem dX7_part_4 : decode cX7_part 4 = .ok (.aload_n 0, 1) := dAX7_part_0.2.2.1
theorem dX7_part_5 : decode cX7_part 5 = .ok (.iload_n 1, 1) := dAX7_part_0.2.2.2.1
theorem dX7_part_6 : decode cX7_part 6 = .ok (.invokevirtual 242, 3) := dAX7_part_0.2.2.2.2.1
theorem dX7_part_9 : decode cX7_part 9 = .ok (.ifCond .eq 35, 3) := dAX7_part_0.2.2.2.2.2.1
theorem dX7_part_12 : decode cX7_part 12 = .ok (.iload_n 2, 1) := dAX7_part_0.2.2.2.2.2.2.1
theorem dX7_part_13 : decode cX7_part 13 = .ok (.iconst 0, 1) := dAX7_part_0.2.2.2.2.2.2.2
set_option maxRecDepth 100000 in
theorem dAX7_part_1 : decode cX7_part 14 = .ok (.aload_n 0, 1) ∧ decode cX7_part 15 = .ok (.getfield 20, 3) ∧ decode cX7_part 18 = .ok (.bipush 27, 2) ∧ decode cX7_part 20 = .ok (.iload_n 1, 1) ∧ decode cX7_part 21 = .ok (.iadd, 1) ∧ decode cX7_part 22 = .ok (.iaload, 1) ∧ decode cX7_part 23 = .ok (.iconst 1, 1) ∧ decode cX7_part 24 = .ok (.isub, 1) := by decide +kernel
theorem dX7_part_14 : decode cX7_part 14 = .ok (.aload_n 0, 1) := dAX7_part_1.1
theorem dX7_part_15 : decode cX7_part 15 = .ok (.getfield 20, 3) := dAX7_part_1.2.1
theorem dX7_part_18 : decode cX7_part 18 = .ok (.bipush 27, 2) := dAX7_part_1.2.2.1
theorem dX7_part_20 : decode cX7_part 20 = .ok (.iload_n 1, 1) := dAX7_part_1.2.2.2.1
theorem dX7_part_21 : decode cX7_part 21 = .ok (.iadd, 1) := dAX7_part_1.2.2.2.2.1
theorem dX7_part_22 : decode cX7_part 22 = .ok (.iaload, 1) := dAX7_part_1.2.2.2.2.2.1
theorem dX7_part_23 : decode cX7_part 23 = .ok (.iconst 1, 1) := dAX7_part_1.2.2.2.2.2.2.1
theorem dX7_part_24 : decode cX7_part 24 = .ok (.isub, 1) := dAX7_part_1.2.2.2.2.2.2.2
set_option maxRecDepth 100000 in
theorem dAX7_part_2 : decode cX7_part 25 = .ok (.invokestatic 163, 3) ∧ decode cX7_part 28 = .ok (.ifCond .eq 16, 3) ∧ decode cX7_part 31 = .ok (.aload_n 0, 1) ∧ decode cX7_part 32 = .ok (.getfield 32, 3) ∧ decode cX7_part 35 = .ok (.iconst 4, 1) ∧ decode cX7_part 36 = .ok (.iload_n 1, 1) ∧ decode cX7_part 37 = .ok (.imul, 1) ∧ decode cX7_part 38 = .ok (.iload_n 2, 1) := by decide +kernel
theorem dX7_part_25 : decode cX7_part 25 = .ok (.invokestatic 163, 3) := dAX7_part_2.1
theorem dX7_part_28 : decode cX7_part 28 = .ok (.ifCond .eq 16, 3) := dAX7_part_2.2.1
theorem dX7_part_31 : decode cX7_part 31 = .ok (.aload_n 0, 1) := dAX7_part_2.2.2.1
theorem dX7_part_32 : decode cX7_part 32 = .ok (.getfield 32, 3) := dAX7_part_2.2.2.2.1
theorem dX7_part_35 : decode cX7_part 35 = .ok (.iconst 4, 1) := dAX7_part_2.2.2.2.2.1
theorem dX7_part_36 : decode cX7_part 36 = .ok (.iload_n 1, 1) := dAX7_part_2.2.2.2.2.2.1
theorem dX7_part_37 : decode cX7_part 37 = .ok (.imul, 1) := dAX7_part_2.2.2.2.2.2.2.1
theorem dX7_part_38 : decode cX7_part 38 = .ok (.iload_n 2, 1) := dAX7_part_2.2.2.2.2.2.2.2
set_option maxRecDepth 100000 in
theorem dAX7_part_3 : decode cX7_part 39 = .ok (.iadd, 1) ∧ decode cX7_part 40 = .ok (.iaload, 1) ∧ decode cX7_part 41 = .ok (.goto 8, 3) ∧ decode cX7_part 44 = .ok (.aload_n 0, 1) ∧ decode cX7_part 45 = .ok (.iconst 1, 1) ∧ decode cX7_part 46 = .ok (.invokevirtual 178, 3) ∧ decode cX7_part 49 = .ok (.ireturn, 1) := by decide +kernel
theorem dX7_part_39 : decode cX7_part 39 = .ok (.iadd, 1) := dAX7_part_3.1
theorem dX7_part_40 : decode cX7_part 40 = .ok (.iaload, 1) := dAX7_part_3.2.1
theorem dX7_part_41 : decode cX7_part 41 = .ok (.goto 8, 3) := dAX7_part_3.2.2.1
theorem dX7_part_44 : decode cX7_part 44 = .ok (.aload_n 0, 1) := dAX7_part_3.2.2.2.1
theorem dX7_part_45 : decode cX7_part 45 = .ok (.iconst 1, 1) := dAX7_part_3.2.2.2.2.1
theorem dX7_part_46 : decode cX7_part 46 = .ok (.invokevirtual 178, 3) := dAX7_part_3.2.2.2.2.2.1
theorem dX7_part_49 : decode cX7_part 49 = .ok (.ireturn, 1) := dAX7_part_3.2.2.2.2.2.2
set_option maxRecDepth 100000 in
theorem dAX7_pass_0 : decode cX7_pass 0 = .ok (.aload_n 0, 1) ∧ decode cX7_pass 1 = .ok (.getfield 103, 3) ∧ decode cX7_pass 4 = .ok (.ifCond .ne 7, 3) ∧ decode cX7_pass 7 = .ok (.aload_n 0, 1) ∧ decode cX7_pass 8 = .ok (.invokevirtual 124, 3) ∧ decode cX7_pass 11 = .ok (.return_, 1) := by decide +kernel
theorem dX7_pass_0 : decode cX7_pass 0 = .ok (.aload_n 0, 1) := dAX7_pass_0.1
theorem dX7_pass_1 : decode cX7_pass 1 = .ok (.getfield 103, 3) := dAX7_pass_0.2.1
theorem dX7_pass_4 : decode cX7_pass 4 = .ok (.ifCond .ne 7, 3) := dAX7_pass_0.2.2.1
theorem dX7_pass_7 : decode cX7_pass 7 = .ok (.aload_n 0, 1) := dAX7_pass_0.2.2.2.1
theorem dX7_pass_8 : decode cX7_pass 8 = .ok (.invokevirtual 124, 3) := dAX7_pass_0.2.2.2.2.1
theorem dX7_pass_11 : decode cX7_pass 11 = .ok (.return_, 1) := dAX7_pass_0.2.2.2.2.2
set_option maxRecDepth 100000 in
theorem dAX7_pivot_0 : decode cX7_pivot 0 = .ok (.aload_n 0, 1) ∧ decode cX7_pivot 1 = .ok (.invokevirtual 175, 3) ∧ decode cX7_pivot 4 = .ok (.aload_n 0, 1) ∧ decode cX7_pivot 5 = .ok (.getfield 187, 3) ∧ decode cX7_pivot 8 = .ok (.ifCond .ne 9, 3) ∧ decode cX7_pivot 11 = .ok (.aload_n 0, 1) ∧ decode cX7_pivot 12 = .ok (.iconst 1, 1) ∧ decode cX7_pivot 13 = .ok (.invokevirtual 178, 3) := by decide +kernel
theorem dX7_pivot_0 : decode cX7_pivot 0 = .ok (.aload_n 0, 1) := dAX7_pivot_0.1
theorem dX7_pivot_1 : decode cX7_pivot 1 = .ok (.invokevirtual 175, 3) := dAX7_pivot_0.2.1
theorem dX7_pivot_4 : decode cX7_pivot 4 = .ok (.aload_n 0, 1) := dAX7_pivot_0.2.2.1
theorem dX7_pivot_5 : decode cX7_pivot 5 = .ok (.getfield 187, 3) := dAX7_pivot_0.2.2.2.1
theorem dX7_pivot_8 : decode cX7_pivot 8 = .ok (.ifCond .ne 9, 3) := dAX7_pivot_0.2.2.2.2.1
theorem dX7_pivot_11 : decode cX7_pivot 11 = .ok (.aload_n 0, 1) := dAX7_pivot_0.2.2.2.2.2.1
theorem dX7_pivot_12 : decode cX7_pivot 12 = .ok (.iconst 1, 1) := dAX7_pivot_0.2.2.2.2.2.2.1
theorem dX7_pivot_13 : decode cX7_pivot 13 = .ok (.invokevirtual 178, 3) := dAX7_pivot_0.2.2.2.2.2.2.2
set_option maxRecDepth 100000 in
theorem dAX7_pivot_1 : decode cX7_pivot 16 = .ok (.ireturn, 1) ∧ decode cX7_pivot 17 = .ok (.bipush (-2), 2) ∧ decode cX7_pivot 19 = .ok (.istore_n 1, 1) ∧ decode cX7_pivot 20 = .ok (.ldc 245, 2) ∧ decode cX7_pivot 22 = .ok (.istore_n 2, 1) ∧ decode cX7_pivot 23 = .ok (.iconst 0, 1) ∧ decode cX7_pivot 24 = .ok (.istore_n 3, 1) ∧ decode cX7_pivot 25 = .ok (.iload_n 3, 1) := by decide +kernel
theorem dX7_pivot_16 : decode cX7_pivot 16 = .ok (.ireturn, 1) := dAX7_pivot_1.1
theorem dX7_pivot_17 : decode cX7_pivot 17 = .ok (.bipush (-2), 2) := dAX7_pivot_1.2.1
theorem dX7_pivot_19 : decode cX7_pivot 19 = .ok (.istore_n 1, 1) := dAX7_pivot_1.2.2.1
theorem dX7_pivot_20 : decode cX7_pivot 20 = .ok (.ldc 245, 2) := dAX7_pivot_1.2.2.2.1
theorem dX7_pivot_22 : decode cX7_pivot 22 = .ok (.istore_n 2, 1) := dAX7_pivot_1.2.2.2.2.1
theorem dX7_pivot_23 : decode cX7_pivot 23 = .ok (.iconst 0, 1) := dAX7_pivot_1.2.2.2.2.2.1
theorem dX7_pivot_24 : decode cX7_pivot 24 = .ok (.istore_n 3, 1) := dAX7_pivot_1.2.2.2.2.2.2.1
theorem dX7_pivot_25 : decode cX7_pivot 25 = .ok (.iload_n 3, 1) := dAX7_pivot_1.2.2.2.2.2.2.2
set_option maxRecDepth 100000 in
theorem dAX7_pivot_2 : decode cX7_pivot 26 = .ok (.aload_n 0, 1) ∧ decode cX7_pivot 27 = .ok (.getfield 20, 3) ∧ decode cX7_pivot 30 = .ok (.iconst 1, 1) ∧ decode cX7_pivot 31 = .ok (.iaload, 1) ∧ decode cX7_pivot 32 = .ok (.if_icmp .ge 52, 3) ∧ decode cX7_pivot 35 = .ok (.aload_n 0, 1) ∧ decode cX7_pivot 36 = .ok (.getfield 20, 3) ∧ decode cX7_pivot 39 = .ok (.bipush 9, 2) := by decide +kernel
theorem dX7_pivot_26 : decode cX7_pivot 26 = .ok (.aload_n 0, 1) := dAX7_pivot_2.1
theorem dX7_pivot_27 : decode cX7_pivot 27 = .ok (.getfield 20, 3) := dAX7_pivot_2.2.1
theorem dX7_pivot_30 : decode cX7_pivot 30 = .ok (.iconst 1, 1) := dAX7_pivot_2.2.2.1
theorem dX7_pivot_31 : decode cX7_pivot 31 = .ok (.iaload, 1) := dAX7_pivot_2.2.2.2.1
theorem dX7_pivot_32 : decode cX7_pivot 32 = .ok (.if_icmp .ge 52, 3) := dAX7_pivot_2.2.2.2.2.1
theorem dX7_pivot_35 : decode cX7_pivot 35 = .ok (.aload_n 0, 1) := dAX7_pivot_2.2.2.2.2.2.1
theorem dX7_pivot_36 : decode cX7_pivot 36 = .ok (.getfield 20, 3) := dAX7_pivot_2.2.2.2.2.2.2.1
theorem dX7_pivot_39 : decode cX7_pivot 39 = .ok (.bipush 9, 2) := dAX7_pivot_2.2.2.2.2.2.2.2
set_option maxRecDepth 100000 in
theorem dAX7_pivot_3 : decode cX7_pivot 41 = .ok (.iload_n 3, 1) ∧ decode cX7_pivot 42 = .ok (.iadd, 1) ∧ decode cX7_pivot 43 = .ok (.iaload, 1) ∧ decode cX7_pivot 44 = .ok (.ifCond .ne 11, 3) ∧ decode cX7_pivot 47 = .ok (.aload_n 0, 1) ∧ decode cX7_pivot 48 = .ok (.iload_n 3, 1) ∧ decode cX7_pivot 49 = .ok (.invokevirtual 370, 3) ∧ decode cX7_pivot 52 = .ok (.goto 5, 3) := by decide +kernel
theorem dX7_pivot_41 : decode cX7_pivot 41 = .ok (.iload_n 3, 1) := dAX7_pivot_3.1
theorem dX7_pivot_42 : decode cX7_pivot 42 = .ok (.iadd, 1) := dAX7_pivot_3.2.1
theorem dX7_pivot_43 : decode cX7_pivot 43 = .ok (.iaload, 1) := dAX7_pivot_3.2.2.1
theorem dX7_pivot_44 : decode cX7_pivot 44 = .ok (.ifCond .ne 11, 3) := dAX7_pivot_3.2.2.2.1
theorem dX7_pivot_47 : decode cX7_pivot 47 = .ok (.aload_n 0, 1) := dAX7_pivot_3.2.2.2.2.1
theorem dX7_pivot_48 : decode cX7_pivot 48 = .ok (.iload_n 3, 1) := dAX7_pivot_3.2.2.2.2.2.1
theorem dX7_pivot_49 : decode cX7_pivot 49 = .ok (.invokevirtual 370, 3) := dAX7_pivot_3.2.2.2.2.2.2.1
theorem dX7_pivot_52 : decode cX7_pivot 52 = .ok (.goto 5, 3) := dAX7_pivot_3.2.2.2.2.2.2.2
set_option maxRecDepth 100000 in
theorem dAX7_pivot_4 : decode cX7_pivot 55 = .ok (.bipush (-2), 2) ∧ decode cX7_pivot 57 = .ok (.istore 4, 2) ∧ decode cX7_pivot 59 = .ok (.iload 4, 2) ∧ decode cX7_pivot 61 = .ok (.ifCond .lt 17, 3) ∧ decode cX7_pivot 64 = .ok (.iload 4, 2) ∧ decode cX7_pivot 66 = .ok (.iload_n 2, 1) ∧ decode cX7_pivot 67 = .ok (.if_icmp .lt 6, 3) ∧ decode cX7_pivot 70 = .ok (.goto 8, 3) := by decide +kernel
theorem dX7_pivot_55 : decode cX7_pivot 55 = .ok (.bipush (-2), 2) := dAX7_pivot_4.1
theorem dX7_pivot_57 : decode cX7_pivot 57 = .ok (.istore 4, 2) := dAX7_pivot_4.2.1
theorem dX7_pivot_59 : decode cX7_pivot 59 = .ok (.iload 4, 2) := dAX7_pivot_4.2.2.1
theorem dX7_pivot_61 : decode cX7_pivot 61 = .ok (.ifCond .lt 17, 3) := dAX7_pivot_4.2.2.2.1
theorem dX7_pivot_64 : decode cX7_pivot 64 = .ok (.iload 4, 2) := dAX7_pivot_4.2.2.2.2.1
theorem dX7_pivot_66 : decode cX7_pivot 66 = .ok (.iload_n 2, 1) := dAX7_pivot_4.2.2.2.2.2.1
theorem dX7_pivot_67 : decode cX7_pivot 67 = .ok (.if_icmp .lt 6, 3) := dAX7_pivot_4.2.2.2.2.2.2.1
theorem dX7_pivot_70 : decode cX7_pivot 70 = .ok (.goto 8, 3) := dAX7_pivot_4.2.2.2.2.2.2.2
set_option maxRecDepth 100000 in
theorem dAX7_pivot_5 : decode cX7_pivot 73 = .ok (.iload_n 3, 1) ∧ decode cX7_pivot 74 = .ok (.istore_n 1, 1) ∧ decode cX7_pivot 75 = .ok (.iload 4, 2) ∧ decode cX7_pivot 77 = .ok (.istore_n 2, 1) ∧ decode cX7_pivot 78 = .ok (.iinc 3 1, 3) ∧ decode cX7_pivot 81 = .ok (.goto (-56), 3) ∧ decode cX7_pivot 84 = .ok (.iload_n 1, 1) ∧ decode cX7_pivot 85 = .ok (.ireturn, 1) := by decide +kernel
theorem dX7_pivot_73 : decode cX7_pivot 73 = .ok (.iload_n 3, 1) := dAX7_pivot_5.1
theorem dX7_pivot_74 : decode cX7_pivot 74 = .ok (.istore_n 1, 1) := dAX7_pivot_5.2.1
theorem dX7_pivot_75 : decode cX7_pivot 75 = .ok (.iload 4, 2) := dAX7_pivot_5.2.2.1
theorem dX7_pivot_77 : decode cX7_pivot 77 = .ok (.istore_n 2, 1) := dAX7_pivot_5.2.2.2.1
theorem dX7_pivot_78 : decode cX7_pivot 78 = .ok (.iinc 3 1, 3) := dAX7_pivot_5.2.2.2.2.1
theorem dX7_pivot_81 : decode cX7_pivot 81 = .ok (.goto (-56), 3) := dAX7_pivot_5.2.2.2.2.2.1
theorem dX7_pivot_84 : decode cX7_pivot 84 = .ok (.iload_n 1, 1) := dAX7_pivot_5.2.2.2.2.2.2.1
theorem dX7_pivot_85 : decode cX7_pivot 85 = .ok (.ireturn, 1) := dAX7_pivot_5.2.2.2.2.2.2.2
set_option maxRecDepth 100000 in
theorem dAX7_proof_0 : decode cX7_proof 0 = .ok (.aload_n 0, 1) ∧ decode cX7_proof 1 = .ok (.invokevirtual 175, 3) ∧ decode cX7_proof 4 = .ok (.aload_n 0, 1) ∧ decode cX7_proof 5 = .ok (.iload_n 1, 1) ∧ decode cX7_proof 6 = .ok (.iconst 0, 1) ∧ decode cX7_proof 7 = .ok (.bipush 100, 2) ∧ decode cX7_proof 9 = .ok (.invokestatic 163, 3) ∧ decode cX7_proof 12 = .ok (.invokevirtual 307, 3) := by decide +kernel
theorem dX7_proof_0 : decode cX7_proof 0 = .ok (.aload_n 0, 1) := dAX7_proof_0.1
theorem dX7_proof_1 : decode cX7_proof 1 = .ok (.invokevirtual 175, 3) := dAX7_proof_0.2.1
theorem dX7_proof_4 : decode cX7_proof 4 = .ok (.aload_n 0, 1) := dAX7_proof_0.2.2.1
theorem dX7_proof_5 : decode cX7_proof 5 = .ok (.iload_n 1, 1) := dAX7_proof_0.2.2.2.1
theorem dX7_proof_6 : decode cX7_proof 6 = .ok (.iconst 0, 1) := dAX7_proof_0.2.2.2.2.1
theorem dX7_proof_7 : decode cX7_proof 7 = .ok (.bipush 100, 2) := dAX7_proof_0.2.2.2.2.2.1
theorem dX7_proof_9 : decode cX7_proof 9 = .ok (.invokestatic 163, 3) := dAX7_proof_0.2.2.2.2.2.2.1
theorem dX7_proof_12 : decode cX7_proof 12 = .ok (.invokevirtual 307, 3) := dAX7_proof_0.2.2.2.2.2.2.2
set_option maxRecDepth 100000 in
theorem dAX7_proof_1 : decode cX7_proof 15 = .ok (.istore_n 2, 1) ∧ decode cX7_proof 16 = .ok (.iload_n 2, 1) ∧ decode cX7_proof 17 = .ok (.ifCond .eq 11, 3) ∧ decode cX7_proof 20 = .ok (.aload_n 0, 1) ∧ decode cX7_proof 21 = .ok (.iload_n 2, 1) ∧ decode cX7_proof 22 = .ok (.invokevirtual 178, 3) ∧ decode cX7_proof 25 = .ok (.goto 9, 3) ∧ decode cX7_proof 28 = .ok (.aload_n 0, 1) := by decide +kernel
theorem dX7_proof_15 : decode cX7_proof 15 = .ok (.istore_n 2, 1) := dAX7_proof_1.1
theorem dX7_proof_16 : decode cX7_proof 16 = .ok (.iload_n 2, 1) := dAX7_proof_1.2.1
theorem dX7_proof_17 : decode cX7_proof 17 = .ok (.ifCond .eq 11, 3) := dAX7_proof_1.2.2.1
theorem dX7_proof_20 : decode cX7_proof 20 = .ok (.aload_n 0, 1) := dAX7_proof_1.2.2.2.1
theorem dX7_proof_21 : decode cX7_proof 21 = .ok (.iload_n 2, 1) := dAX7_proof_1.2.2.2.2.1
theorem dX7_proof_22 : decode cX7_proof 22 = .ok (.invokevirtual 178, 3) := dAX7_proof_1.2.2.2.2.2.1
theorem dX7_proof_25 : decode cX7_proof 25 = .ok (.goto 9, 3) := dAX7_proof_1.2.2.2.2.2.2.1
theorem dX7_proof_28 : decode cX7_proof 28 = .ok (.aload_n 0, 1) := dAX7_proof_1.2.2.2.2.2.2.2
set_option maxRecDepth 100000 in
theorem dAX7_proof_2 : decode cX7_proof 29 = .ok (.iconst 0, 1) ∧ decode cX7_proof 30 = .ok (.iload_n 1, 1) ∧ decode cX7_proof 31 = .ok (.invokevirtual 335, 3) ∧ decode cX7_proof 34 = .ok (.ireturn, 1) := by decide +kernel
theorem dX7_proof_29 : decode cX7_proof 29 = .ok (.iconst 0, 1) := dAX7_proof_2.1
theorem dX7_proof_30 : decode cX7_proof 30 = .ok (.iload_n 1, 1) := dAX7_proof_2.2.1
theorem dX7_proof_31 : decode cX7_proof 31 = .ok (.invokevirtual 335, 3) := dAX7_proof_2.2.2.1
theorem dX7_proof_34 : decode cX7_proof 34 = .ok (.ireturn, 1) := dAX7_proof_2.2.2.2
set_option maxRecDepth 100000 in
theorem dAX7_questions_0 : decode cX7_questions 0 = .ok (.aload_n 0, 1) ∧ decode cX7_questions 1 = .ok (.invokevirtual 175, 3) ∧ decode cX7_questions 4 = .ok (.aload_n 0, 1) ∧ decode cX7_questions 5 = .ok (.getfield 187, 3) ∧ decode cX7_questions 8 = .ok (.ifCond .eq 10, 3) ∧ decode cX7_questions 11 = .ok (.aload_n 0, 1) ∧ decode cX7_questions 12 = .ok (.invokevirtual 317, 3) ∧ decode cX7_questions 15 = .ok (.goto 8, 3) := by decide +kernel
theorem dX7_questions_0 : decode cX7_questions 0 = .ok (.aload_n 0, 1) := dAX7_questions_0.1
theorem dX7_questions_1 : decode cX7_questions 1 = .ok (.invokevirtual 175, 3) := dAX7_questions_0.2.1
theorem dX7_questions_4 : decode cX7_questions 4 = .ok (.aload_n 0, 1) := dAX7_questions_0.2.2.1
theorem dX7_questions_5 : decode cX7_questions 5 = .ok (.getfield 187, 3) := dAX7_questions_0.2.2.2.1
theorem dX7_questions_8 : decode cX7_questions 8 = .ok (.ifCond .eq 10, 3) := dAX7_questions_0.2.2.2.2.1
theorem dX7_questions_11 : decode cX7_questions 11 = .ok (.aload_n 0, 1) := dAX7_questions_0.2.2.2.2.2.1
theorem dX7_questions_12 : decode cX7_questions 12 = .ok (.invokevirtual 317, 3) := dAX7_questions_0.2.2.2.2.2.2.1
theorem dX7_questions_15 : decode cX7_questions 15 = .ok (.goto 8, 3) := dAX7_questions_0.2.2.2.2.2.2.2
set_option maxRecDepth 100000 in
theorem dAX7_questions_1 : decode cX7_questions 18 = .ok (.aload_n 0, 1) ∧ decode cX7_questions 19 = .ok (.iconst 1, 1) ∧ decode cX7_questions 20 = .ok (.invokevirtual 178, 3) ∧ decode cX7_questions 23 = .ok (.ireturn, 1) := by decide +kernel
theorem dX7_questions_18 : decode cX7_questions 18 = .ok (.aload_n 0, 1) := dAX7_questions_1.1
theorem dX7_questions_19 : decode cX7_questions 19 = .ok (.iconst 1, 1) := dAX7_questions_1.2.1
theorem dX7_questions_20 : decode cX7_questions 20 = .ok (.invokevirtual 178, 3) := dAX7_questions_1.2.2.1
theorem dX7_questions_23 : decode cX7_questions 23 = .ok (.ireturn, 1) := dAX7_questions_1.2.2.2
set_option maxRecDepth 100000 in
theorem dAX7_readLine_0 : decode cX7_readLine 0 = .ok (.aload_n 0, 1) ∧ decode cX7_readLine 1 = .ok (.ldc 134, 2) ∧ decode cX7_readLine 3 = .ok (.invokevirtual 120, 3) ∧ decode cX7_readLine 6 = .ok (.ifCond .eq 10, 3) ∧ decode cX7_readLine 9 = .ok (.aload_n 0, 1) ∧ decode cX7_readLine 10 = .ok (.invokevirtual 199, 3) ∧ decode cX7_readLine 13 = .ok (.goto 220, 3) ∧ decode cX7_readLine 16 = .ok (.aload_n 0, 1) := by decide +kernel
theorem dX7_readLine_0 : decode cX7_readLine 0 = .ok (.aload_n 0, 1) := dAX7_readLine_0.1
theorem dX7_readLine_1 : decode cX7_readLine 1 = .ok (.ldc 134, 2) := dAX7_readLine_0.2.1
theorem dX7_readLine_3 : decode cX7_readLine 3 = .ok (.invokevirtual 120, 3) := dAX7_readLine_0.2.2.1
theorem dX7_readLine_6 : decode cX7_readLine 6 = .ok (.ifCond .eq 10, 3) := dAX7_readLine_0.2.2.2.1
theorem dX7_readLine_9 : decode cX7_readLine 9 = .ok (.aload_n 0, 1) := dAX7_readLine_0.2.2.2.2.1
theorem dX7_readLine_10 : decode cX7_readLine 10 = .ok (.invokevirtual 199, 3) := dAX7_readLine_0.2.2.2.2.2.1
theorem dX7_readLine_13 : decode cX7_readLine 13 = .ok (.goto 220, 3) := dAX7_readLine_0.2.2.2.2.2.2.1
theorem dX7_readLine_16 : decode cX7_readLine 16 = .ok (.aload_n 0, 1) := dAX7_readLine_0.2.2.2.2.2.2.2
set_option maxRecDepth 100000 in
theorem dAX7_readLine_1 : decode cX7_readLine 17 = .ok (.ldc 136, 2) ∧ decode cX7_readLine 19 = .ok (.aload_n 0, 1) ∧ decode cX7_readLine 20 = .ok (.getfield 23, 3) ∧ decode cX7_readLine 23 = .ok (.iconst 2, 1) ∧ decode cX7_readLine 24 = .ok (.iaload, 1) ∧ decode cX7_readLine 25 = .ok (.bipush 10, 2) ∧ decode cX7_readLine 27 = .ok (.if_icmp .ge 7, 3) ∧ decode cX7_readLine 30 = .ok (.iconst 1, 1) := by decide +kernel
theorem dX7_readLine_17 : decode cX7_readLine 17 = .ok (.ldc 136, 2) := dAX7_readLine_1.1
theorem dX7_readLine_19 : decode cX7_readLine 19 = .ok (.aload_n 0, 1) := dAX7_readLine_1.2.1
theorem dX7_readLine_20 : decode cX7_readLine 20 = .ok (.getfield 23, 3) := dAX7_readLine_1.2.2.1
theorem dX7_readLine_23 : decode cX7_readLine 23 = .ok (.iconst 2, 1) := dAX7_readLine_1.2.2.2.1
theorem dX7_readLine_24 : decode cX7_readLine 24 = .ok (.iaload, 1) := dAX7_readLine_1.2.2.2.2.1
theorem dX7_readLine_25 : decode cX7_readLine 25 = .ok (.bipush 10, 2) := dAX7_readLine_1.2.2.2.2.2.1
theorem dX7_readLine_27 : decode cX7_readLine 27 = .ok (.if_icmp .ge 7, 3) := dAX7_readLine_1.2.2.2.2.2.2.1
theorem dX7_readLine_30 : decode cX7_readLine 30 = .ok (.iconst 1, 1) := dAX7_readLine_1.2.2.2.2.2.2.2
set_option maxRecDepth 100000 in
theorem dAX7_readLine_2 : decode cX7_readLine 31 = .ok (.goto 4, 3) ∧ decode cX7_readLine 34 = .ok (.iconst 0, 1) ∧ decode cX7_readLine 35 = .ok (.invokevirtual 202, 3) ∧ decode cX7_readLine 38 = .ok (.ifCond .eq 10, 3) ∧ decode cX7_readLine 41 = .ok (.aload_n 0, 1) ∧ decode cX7_readLine 42 = .ok (.invokevirtual 206, 3) ∧ decode cX7_readLine 45 = .ok (.goto 188, 3) ∧ decode cX7_readLine 48 = .ok (.aload_n 0, 1) := by decide +kernel
theorem dX7_readLine_31 : decode cX7_readLine 31 = .ok (.goto 4, 3) := dAX7_readLine_2.1
theorem dX7_readLine_34 : decode cX7_readLine 34 = .ok (.iconst 0, 1) := dAX7_readLine_2.2.1
theorem dX7_readLine_35 : decode cX7_readLine 35 = .ok (.invokevirtual 202, 3) := dAX7_readLine_2.2.2.1
theorem dX7_readLine_38 : decode cX7_readLine 38 = .ok (.ifCond .eq 10, 3) := dAX7_readLine_2.2.2.2.1
theorem dX7_readLine_41 : decode cX7_readLine 41 = .ok (.aload_n 0, 1) := dAX7_readLine_2.2.2.2.2.1
theorem dX7_readLine_42 : decode cX7_readLine 42 = .ok (.invokevirtual 206, 3) := dAX7_readLine_2.2.2.2.2.2.1
theorem dX7_readLine_45 : decode cX7_readLine 45 = .ok (.goto 188, 3) := dAX7_readLine_2.2.2.2.2.2.2.1
theorem dX7_readLine_48 : decode cX7_readLine 48 = .ok (.aload_n 0, 1) := dAX7_readLine_2.2.2.2.2.2.2.2
set_option maxRecDepth 100000 in
theorem dAX7_readLine_3 : decode cX7_readLine 49 = .ok (.ldc 138, 2) ∧ decode cX7_readLine 51 = .ok (.aload_n 0, 1) ∧ decode cX7_readLine 52 = .ok (.getfield 23, 3) ∧ decode cX7_readLine 55 = .ok (.bipush 7, 2) ∧ decode cX7_readLine 57 = .ok (.iaload, 1) ∧ decode cX7_readLine 58 = .ok (.bipush 8, 2) ∧ decode cX7_readLine 60 = .ok (.if_icmp .ge 7, 3) ∧ decode cX7_readLine 63 = .ok (.iconst 1, 1) := by decide +kernel
theorem dX7_readLine_49 : decode cX7_readLine 49 = .ok (.ldc 138, 2) := dAX7_readLine_3.1
theorem dX7_readLine_51 : decode cX7_readLine 51 = .ok (.aload_n 0, 1) := dAX7_readLine_3.2.1
theorem dX7_readLine_52 : decode cX7_readLine 52 = .ok (.getfield 23, 3) := dAX7_readLine_3.2.2.1
theorem dX7_readLine_55 : decode cX7_readLine 55 = .ok (.bipush 7, 2) := dAX7_readLine_3.2.2.2.1
theorem dX7_readLine_57 : decode cX7_readLine 57 = .ok (.iaload, 1) := dAX7_readLine_3.2.2.2.2.1
theorem dX7_readLine_58 : decode cX7_readLine 58 = .ok (.bipush 8, 2) := dAX7_readLine_3.2.2.2.2.2.1
theorem dX7_readLine_60 : decode cX7_readLine 60 = .ok (.if_icmp .ge 7, 3) := dAX7_readLine_3.2.2.2.2.2.2.1
theorem dX7_readLine_63 : decode cX7_readLine 63 = .ok (.iconst 1, 1) := dAX7_readLine_3.2.2.2.2.2.2.2
set_option maxRecDepth 100000 in
theorem dAX7_readLine_4 : decode cX7_readLine 64 = .ok (.goto 4, 3) ∧ decode cX7_readLine 67 = .ok (.iconst 0, 1) ∧ decode cX7_readLine 68 = .ok (.invokevirtual 202, 3) ∧ decode cX7_readLine 71 = .ok (.ifCond .eq 11, 3) ∧ decode cX7_readLine 74 = .ok (.aload_n 0, 1) ∧ decode cX7_readLine 75 = .ok (.iconst 1, 1) ∧ decode cX7_readLine 76 = .ok (.invokevirtual 209, 3) ∧ decode cX7_readLine 79 = .ok (.goto 154, 3) := by decide +kernel
theorem dX7_readLine_64 : decode cX7_readLine 64 = .ok (.goto 4, 3) := dAX7_readLine_4.1
theorem dX7_readLine_67 : decode cX7_readLine 67 = .ok (.iconst 0, 1) := dAX7_readLine_4.2.1
theorem dX7_readLine_68 : decode cX7_readLine 68 = .ok (.invokevirtual 202, 3) := dAX7_readLine_4.2.2.1
theorem dX7_readLine_71 : decode cX7_readLine 71 = .ok (.ifCond .eq 11, 3) := dAX7_readLine_4.2.2.2.1
theorem dX7_readLine_74 : decode cX7_readLine 74 = .ok (.aload_n 0, 1) := dAX7_readLine_4.2.2.2.2.1
theorem dX7_readLine_75 : decode cX7_readLine 75 = .ok (.iconst 1, 1) := dAX7_readLine_4.2.2.2.2.2.1
theorem dX7_readLine_76 : decode cX7_readLine 76 = .ok (.invokevirtual 209, 3) := dAX7_readLine_4.2.2.2.2.2.2.1
theorem dX7_readLine_79 : decode cX7_readLine 79 = .ok (.goto 154, 3) := dAX7_readLine_4.2.2.2.2.2.2.2
set_option maxRecDepth 100000 in
theorem dAX7_readLine_5 : decode cX7_readLine 82 = .ok (.aload_n 0, 1) ∧ decode cX7_readLine 83 = .ok (.ldc 140, 2) ∧ decode cX7_readLine 85 = .ok (.aload_n 0, 1) ∧ decode cX7_readLine 86 = .ok (.getfield 23, 3) ∧ decode cX7_readLine 89 = .ok (.bipush 7, 2) ∧ decode cX7_readLine 91 = .ok (.iaload, 1) ∧ decode cX7_readLine 92 = .ok (.bipush 8, 2) ∧ decode cX7_readLine 94 = .ok (.if_icmp .ge 7, 3) := by decide +kernel
theorem dX7_readLine_82 : decode cX7_readLine 82 = .ok (.aload_n 0, 1) := dAX7_readLine_5.1
theorem dX7_readLine_83 : decode cX7_readLine 83 = .ok (.ldc 140, 2) := dAX7_readLine_5.2.1
theorem dX7_readLine_85 : decode cX7_readLine 85 = .ok (.aload_n 0, 1) := dAX7_readLine_5.2.2.1
theorem dX7_readLine_86 : decode cX7_readLine 86 = .ok (.getfield 23, 3) := dAX7_readLine_5.2.2.2.1
theorem dX7_readLine_89 : decode cX7_readLine 89 = .ok (.bipush 7, 2) := dAX7_readLine_5.2.2.2.2.1
theorem dX7_readLine_91 : decode cX7_readLine 91 = .ok (.iaload, 1) := dAX7_readLine_5.2.2.2.2.2.1
theorem dX7_readLine_92 : decode cX7_readLine 92 = .ok (.bipush 8, 2) := dAX7_readLine_5.2.2.2.2.2.2.1
theorem dX7_readLine_94 : decode cX7_readLine 94 = .ok (.if_icmp .ge 7, 3) := dAX7_readLine_5.2.2.2.2.2.2.2
set_option maxRecDepth 100000 in
theorem dAX7_readLine_6 : decode cX7_readLine 97 = .ok (.iconst 1, 1) ∧ decode cX7_readLine 98 = .ok (.goto 4, 3) ∧ decode cX7_readLine 101 = .ok (.iconst 0, 1) ∧ decode cX7_readLine 102 = .ok (.invokevirtual 202, 3) ∧ decode cX7_readLine 105 = .ok (.ifCond .eq 11, 3) ∧ decode cX7_readLine 108 = .ok (.aload_n 0, 1) ∧ decode cX7_readLine 109 = .ok (.iconst 2, 1) ∧ decode cX7_readLine 110 = .ok (.invokevirtual 209, 3) := by decide +kernel
theorem dX7_readLine_97 : decode cX7_readLine 97 = .ok (.iconst 1, 1) := dAX7_readLine_6.1
theorem dX7_readLine_98 : decode cX7_readLine 98 = .ok (.goto 4, 3) := dAX7_readLine_6.2.1
theorem dX7_readLine_101 : decode cX7_readLine 101 = .ok (.iconst 0, 1) := dAX7_readLine_6.2.2.1
theorem dX7_readLine_102 : decode cX7_readLine 102 = .ok (.invokevirtual 202, 3) := dAX7_readLine_6.2.2.2.1
theorem dX7_readLine_105 : decode cX7_readLine 105 = .ok (.ifCond .eq 11, 3) := dAX7_readLine_6.2.2.2.2.1
theorem dX7_readLine_108 : decode cX7_readLine 108 = .ok (.aload_n 0, 1) := dAX7_readLine_6.2.2.2.2.2.1
theorem dX7_readLine_109 : decode cX7_readLine 109 = .ok (.iconst 2, 1) := dAX7_readLine_6.2.2.2.2.2.2.1
theorem dX7_readLine_110 : decode cX7_readLine 110 = .ok (.invokevirtual 209, 3) := dAX7_readLine_6.2.2.2.2.2.2.2
set_option maxRecDepth 100000 in
theorem dAX7_readLine_7 : decode cX7_readLine 113 = .ok (.goto 120, 3) ∧ decode cX7_readLine 116 = .ok (.aload_n 0, 1) ∧ decode cX7_readLine 117 = .ok (.ldc 142, 2) ∧ decode cX7_readLine 119 = .ok (.aload_n 0, 1) ∧ decode cX7_readLine 120 = .ok (.getfield 23, 3) ∧ decode cX7_readLine 123 = .ok (.bipush 7, 2) ∧ decode cX7_readLine 125 = .ok (.iaload, 1) ∧ decode cX7_readLine 126 = .ok (.bipush 8, 2) := by decide +kernel
theorem dX7_readLine_113 : decode cX7_readLine 113 = .ok (.goto 120, 3) := dAX7_readLine_7.1
theorem dX7_readLine_116 : decode cX7_readLine 116 = .ok (.aload_n 0, 1) := dAX7_readLine_7.2.1
theorem dX7_readLine_117 : decode cX7_readLine 117 = .ok (.ldc 142, 2) := dAX7_readLine_7.2.2.1
theorem dX7_readLine_119 : decode cX7_readLine 119 = .ok (.aload_n 0, 1) := dAX7_readLine_7.2.2.2.1
theorem dX7_readLine_120 : decode cX7_readLine 120 = .ok (.getfield 23, 3) := dAX7_readLine_7.2.2.2.2.1
theorem dX7_readLine_123 : decode cX7_readLine 123 = .ok (.bipush 7, 2) := dAX7_readLine_7.2.2.2.2.2.1
theorem dX7_readLine_125 : decode cX7_readLine 125 = .ok (.iaload, 1) := dAX7_readLine_7.2.2.2.2.2.2.1
theorem dX7_readLine_126 : decode cX7_readLine 126 = .ok (.bipush 8, 2) := dAX7_readLine_7.2.2.2.2.2.2.2
set_option maxRecDepth 100000 in
theorem dAX7_readLine_8 : decode cX7_readLine 128 = .ok (.if_icmp .ge 18, 3) ∧ decode cX7_readLine 131 = .ok (.aload_n 0, 1) ∧ decode cX7_readLine 132 = .ok (.getfield 23, 3) ∧ decode cX7_readLine 135 = .ok (.bipush 8, 2) ∧ decode cX7_readLine 137 = .ok (.iaload, 1) ∧ decode cX7_readLine 138 = .ok (.iconst 2, 1) ∧ decode cX7_readLine 139 = .ok (.if_icmp .ge 7, 3) ∧ decode cX7_readLine 142 = .ok (.iconst 1, 1) := by decide +kernel
theorem dX7_readLine_128 : decode cX7_readLine 128 = .ok (.if_icmp .ge 18, 3) := dAX7_readLine_8.1
theorem dX7_readLine_131 : decode cX7_readLine 131 = .ok (.aload_n 0, 1) := dAX7_readLine_8.2.1
theorem dX7_readLine_132 : decode cX7_readLine 132 = .ok (.getfield 23, 3) := dAX7_readLine_8.2.2.1
theorem dX7_readLine_135 : decode cX7_readLine 135 = .ok (.bipush 8, 2) := dAX7_readLine_8.2.2.2.1
theorem dX7_readLine_137 : decode cX7_readLine 137 = .ok (.iaload, 1) := dAX7_readLine_8.2.2.2.2.1
theorem dX7_readLine_138 : decode cX7_readLine 138 = .ok (.iconst 2, 1) := dAX7_readLine_8.2.2.2.2.2.1
theorem dX7_readLine_139 : decode cX7_readLine 139 = .ok (.if_icmp .ge 7, 3) := dAX7_readLine_8.2.2.2.2.2.2.1
theorem dX7_readLine_142 : decode cX7_readLine 142 = .ok (.iconst 1, 1) := dAX7_readLine_8.2.2.2.2.2.2.2
set_option maxRecDepth 100000 in
theorem dAX7_readLine_9 : decode cX7_readLine 143 = .ok (.goto 4, 3) ∧ decode cX7_readLine 146 = .ok (.iconst 0, 1) ∧ decode cX7_readLine 147 = .ok (.invokevirtual 202, 3) ∧ decode cX7_readLine 150 = .ok (.ifCond .eq 11, 3) ∧ decode cX7_readLine 153 = .ok (.aload_n 0, 1) ∧ decode cX7_readLine 154 = .ok (.iconst 3, 1) ∧ decode cX7_readLine 155 = .ok (.invokevirtual 209, 3) ∧ decode cX7_readLine 158 = .ok (.goto 75, 3) := by decide +kernel
theorem dX7_readLine_143 : decode cX7_readLine 143 = .ok (.goto 4, 3) := dAX7_readLine_9.1
theorem dX7_readLine_146 : decode cX7_readLine 146 = .ok (.iconst 0, 1) := dAX7_readLine_9.2.1
theorem dX7_readLine_147 : decode cX7_readLine 147 = .ok (.invokevirtual 202, 3) := dAX7_readLine_9.2.2.1
theorem dX7_readLine_150 : decode cX7_readLine 150 = .ok (.ifCond .eq 11, 3) := dAX7_readLine_9.2.2.2.1
theorem dX7_readLine_153 : decode cX7_readLine 153 = .ok (.aload_n 0, 1) := dAX7_readLine_9.2.2.2.2.1
theorem dX7_readLine_154 : decode cX7_readLine 154 = .ok (.iconst 3, 1) := dAX7_readLine_9.2.2.2.2.2.1
theorem dX7_readLine_155 : decode cX7_readLine 155 = .ok (.invokevirtual 209, 3) := dAX7_readLine_9.2.2.2.2.2.2.1
theorem dX7_readLine_158 : decode cX7_readLine 158 = .ok (.goto 75, 3) := dAX7_readLine_9.2.2.2.2.2.2.2
set_option maxRecDepth 100000 in
theorem dAX7_readLine_10 : decode cX7_readLine 161 = .ok (.aload_n 0, 1) ∧ decode cX7_readLine 162 = .ok (.ldc 144, 2) ∧ decode cX7_readLine 164 = .ok (.invokevirtual 120, 3) ∧ decode cX7_readLine 167 = .ok (.ifCond .eq 10, 3) ∧ decode cX7_readLine 170 = .ok (.aload_n 0, 1) ∧ decode cX7_readLine 171 = .ok (.invokevirtual 213, 3) ∧ decode cX7_readLine 174 = .ok (.goto 59, 3) ∧ decode cX7_readLine 177 = .ok (.aload_n 0, 1) := by decide +kernel
theorem dX7_readLine_161 : decode cX7_readLine 161 = .ok (.aload_n 0, 1) := dAX7_readLine_10.1
theorem dX7_readLine_162 : decode cX7_readLine 162 = .ok (.ldc 144, 2) := dAX7_readLine_10.2.1
theorem dX7_readLine_164 : decode cX7_readLine 164 = .ok (.invokevirtual 120, 3) := dAX7_readLine_10.2.2.1
theorem dX7_readLine_167 : decode cX7_readLine 167 = .ok (.ifCond .eq 10, 3) := dAX7_readLine_10.2.2.2.1
theorem dX7_readLine_170 : decode cX7_readLine 170 = .ok (.aload_n 0, 1) := dAX7_readLine_10.2.2.2.2.1
theorem dX7_readLine_171 : decode cX7_readLine 171 = .ok (.invokevirtual 213, 3) := dAX7_readLine_10.2.2.2.2.2.1
theorem dX7_readLine_174 : decode cX7_readLine 174 = .ok (.goto 59, 3) := dAX7_readLine_10.2.2.2.2.2.2.1
theorem dX7_readLine_177 : decode cX7_readLine 177 = .ok (.aload_n 0, 1) := dAX7_readLine_10.2.2.2.2.2.2.2
set_option maxRecDepth 100000 in
theorem dAX7_readLine_11 : decode cX7_readLine 178 = .ok (.ldc 146, 2) ∧ decode cX7_readLine 180 = .ok (.aload_n 0, 1) ∧ decode cX7_readLine 181 = .ok (.getfield 23, 3) ∧ decode cX7_readLine 184 = .ok (.iconst 3, 1) ∧ decode cX7_readLine 185 = .ok (.iaload, 1) ∧ decode cX7_readLine 186 = .ok (.iconst 4, 1) ∧ decode cX7_readLine 187 = .ok (.if_icmp .ge 7, 3) ∧ decode cX7_readLine 190 = .ok (.iconst 1, 1) := by decide +kernel
theorem dX7_readLine_178 : decode cX7_readLine 178 = .ok (.ldc 146, 2) := dAX7_readLine_11.1
theorem dX7_readLine_180 : decode cX7_readLine 180 = .ok (.aload_n 0, 1) := dAX7_readLine_11.2.1
theorem dX7_readLine_181 : decode cX7_readLine 181 = .ok (.getfield 23, 3) := dAX7_readLine_11.2.2.1
theorem dX7_readLine_184 : decode cX7_readLine 184 = .ok (.iconst 3, 1) := dAX7_readLine_11.2.2.2.1
theorem dX7_readLine_185 : decode cX7_readLine 185 = .ok (.iaload, 1) := dAX7_readLine_11.2.2.2.2.1
theorem dX7_readLine_186 : decode cX7_readLine 186 = .ok (.iconst 4, 1) := dAX7_readLine_11.2.2.2.2.2.1
theorem dX7_readLine_187 : decode cX7_readLine 187 = .ok (.if_icmp .ge 7, 3) := dAX7_readLine_11.2.2.2.2.2.2.1
theorem dX7_readLine_190 : decode cX7_readLine 190 = .ok (.iconst 1, 1) := dAX7_readLine_11.2.2.2.2.2.2.2
set_option maxRecDepth 100000 in
theorem dAX7_readLine_12 : decode cX7_readLine 191 = .ok (.goto 4, 3) ∧ decode cX7_readLine 194 = .ok (.iconst 0, 1) ∧ decode cX7_readLine 195 = .ok (.invokevirtual 202, 3) ∧ decode cX7_readLine 198 = .ok (.ifCond .eq 10, 3) ∧ decode cX7_readLine 201 = .ok (.aload_n 0, 1) ∧ decode cX7_readLine 202 = .ok (.invokevirtual 216, 3) ∧ decode cX7_readLine 205 = .ok (.goto 28, 3) ∧ decode cX7_readLine 208 = .ok (.aload_n 0, 1) := by decide +kernel
theorem dX7_readLine_191 : decode cX7_readLine 191 = .ok (.goto 4, 3) := dAX7_readLine_12.1
theorem dX7_readLine_194 : decode cX7_readLine 194 = .ok (.iconst 0, 1) := dAX7_readLine_12.2.1
theorem dX7_readLine_195 : decode cX7_readLine 195 = .ok (.invokevirtual 202, 3) := dAX7_readLine_12.2.2.1
theorem dX7_readLine_198 : decode cX7_readLine 198 = .ok (.ifCond .eq 10, 3) := dAX7_readLine_12.2.2.2.1
theorem dX7_readLine_201 : decode cX7_readLine 201 = .ok (.aload_n 0, 1) := dAX7_readLine_12.2.2.2.2.1
theorem dX7_readLine_202 : decode cX7_readLine 202 = .ok (.invokevirtual 216, 3) := dAX7_readLine_12.2.2.2.2.2.1
theorem dX7_readLine_205 : decode cX7_readLine 205 = .ok (.goto 28, 3) := dAX7_readLine_12.2.2.2.2.2.2.1
theorem dX7_readLine_208 : decode cX7_readLine 208 = .ok (.aload_n 0, 1) := dAX7_readLine_12.2.2.2.2.2.2.2
set_option maxRecDepth 100000 in
theorem dAX7_readLine_13 : decode cX7_readLine 209 = .ok (.ldc 148, 2) ∧ decode cX7_readLine 211 = .ok (.invokevirtual 120, 3) ∧ decode cX7_readLine 214 = .ok (.ifCond .eq 10, 3) ∧ decode cX7_readLine 217 = .ok (.aload_n 0, 1) ∧ decode cX7_readLine 218 = .ok (.invokevirtual 219, 3) ∧ decode cX7_readLine 221 = .ok (.goto 12, 3) ∧ decode cX7_readLine 224 = .ok (.aload_n 0, 1) ∧ decode cX7_readLine 225 = .ok (.iconst 1, 1) := by decide +kernel
theorem dX7_readLine_209 : decode cX7_readLine 209 = .ok (.ldc 148, 2) := dAX7_readLine_13.1
theorem dX7_readLine_211 : decode cX7_readLine 211 = .ok (.invokevirtual 120, 3) := dAX7_readLine_13.2.1
theorem dX7_readLine_214 : decode cX7_readLine 214 = .ok (.ifCond .eq 10, 3) := dAX7_readLine_13.2.2.1
theorem dX7_readLine_217 : decode cX7_readLine 217 = .ok (.aload_n 0, 1) := dAX7_readLine_13.2.2.2.1
theorem dX7_readLine_218 : decode cX7_readLine 218 = .ok (.invokevirtual 219, 3) := dAX7_readLine_13.2.2.2.2.1
theorem dX7_readLine_221 : decode cX7_readLine 221 = .ok (.goto 12, 3) := dAX7_readLine_13.2.2.2.2.2.1
theorem dX7_readLine_224 : decode cX7_readLine 224 = .ok (.aload_n 0, 1) := dAX7_readLine_13.2.2.2.2.2.2.1
theorem dX7_readLine_225 : decode cX7_readLine 225 = .ok (.iconst 1, 1) := dAX7_readLine_13.2.2.2.2.2.2.2
set_option maxRecDepth 100000 in
theorem dAX7_readLine_14 : decode cX7_readLine 226 = .ok (.aload_n 0, 1) ∧ decode cX7_readLine 227 = .ok (.getfield 84, 3) ∧ decode cX7_readLine 230 = .ok (.invokevirtual 130, 3) ∧ decode cX7_readLine 233 = .ok (.return_, 1) := by decide +kernel
theorem dX7_readLine_226 : decode cX7_readLine 226 = .ok (.aload_n 0, 1) := dAX7_readLine_14.1
theorem dX7_readLine_227 : decode cX7_readLine 227 = .ok (.getfield 84, 3) := dAX7_readLine_14.2.1
theorem dX7_readLine_230 : decode cX7_readLine 230 = .ok (.invokevirtual 130, 3) := dAX7_readLine_14.2.2.1
theorem dX7_readLine_233 : decode cX7_readLine 233 = .ok (.return_, 1) := dAX7_readLine_14.2.2.2
set_option maxRecDepth 100000 in
theorem dAX7_rest_0 : decode cX7_rest 0 = .ok (.aload_n 0, 1) ∧ decode cX7_rest 1 = .ok (.invokevirtual 175, 3) ∧ decode cX7_rest 4 = .ok (.aload_n 0, 1) ∧ decode cX7_rest 5 = .ok (.iload_n 1, 1) ∧ decode cX7_rest 6 = .ok (.iconst 0, 1) ∧ decode cX7_rest 7 = .ok (.bipush 9, 2) ∧ decode cX7_rest 9 = .ok (.invokestatic 163, 3) ∧ decode cX7_rest 12 = .ok (.invokevirtual 307, 3) := by decide +kernel
theorem dX7_rest_0 : decode cX7_rest 0 = .ok (.aload_n 0, 1) := dAX7_rest_0.1
theorem dX7_rest_1 : decode cX7_rest 1 = .ok (.invokevirtual 175, 3) := dAX7_rest_0.2.1
theorem dX7_rest_4 : decode cX7_rest 4 = .ok (.aload_n 0, 1) := dAX7_rest_0.2.2.1
theorem dX7_rest_5 : decode cX7_rest 5 = .ok (.iload_n 1, 1) := dAX7_rest_0.2.2.2.1
theorem dX7_rest_6 : decode cX7_rest 6 = .ok (.iconst 0, 1) := dAX7_rest_0.2.2.2.2.1
theorem dX7_rest_7 : decode cX7_rest 7 = .ok (.bipush 9, 2) := dAX7_rest_0.2.2.2.2.2.1
theorem dX7_rest_9 : decode cX7_rest 9 = .ok (.invokestatic 163, 3) := dAX7_rest_0.2.2.2.2.2.2.1
theorem dX7_rest_12 : decode cX7_rest 12 = .ok (.invokevirtual 307, 3) := dAX7_rest_0.2.2.2.2.2.2.2
set_option maxRecDepth 100000 in
theorem dAX7_rest_1 : decode cX7_rest 15 = .ok (.istore_n 2, 1) ∧ decode cX7_rest 16 = .ok (.iload_n 2, 1) ∧ decode cX7_rest 17 = .ok (.ifCond .eq 9, 3) ∧ decode cX7_rest 20 = .ok (.aload_n 0, 1) ∧ decode cX7_rest 21 = .ok (.iload_n 2, 1) ∧ decode cX7_rest 22 = .ok (.invokevirtual 178, 3) ∧ decode cX7_rest 25 = .ok (.ireturn, 1) ∧ decode cX7_rest 26 = .ok (.aload_n 0, 1) := by decide +kernel
theorem dX7_rest_15 : decode cX7_rest 15 = .ok (.istore_n 2, 1) := dAX7_rest_1.1
theorem dX7_rest_16 : decode cX7_rest 16 = .ok (.iload_n 2, 1) := dAX7_rest_1.2.1
theorem dX7_rest_17 : decode cX7_rest 17 = .ok (.ifCond .eq 9, 3) := dAX7_rest_1.2.2.1
theorem dX7_rest_20 : decode cX7_rest 20 = .ok (.aload_n 0, 1) := dAX7_rest_1.2.2.2.1
theorem dX7_rest_21 : decode cX7_rest 21 = .ok (.iload_n 2, 1) := dAX7_rest_1.2.2.2.2.1
theorem dX7_rest_22 : decode cX7_rest 22 = .ok (.invokevirtual 178, 3) := dAX7_rest_1.2.2.2.2.2.1
theorem dX7_rest_25 : decode cX7_rest 25 = .ok (.ireturn, 1) := dAX7_rest_1.2.2.2.2.2.2.1
theorem dX7_rest_26 : decode cX7_rest 26 = .ok (.aload_n 0, 1) := dAX7_rest_1.2.2.2.2.2.2.2
set_option maxRecDepth 100000 in
theorem dAX7_rest_2 : decode cX7_rest 27 = .ok (.iload_n 1, 1) ∧ decode cX7_rest 28 = .ok (.invokevirtual 418, 3) ∧ decode cX7_rest 31 = .ok (.pop, 1) ∧ decode cX7_rest 32 = .ok (.aload_n 0, 1) ∧ decode cX7_rest 33 = .ok (.getfield 415, 3) ∧ decode cX7_rest 36 = .ok (.ireturn, 1) := by decide +kernel
theorem dX7_rest_27 : decode cX7_rest 27 = .ok (.iload_n 1, 1) := dAX7_rest_2.1
theorem dX7_rest_28 : decode cX7_rest 28 = .ok (.invokevirtual 418, 3) := dAX7_rest_2.2.1
theorem dX7_rest_31 : decode cX7_rest 31 = .ok (.pop, 1) := dAX7_rest_2.2.2.1
theorem dX7_rest_32 : decode cX7_rest 32 = .ok (.aload_n 0, 1) := dAX7_rest_2.2.2.2.1
theorem dX7_rest_33 : decode cX7_rest 33 = .ok (.getfield 415, 3) := dAX7_rest_2.2.2.2.2.1
theorem dX7_rest_36 : decode cX7_rest 36 = .ok (.ireturn, 1) := dAX7_rest_2.2.2.2.2.2
set_option maxRecDepth 100000 in
theorem dAX7_rests_0 : decode cX7_rests 0 = .ok (.aload_n 0, 1) ∧ decode cX7_rests 1 = .ok (.invokevirtual 175, 3) ∧ decode cX7_rests 4 = .ok (.aload_n 0, 1) ∧ decode cX7_rests 5 = .ok (.iload_n 1, 1) ∧ decode cX7_rests 6 = .ok (.iconst 0, 1) ∧ decode cX7_rests 7 = .ok (.bipush 9, 2) ∧ decode cX7_rests 9 = .ok (.invokestatic 163, 3) ∧ decode cX7_rests 12 = .ok (.invokevirtual 307, 3) := by decide +kernel
theorem dX7_rests_0 : decode cX7_rests 0 = .ok (.aload_n 0, 1) := dAX7_rests_0.1
theorem dX7_rests_1 : decode cX7_rests 1 = .ok (.invokevirtual 175, 3) := dAX7_rests_0.2.1
theorem dX7_rests_4 : decode cX7_rests 4 = .ok (.aload_n 0, 1) := dAX7_rests_0.2.2.1
theorem dX7_rests_5 : decode cX7_rests 5 = .ok (.iload_n 1, 1) := dAX7_rests_0.2.2.2.1
theorem dX7_rests_6 : decode cX7_rests 6 = .ok (.iconst 0, 1) := dAX7_rests_0.2.2.2.2.1
theorem dX7_rests_7 : decode cX7_rests 7 = .ok (.bipush 9, 2) := dAX7_rests_0.2.2.2.2.2.1
theorem dX7_rests_9 : decode cX7_rests 9 = .ok (.invokestatic 163, 3) := dAX7_rests_0.2.2.2.2.2.2.1
theorem dX7_rests_12 : decode cX7_rests 12 = .ok (.invokevirtual 307, 3) := dAX7_rests_0.2.2.2.2.2.2.2
set_option maxRecDepth 100000 in
theorem dAX7_rests_1 : decode cX7_rests 15 = .ok (.istore_n 2, 1) ∧ decode cX7_rests 16 = .ok (.iload_n 2, 1) ∧ decode cX7_rests 17 = .ok (.ifCond .eq 11, 3) ∧ decode cX7_rests 20 = .ok (.aload_n 0, 1) ∧ decode cX7_rests 21 = .ok (.iload_n 2, 1) ∧ decode cX7_rests 22 = .ok (.invokevirtual 178, 3) ∧ decode cX7_rests 25 = .ok (.goto 8, 3) ∧ decode cX7_rests 28 = .ok (.aload_n 0, 1) := by decide +kernel
theorem dX7_rests_15 : decode cX7_rests 15 = .ok (.istore_n 2, 1) := dAX7_rests_1.1
theorem dX7_rests_16 : decode cX7_rests 16 = .ok (.iload_n 2, 1) := dAX7_rests_1.2.1
theorem dX7_rests_17 : decode cX7_rests 17 = .ok (.ifCond .eq 11, 3) := dAX7_rests_1.2.2.1
theorem dX7_rests_20 : decode cX7_rests 20 = .ok (.aload_n 0, 1) := dAX7_rests_1.2.2.2.1
theorem dX7_rests_21 : decode cX7_rests 21 = .ok (.iload_n 2, 1) := dAX7_rests_1.2.2.2.2.1
theorem dX7_rests_22 : decode cX7_rests 22 = .ok (.invokevirtual 178, 3) := dAX7_rests_1.2.2.2.2.2.1
theorem dX7_rests_25 : decode cX7_rests 25 = .ok (.goto 8, 3) := dAX7_rests_1.2.2.2.2.2.2.1
theorem dX7_rests_28 : decode cX7_rests 28 = .ok (.aload_n 0, 1) := dAX7_rests_1.2.2.2.2.2.2.2
set_option maxRecDepth 100000 in
theorem dAX7_rests_2 : decode cX7_rests 29 = .ok (.iload_n 1, 1) ∧ decode cX7_rests 30 = .ok (.invokevirtual 418, 3) ∧ decode cX7_rests 33 = .ok (.ireturn, 1) := by decide +kernel
theorem dX7_rests_29 : decode cX7_rests 29 = .ok (.iload_n 1, 1) := dAX7_rests_2.1
theorem dX7_rests_30 : decode cX7_rests 30 = .ok (.invokevirtual 418, 3) := dAX7_rests_2.2.1
theorem dX7_rests_33 : decode cX7_rests 33 = .ok (.ireturn, 1) := dAX7_rests_2.2.2
set_option maxRecDepth 100000 in
theorem dAX7_saidLine_0 : decode cX7_saidLine 0 = .ok (.aload_n 0, 1) ∧ decode cX7_saidLine 1 = .ok (.getfield 23, 3) ∧ decode cX7_saidLine 4 = .ok (.iconst 4, 1) ∧ decode cX7_saidLine 5 = .ok (.iaload, 1) ∧ decode cX7_saidLine 6 = .ok (.ifCond .le 12, 3) ∧ decode cX7_saidLine 9 = .ok (.aload_n 0, 1) ∧ decode cX7_saidLine 10 = .ok (.iconst 3, 1) ∧ decode cX7_saidLine 11 = .ok (.aload_n 0, 1) := by decide +kernel
theorem dX7_saidLine_0 : decode cX7_saidLine 0 = .ok (.aload_n 0, 1) := dAX7_saidLine_0.1
theorem dX7_saidLine_1 : decode cX7_saidLine 1 = .ok (.getfield 23, 3) := dAX7_saidLine_0.2.1
theorem dX7_saidLine_4 : decode cX7_saidLine 4 = .ok (.iconst 4, 1) := dAX7_saidLine_0.2.2.1
theorem dX7_saidLine_5 : decode cX7_saidLine 5 = .ok (.iaload, 1) := dAX7_saidLine_0.2.2.2.1
theorem dX7_saidLine_6 : decode cX7_saidLine 6 = .ok (.ifCond .le 12, 3) := dAX7_saidLine_0.2.2.2.2.1
theorem dX7_saidLine_9 : decode cX7_saidLine 9 = .ok (.aload_n 0, 1) := dAX7_saidLine_0.2.2.2.2.2.1
theorem dX7_saidLine_10 : decode cX7_saidLine 10 = .ok (.iconst 3, 1) := dAX7_saidLine_0.2.2.2.2.2.2.1
theorem dX7_saidLine_11 : decode cX7_saidLine 11 = .ok (.aload_n 0, 1) := dAX7_saidLine_0.2.2.2.2.2.2.2
set_option maxRecDepth 100000 in
theorem dAX7_saidLine_1 : decode cX7_saidLine 12 = .ok (.getfield 84, 3) ∧ decode cX7_saidLine 15 = .ok (.invokevirtual 130, 3) ∧ decode cX7_saidLine 18 = .ok (.aload_n 0, 1) ∧ decode cX7_saidLine 19 = .ok (.ldc 148, 2) ∧ decode cX7_saidLine 21 = .ok (.iconst 1, 1) ∧ decode cX7_saidLine 22 = .ok (.invokevirtual 202, 3) ∧ decode cX7_saidLine 25 = .ok (.pop, 1) ∧ decode cX7_saidLine 26 = .ok (.aload_n 0, 1) := by decide +kernel
theorem dX7_saidLine_12 : decode cX7_saidLine 12 = .ok (.getfield 84, 3) := dAX7_saidLine_1.1
theorem dX7_saidLine_15 : decode cX7_saidLine 15 = .ok (.invokevirtual 130, 3) := dAX7_saidLine_1.2.1
theorem dX7_saidLine_18 : decode cX7_saidLine 18 = .ok (.aload_n 0, 1) := dAX7_saidLine_1.2.2.1
theorem dX7_saidLine_19 : decode cX7_saidLine 19 = .ok (.ldc 148, 2) := dAX7_saidLine_1.2.2.2.1
theorem dX7_saidLine_21 : decode cX7_saidLine 21 = .ok (.iconst 1, 1) := dAX7_saidLine_1.2.2.2.2.1
theorem dX7_saidLine_22 : decode cX7_saidLine 22 = .ok (.invokevirtual 202, 3) := dAX7_saidLine_1.2.2.2.2.2.1
theorem dX7_saidLine_25 : decode cX7_saidLine 25 = .ok (.pop, 1) := dAX7_saidLine_1.2.2.2.2.2.2.1
theorem dX7_saidLine_26 : decode cX7_saidLine 26 = .ok (.aload_n 0, 1) := dAX7_saidLine_1.2.2.2.2.2.2.2
set_option maxRecDepth 100000 in
theorem dAX7_saidLine_2 : decode cX7_saidLine 27 = .ok (.iconst 0, 1) ∧ decode cX7_saidLine 28 = .ok (.bipush 99, 2) ∧ decode cX7_saidLine 30 = .ok (.invokevirtual 171, 3) ∧ decode cX7_saidLine 33 = .ok (.istore_n 1, 1) ∧ decode cX7_saidLine 34 = .ok (.aload_n 0, 1) ∧ decode cX7_saidLine 35 = .ok (.getfield 103, 3) ∧ decode cX7_saidLine 38 = .ok (.ifCond .ne 12, 3) ∧ decode cX7_saidLine 41 = .ok (.aload_n 0, 1) := by decide +kernel
theorem dX7_saidLine_27 : decode cX7_saidLine 27 = .ok (.iconst 0, 1) := dAX7_saidLine_2.1
theorem dX7_saidLine_28 : decode cX7_saidLine 28 = .ok (.bipush 99, 2) := dAX7_saidLine_2.2.1
theorem dX7_saidLine_30 : decode cX7_saidLine 30 = .ok (.invokevirtual 171, 3) := dAX7_saidLine_2.2.2.1
theorem dX7_saidLine_33 : decode cX7_saidLine 33 = .ok (.istore_n 1, 1) := dAX7_saidLine_2.2.2.2.1
theorem dX7_saidLine_34 : decode cX7_saidLine 34 = .ok (.aload_n 0, 1) := dAX7_saidLine_2.2.2.2.2.1
theorem dX7_saidLine_35 : decode cX7_saidLine 35 = .ok (.getfield 103, 3) := dAX7_saidLine_2.2.2.2.2.2.1
theorem dX7_saidLine_38 : decode cX7_saidLine 38 = .ok (.ifCond .ne 12, 3) := dAX7_saidLine_2.2.2.2.2.2.2.1
theorem dX7_saidLine_41 : decode cX7_saidLine 41 = .ok (.aload_n 0, 1) := dAX7_saidLine_2.2.2.2.2.2.2.2
set_option maxRecDepth 100000 in
theorem dAX7_saidLine_3 : decode cX7_saidLine 42 = .ok (.getfield 23, 3) ∧ decode cX7_saidLine 45 = .ok (.iconst 4, 1) ∧ decode cX7_saidLine 46 = .ok (.iload_n 1, 1) ∧ decode cX7_saidLine 47 = .ok (.iconst 1, 1) ∧ decode cX7_saidLine 48 = .ok (.iadd, 1) ∧ decode cX7_saidLine 49 = .ok (.iastore, 1) ∧ decode cX7_saidLine 50 = .ok (.return_, 1) := by decide +kernel
theorem dX7_saidLine_42 : decode cX7_saidLine 42 = .ok (.getfield 23, 3) := dAX7_saidLine_3.1
theorem dX7_saidLine_45 : decode cX7_saidLine 45 = .ok (.iconst 4, 1) := dAX7_saidLine_3.2.1
theorem dX7_saidLine_46 : decode cX7_saidLine 46 = .ok (.iload_n 1, 1) := dAX7_saidLine_3.2.2.1
theorem dX7_saidLine_47 : decode cX7_saidLine 47 = .ok (.iconst 1, 1) := dAX7_saidLine_3.2.2.2.1
theorem dX7_saidLine_48 : decode cX7_saidLine 48 = .ok (.iadd, 1) := dAX7_saidLine_3.2.2.2.2.1
theorem dX7_saidLine_49 : decode cX7_saidLine 49 = .ok (.iastore, 1) := dAX7_saidLine_3.2.2.2.2.2.1
theorem dX7_saidLine_50 : decode cX7_saidLine 50 = .ok (.return_, 1) := dAX7_saidLine_3.2.2.2.2.2.2
set_option maxRecDepth 100000 in
theorem dAX7_say_0 : decode cX7_say 0 = .ok (.aload_n 0, 1) ∧ decode cX7_say 1 = .ok (.invokevirtual 175, 3) ∧ decode cX7_say 4 = .ok (.aload_n 0, 1) ∧ decode cX7_say 5 = .ok (.iload_n 1, 1) ∧ decode cX7_say 6 = .ok (.invokevirtual 367, 3) ∧ decode cX7_say 9 = .ok (.ifCond .ne 9, 3) ∧ decode cX7_say 12 = .ok (.aload_n 0, 1) ∧ decode cX7_say 13 = .ok (.iconst 1, 1) := by decide +kernel
theorem dX7_say_0 : decode cX7_say 0 = .ok (.aload_n 0, 1) := dAX7_say_0.1
theorem dX7_say_1 : decode cX7_say 1 = .ok (.invokevirtual 175, 3) := dAX7_say_0.2.1
theorem dX7_say_4 : decode cX7_say 4 = .ok (.aload_n 0, 1) := dAX7_say_0.2.2.1
theorem dX7_say_5 : decode cX7_say 5 = .ok (.iload_n 1, 1) := dAX7_say_0.2.2.2.1
theorem dX7_say_6 : decode cX7_say 6 = .ok (.invokevirtual 367, 3) := dAX7_say_0.2.2.2.2.1
theorem dX7_say_9 : decode cX7_say 9 = .ok (.ifCond .ne 9, 3) := dAX7_say_0.2.2.2.2.2.1
theorem dX7_say_12 : decode cX7_say 12 = .ok (.aload_n 0, 1) := dAX7_say_0.2.2.2.2.2.2.1
theorem dX7_say_13 : decode cX7_say 13 = .ok (.iconst 1, 1) := dAX7_say_0.2.2.2.2.2.2.2
set_option maxRecDepth 100000 in
theorem dAX7_say_1 : decode cX7_say 14 = .ok (.invokevirtual 429, 3) ∧ decode cX7_say 17 = .ok (.ireturn, 1) ∧ decode cX7_say 18 = .ok (.iload_n 2, 1) ∧ decode cX7_say 19 = .ok (.iconst 0, 1) ∧ decode cX7_say 20 = .ok (.bipush 99, 2) ∧ decode cX7_say 22 = .ok (.invokestatic 163, 3) ∧ decode cX7_say 25 = .ok (.ifCond .ne 9, 3) ∧ decode cX7_say 28 = .ok (.aload_n 0, 1) := by decide +kernel
theorem dX7_say_14 : decode cX7_say 14 = .ok (.invokevirtual 429, 3) := dAX7_say_1.1
theorem dX7_say_17 : decode cX7_say 17 = .ok (.ireturn, 1) := dAX7_say_1.2.1
theorem dX7_say_18 : decode cX7_say 18 = .ok (.iload_n 2, 1) := dAX7_say_1.2.2.1
theorem dX7_say_19 : decode cX7_say 19 = .ok (.iconst 0, 1) := dAX7_say_1.2.2.2.1
theorem dX7_say_20 : decode cX7_say 20 = .ok (.bipush 99, 2) := dAX7_say_1.2.2.2.2.1
theorem dX7_say_22 : decode cX7_say 22 = .ok (.invokestatic 163, 3) := dAX7_say_1.2.2.2.2.2.1
theorem dX7_say_25 : decode cX7_say 25 = .ok (.ifCond .ne 9, 3) := dAX7_say_1.2.2.2.2.2.2.1
theorem dX7_say_28 : decode cX7_say 28 = .ok (.aload_n 0, 1) := dAX7_say_1.2.2.2.2.2.2.2
set_option maxRecDepth 100000 in
theorem dAX7_say_2 : decode cX7_say 29 = .ok (.iconst 2, 1) ∧ decode cX7_say 30 = .ok (.invokevirtual 429, 3) ∧ decode cX7_say 33 = .ok (.ireturn, 1) ∧ decode cX7_say 34 = .ok (.aload_n 0, 1) ∧ decode cX7_say 35 = .ok (.getfield 32, 3) ∧ decode cX7_say 38 = .ok (.bipush 72, 2) ∧ decode cX7_say 40 = .ok (.iload_n 1, 1) ∧ decode cX7_say 41 = .ok (.iadd, 1) := by decide +kernel
theorem dX7_say_29 : decode cX7_say 29 = .ok (.iconst 2, 1) := dAX7_say_2.1
theorem dX7_say_30 : decode cX7_say 30 = .ok (.invokevirtual 429, 3) := dAX7_say_2.2.1
theorem dX7_say_33 : decode cX7_say 33 = .ok (.ireturn, 1) := dAX7_say_2.2.2.1
theorem dX7_say_34 : decode cX7_say 34 = .ok (.aload_n 0, 1) := dAX7_say_2.2.2.2.1
theorem dX7_say_35 : decode cX7_say 35 = .ok (.getfield 32, 3) := dAX7_say_2.2.2.2.2.1
theorem dX7_say_38 : decode cX7_say 38 = .ok (.bipush 72, 2) := dAX7_say_2.2.2.2.2.2.1
theorem dX7_say_40 : decode cX7_say 40 = .ok (.iload_n 1, 1) := dAX7_say_2.2.2.2.2.2.2.1
theorem dX7_say_41 : decode cX7_say 41 = .ok (.iadd, 1) := dAX7_say_2.2.2.2.2.2.2.2
set_option maxRecDepth 100000 in
theorem dAX7_say_3 : decode cX7_say 42 = .ok (.iaload, 1) ∧ decode cX7_say 43 = .ok (.iload_n 2, 1) ∧ decode cX7_say 44 = .ok (.if_icmp .ne 9, 3) ∧ decode cX7_say 47 = .ok (.aload_n 0, 1) ∧ decode cX7_say 48 = .ok (.iconst 5, 1) ∧ decode cX7_say 49 = .ok (.invokevirtual 429, 3) ∧ decode cX7_say 52 = .ok (.ireturn, 1) ∧ decode cX7_say 53 = .ok (.aload_n 0, 1) := by decide +kernel
theorem dX7_say_42 : decode cX7_say 42 = .ok (.iaload, 1) := dAX7_say_3.1
theorem dX7_say_43 : decode cX7_say 43 = .ok (.iload_n 2, 1) := dAX7_say_3.2.1
theorem dX7_say_44 : decode cX7_say 44 = .ok (.if_icmp .ne 9, 3) := dAX7_say_3.2.2.1
theorem dX7_say_47 : decode cX7_say 47 = .ok (.aload_n 0, 1) := dAX7_say_3.2.2.2.1
theorem dX7_say_48 : decode cX7_say 48 = .ok (.iconst 5, 1) := dAX7_say_3.2.2.2.2.1
theorem dX7_say_49 : decode cX7_say 49 = .ok (.invokevirtual 429, 3) := dAX7_say_3.2.2.2.2.2.1
theorem dX7_say_52 : decode cX7_say 52 = .ok (.ireturn, 1) := dAX7_say_3.2.2.2.2.2.2.1
theorem dX7_say_53 : decode cX7_say 53 = .ok (.aload_n 0, 1) := dAX7_say_3.2.2.2.2.2.2.2
set_option maxRecDepth 100000 in
theorem dAX7_say_4 : decode cX7_say 54 = .ok (.invokevirtual 432, 3) ∧ decode cX7_say 57 = .ok (.aload_n 0, 1) ∧ decode cX7_say 58 = .ok (.getfield 32, 3) ∧ decode cX7_say 61 = .ok (.bipush 72, 2) ∧ decode cX7_say 63 = .ok (.iload_n 1, 1) ∧ decode cX7_say 64 = .ok (.iadd, 1) ∧ decode cX7_say 65 = .ok (.iload_n 2, 1) ∧ decode cX7_say 66 = .ok (.iastore, 1) := by decide +kernel
theorem dX7_say_54 : decode cX7_say 54 = .ok (.invokevirtual 432, 3) := dAX7_say_4.1
theorem dX7_say_57 : decode cX7_say 57 = .ok (.aload_n 0, 1) := dAX7_say_4.2.1
theorem dX7_say_58 : decode cX7_say 58 = .ok (.getfield 32, 3) := dAX7_say_4.2.2.1
theorem dX7_say_61 : decode cX7_say 61 = .ok (.bipush 72, 2) := dAX7_say_4.2.2.2.1
theorem dX7_say_63 : decode cX7_say 63 = .ok (.iload_n 1, 1) := dAX7_say_4.2.2.2.2.1
theorem dX7_say_64 : decode cX7_say 64 = .ok (.iadd, 1) := dAX7_say_4.2.2.2.2.2.1
theorem dX7_say_65 : decode cX7_say 65 = .ok (.iload_n 2, 1) := dAX7_say_4.2.2.2.2.2.2.1
theorem dX7_say_66 : decode cX7_say 66 = .ok (.iastore, 1) := dAX7_say_4.2.2.2.2.2.2.2
set_option maxRecDepth 100000 in
theorem dAX7_say_5 : decode cX7_say 67 = .ok (.iconst 1, 1) ∧ decode cX7_say 68 = .ok (.ireturn, 1) := by decide +kernel
theorem dX7_say_67 : decode cX7_say 67 = .ok (.iconst 1, 1) := dAX7_say_5.1
theorem dX7_say_68 : decode cX7_say 68 = .ok (.ireturn, 1) := dAX7_say_5.2
set_option maxRecDepth 100000 in
theorem dAX7_see_0 : decode cX7_see 0 = .ok (.iload_n 1, 1) ∧ decode cX7_see 1 = .ok (.aload_n 0, 1) ∧ decode cX7_see 2 = .ok (.getfield 74, 3) ∧ decode cX7_see 5 = .ok (.if_icmp .ge 12, 3) ∧ decode cX7_see 8 = .ok (.aload_n 0, 1) ∧ decode cX7_see 9 = .ok (.getfield 7, 3) ∧ decode cX7_see 12 = .ok (.iload_n 1, 1) ∧ decode cX7_see 13 = .ok (.iaload, 1) := by decide +kernel
theorem dX7_see_0 : decode cX7_see 0 = .ok (.iload_n 1, 1) := dAX7_see_0.1
theorem dX7_see_1 : decode cX7_see 1 = .ok (.aload_n 0, 1) := dAX7_see_0.2.1
theorem dX7_see_2 : decode cX7_see 2 = .ok (.getfield 74, 3) := dAX7_see_0.2.2.1
theorem dX7_see_5 : decode cX7_see 5 = .ok (.if_icmp .ge 12, 3) := dAX7_see_0.2.2.2.1
theorem dX7_see_8 : decode cX7_see 8 = .ok (.aload_n 0, 1) := dAX7_see_0.2.2.2.2.1
theorem dX7_see_9 : decode cX7_see 9 = .ok (.getfield 7, 3) := dAX7_see_0.2.2.2.2.2.1
theorem dX7_see_12 : decode cX7_see 12 = .ok (.iload_n 1, 1) := dAX7_see_0.2.2.2.2.2.2.1
theorem dX7_see_13 : decode cX7_see 13 = .ok (.iaload, 1) := dAX7_see_0.2.2.2.2.2.2.2
set_option maxRecDepth 100000 in
theorem dAX7_see_1 : decode cX7_see 14 = .ok (.goto 4, 3) ∧ decode cX7_see 17 = .ok (.iconst (-1), 1) ∧ decode cX7_see 18 = .ok (.ireturn, 1) := by decide +kernel
theorem dX7_see_14 : decode cX7_see 14 = .ok (.goto 4, 3) := dAX7_see_1.1
theorem dX7_see_17 : decode cX7_see 17 = .ok (.iconst (-1), 1) := dAX7_see_1.2.1
theorem dX7_see_18 : decode cX7_see 18 = .ok (.ireturn, 1) := dAX7_see_1.2.2
set_option maxRecDepth 100000 in
theorem dAX7_seekOrders_0 : decode cX7_seekOrders 0 = .ok (.aload_n 0, 1) ∧ decode cX7_seekOrders 1 = .ok (.getfield 32, 3) ∧ decode cX7_seekOrders 4 = .ok (.iconst 0, 1) ∧ decode cX7_seekOrders 5 = .ok (.aload_n 0, 1) ∧ decode cX7_seekOrders 6 = .ok (.getfield 56, 3) ∧ decode cX7_seekOrders 9 = .ok (.iconst 0, 1) ∧ decode cX7_seekOrders 10 = .ok (.bipush 90, 2) ∧ decode cX7_seekOrders 12 = .ok (.invokestatic 156, 3) := by decide +kernel
theorem dX7_seekOrders_0 : decode cX7_seekOrders 0 = .ok (.aload_n 0, 1) := dAX7_seekOrders_0.1
theorem dX7_seekOrders_1 : decode cX7_seekOrders 1 = .ok (.getfield 32, 3) := dAX7_seekOrders_0.2.1
theorem dX7_seekOrders_4 : decode cX7_seekOrders 4 = .ok (.iconst 0, 1) := dAX7_seekOrders_0.2.2.1
theorem dX7_seekOrders_5 : decode cX7_seekOrders 5 = .ok (.aload_n 0, 1) := dAX7_seekOrders_0.2.2.2.1
theorem dX7_seekOrders_6 : decode cX7_seekOrders 6 = .ok (.getfield 56, 3) := dAX7_seekOrders_0.2.2.2.2.1
theorem dX7_seekOrders_9 : decode cX7_seekOrders 9 = .ok (.iconst 0, 1) := dAX7_seekOrders_0.2.2.2.2.2.1
theorem dX7_seekOrders_10 : decode cX7_seekOrders 10 = .ok (.bipush 90, 2) := dAX7_seekOrders_0.2.2.2.2.2.2.1
theorem dX7_seekOrders_12 : decode cX7_seekOrders 12 = .ok (.invokestatic 156, 3) := dAX7_seekOrders_0.2.2.2.2.2.2.2
set_option maxRecDepth 100000 in
theorem dAX7_seekOrders_1 : decode cX7_seekOrders 15 = .ok (.aload_n 0, 1) ∧ decode cX7_seekOrders 16 = .ok (.iconst 0, 1) ∧ decode cX7_seekOrders 17 = .ok (.putfield 348, 3) ∧ decode cX7_seekOrders 20 = .ok (.aload_n 0, 1) ∧ decode cX7_seekOrders 21 = .ok (.iconst 0, 1) ∧ decode cX7_seekOrders 22 = .ok (.putfield 351, 3) ∧ decode cX7_seekOrders 25 = .ok (.aload_n 0, 1) ∧ decode cX7_seekOrders 26 = .ok (.ldc 245, 2) := by decide +kernel
theorem dX7_seekOrders_15 : decode cX7_seekOrders 15 = .ok (.aload_n 0, 1) := dAX7_seekOrders_1.1
theorem dX7_seekOrders_16 : decode cX7_seekOrders 16 = .ok (.iconst 0, 1) := dAX7_seekOrders_1.2.1
theorem dX7_seekOrders_17 : decode cX7_seekOrders 17 = .ok (.putfield 348, 3) := dAX7_seekOrders_1.2.2.1
theorem dX7_seekOrders_20 : decode cX7_seekOrders 20 = .ok (.aload_n 0, 1) := dAX7_seekOrders_1.2.2.2.1
theorem dX7_seekOrders_21 : decode cX7_seekOrders 21 = .ok (.iconst 0, 1) := dAX7_seekOrders_1.2.2.2.2.1
theorem dX7_seekOrders_22 : decode cX7_seekOrders 22 = .ok (.putfield 351, 3) := dAX7_seekOrders_1.2.2.2.2.2.1
theorem dX7_seekOrders_25 : decode cX7_seekOrders 25 = .ok (.aload_n 0, 1) := dAX7_seekOrders_1.2.2.2.2.2.2.1
theorem dX7_seekOrders_26 : decode cX7_seekOrders 26 = .ok (.ldc 245, 2) := dAX7_seekOrders_1.2.2.2.2.2.2.2
set_option maxRecDepth 100000 in
theorem dAX7_seekOrders_2 : decode cX7_seekOrders 28 = .ok (.putfield 354, 3) ∧ decode cX7_seekOrders 31 = .ok (.aload_n 0, 1) ∧ decode cX7_seekOrders 32 = .ok (.iload_n 1, 1) ∧ decode cX7_seekOrders 33 = .ok (.iconst 0, 1) ∧ decode cX7_seekOrders 34 = .ok (.iconst 0, 1) ∧ decode cX7_seekOrders 35 = .ok (.invokevirtual 357, 3) ∧ decode cX7_seekOrders 38 = .ok (.return_, 1) := by decide +kernel
theorem dX7_seekOrders_28 : decode cX7_seekOrders 28 = .ok (.putfield 354, 3) := dAX7_seekOrders_2.1
theorem dX7_seekOrders_31 : decode cX7_seekOrders 31 = .ok (.aload_n 0, 1) := dAX7_seekOrders_2.2.1
theorem dX7_seekOrders_32 : decode cX7_seekOrders 32 = .ok (.iload_n 1, 1) := dAX7_seekOrders_2.2.2.1
theorem dX7_seekOrders_33 : decode cX7_seekOrders 33 = .ok (.iconst 0, 1) := dAX7_seekOrders_2.2.2.2.1
theorem dX7_seekOrders_34 : decode cX7_seekOrders 34 = .ok (.iconst 0, 1) := dAX7_seekOrders_2.2.2.2.2.1
theorem dX7_seekOrders_35 : decode cX7_seekOrders 35 = .ok (.invokevirtual 357, 3) := dAX7_seekOrders_2.2.2.2.2.2.1
theorem dX7_seekOrders_38 : decode cX7_seekOrders 38 = .ok (.return_, 1) := dAX7_seekOrders_2.2.2.2.2.2.2
set_option maxRecDepth 100000 in
theorem dAX7_seekRests_0 : decode cX7_seekRests 0 = .ok (.iconst 0, 1) ∧ decode cX7_seekRests 1 = .ok (.istore_n 2, 1) ∧ decode cX7_seekRests 2 = .ok (.aload_n 0, 1) ∧ decode cX7_seekRests 3 = .ok (.bipush (-2), 2) ∧ decode cX7_seekRests 5 = .ok (.putfield 415, 3) ∧ decode cX7_seekRests 8 = .ok (.iconst 0, 1) ∧ decode cX7_seekRests 9 = .ok (.istore_n 3, 1) ∧ decode cX7_seekRests 10 = .ok (.iload_n 3, 1) := by decide +kernel
theorem dX7_seekRests_0 : decode cX7_seekRests 0 = .ok (.iconst 0, 1) := dAX7_seekRests_0.1
theorem dX7_seekRests_1 : decode cX7_seekRests 1 = .ok (.istore_n 2, 1) := dAX7_seekRests_0.2.1
theorem dX7_seekRests_2 : decode cX7_seekRests 2 = .ok (.aload_n 0, 1) := dAX7_seekRests_0.2.2.1
theorem dX7_seekRests_3 : decode cX7_seekRests 3 = .ok (.bipush (-2), 2) := dAX7_seekRests_0.2.2.2.1
theorem dX7_seekRests_5 : decode cX7_seekRests 5 = .ok (.putfield 415, 3) := dAX7_seekRests_0.2.2.2.2.1
theorem dX7_seekRests_8 : decode cX7_seekRests 8 = .ok (.iconst 0, 1) := dAX7_seekRests_0.2.2.2.2.2.1
theorem dX7_seekRests_9 : decode cX7_seekRests 9 = .ok (.istore_n 3, 1) := dAX7_seekRests_0.2.2.2.2.2.2.1
theorem dX7_seekRests_10 : decode cX7_seekRests 10 = .ok (.iload_n 3, 1) := dAX7_seekRests_0.2.2.2.2.2.2.2
set_option maxRecDepth 100000 in
theorem dAX7_seekRests_1 : decode cX7_seekRests 11 = .ok (.iconst 4, 1) ∧ decode cX7_seekRests 12 = .ok (.if_icmp .ge 113, 3) ∧ decode cX7_seekRests 15 = .ok (.iload_n 3, 1) ∧ decode cX7_seekRests 16 = .ok (.iconst 1, 1) ∧ decode cX7_seekRests 17 = .ok (.if_icmp .le 7, 3) ∧ decode cX7_seekRests 20 = .ok (.iconst 1, 1) ∧ decode cX7_seekRests 21 = .ok (.goto 4, 3) ∧ decode cX7_seekRests 24 = .ok (.iconst 0, 1) := by decide +kernel
theorem dX7_seekRests_11 : decode cX7_seekRests 11 = .ok (.iconst 4, 1) := dAX7_seekRests_1.1
theorem dX7_seekRests_12 : decode cX7_seekRests 12 = .ok (.if_icmp .ge 113, 3) := dAX7_seekRests_1.2.1
theorem dX7_seekRests_15 : decode cX7_seekRests 15 = .ok (.iload_n 3, 1) := dAX7_seekRests_1.2.2.1
theorem dX7_seekRests_16 : decode cX7_seekRests 16 = .ok (.iconst 1, 1) := dAX7_seekRests_1.2.2.2.1
theorem dX7_seekRests_17 : decode cX7_seekRests 17 = .ok (.if_icmp .le 7, 3) := dAX7_seekRests_1.2.2.2.2.1
theorem dX7_seekRests_20 : decode cX7_seekRests 20 = .ok (.iconst 1, 1) := dAX7_seekRests_1.2.2.2.2.2.1
theorem dX7_seekRests_21 : decode cX7_seekRests 21 = .ok (.goto 4, 3) := dAX7_seekRests_1.2.2.2.2.2.2.1
theorem dX7_seekRests_24 : decode cX7_seekRests 24 = .ok (.iconst 0, 1) := dAX7_seekRests_1.2.2.2.2.2.2.2
set_option maxRecDepth 100000 in
theorem dAX7_seekRests_2 : decode cX7_seekRests 25 = .ok (.istore 4, 2) ∧ decode cX7_seekRests 27 = .ok (.iload_n 3, 1) ∧ decode cX7_seekRests 28 = .ok (.iconst 2, 1) ∧ decode cX7_seekRests 29 = .ok (.irem, 1) ∧ decode cX7_seekRests 30 = .ok (.iconst 1, 1) ∧ decode cX7_seekRests 31 = .ok (.if_icmp .ne 7, 3) ∧ decode cX7_seekRests 34 = .ok (.iconst 1, 1) ∧ decode cX7_seekRests 35 = .ok (.goto 4, 3) := by decide +kernel
theorem dX7_seekRests_25 : decode cX7_seekRests 25 = .ok (.istore 4, 2) := dAX7_seekRests_2.1
theorem dX7_seekRests_27 : decode cX7_seekRests 27 = .ok (.iload_n 3, 1) := dAX7_seekRests_2.2.1
theorem dX7_seekRests_28 : decode cX7_seekRests 28 = .ok (.iconst 2, 1) := dAX7_seekRests_2.2.2.1
theorem dX7_seekRests_29 : decode cX7_seekRests 29 = .ok (.irem, 1) := dAX7_seekRests_2.2.2.2.1
theorem dX7_seekRests_30 : decode cX7_seekRests 30 = .ok (.iconst 1, 1) := dAX7_seekRests_2.2.2.2.2.1
theorem dX7_seekRests_31 : decode cX7_seekRests 31 = .ok (.if_icmp .ne 7, 3) := dAX7_seekRests_2.2.2.2.2.2.1
theorem dX7_seekRests_34 : decode cX7_seekRests 34 = .ok (.iconst 1, 1) := dAX7_seekRests_2.2.2.2.2.2.2.1
theorem dX7_seekRests_35 : decode cX7_seekRests 35 = .ok (.goto 4, 3) := dAX7_seekRests_2.2.2.2.2.2.2.2
set_option maxRecDepth 100000 in
theorem dAX7_seekRests_3 : decode cX7_seekRests 38 = .ok (.iconst 0, 1) ∧ decode cX7_seekRests 39 = .ok (.istore 5, 2) ∧ decode cX7_seekRests 41 = .ok (.iload_n 1, 1) ∧ decode cX7_seekRests 42 = .ok (.iload 4, 2) ∧ decode cX7_seekRests 44 = .ok (.ifCond .ne 7, 3) ∧ decode cX7_seekRests 47 = .ok (.iconst 1, 1) ∧ decode cX7_seekRests 48 = .ok (.goto 4, 3) ∧ decode cX7_seekRests 51 = .ok (.iconst 0, 1) := by decide +kernel
theorem dX7_seekRests_38 : decode cX7_seekRests 38 = .ok (.iconst 0, 1) := dAX7_seekRests_3.1
theorem dX7_seekRests_39 : decode cX7_seekRests 39 = .ok (.istore 5, 2) := dAX7_seekRests_3.2.1
theorem dX7_seekRests_41 : decode cX7_seekRests 41 = .ok (.iload_n 1, 1) := dAX7_seekRests_3.2.2.1
theorem dX7_seekRests_42 : decode cX7_seekRests 42 = .ok (.iload 4, 2) := dAX7_seekRests_3.2.2.2.1
theorem dX7_seekRests_44 : decode cX7_seekRests 44 = .ok (.ifCond .ne 7, 3) := dAX7_seekRests_3.2.2.2.2.1
theorem dX7_seekRests_47 : decode cX7_seekRests 47 = .ok (.iconst 1, 1) := dAX7_seekRests_3.2.2.2.2.2.1
theorem dX7_seekRests_48 : decode cX7_seekRests 48 = .ok (.goto 4, 3) := dAX7_seekRests_3.2.2.2.2.2.2.1
theorem dX7_seekRests_51 : decode cX7_seekRests 51 = .ok (.iconst 0, 1) := dAX7_seekRests_3.2.2.2.2.2.2.2
set_option maxRecDepth 100000 in
theorem dAX7_seekRests_4 : decode cX7_seekRests 52 = .ok (.iload 5, 2) ∧ decode cX7_seekRests 54 = .ok (.invokestatic 411, 3) ∧ decode cX7_seekRests 57 = .ok (.iload_n 1, 1) ∧ decode cX7_seekRests 58 = .ok (.iload 4, 2) ∧ decode cX7_seekRests 60 = .ok (.iload 5, 2) ∧ decode cX7_seekRests 62 = .ok (.invokestatic 411, 3) ∧ decode cX7_seekRests 65 = .ok (.if_icmp .gt 54, 3) ∧ decode cX7_seekRests 68 = .ok (.iload_n 1, 1) := by decide +kernel
theorem dX7_seekRests_52 : decode cX7_seekRests 52 = .ok (.iload 5, 2) := dAX7_seekRests_4.1
theorem dX7_seekRests_54 : decode cX7_seekRests 54 = .ok (.invokestatic 411, 3) := dAX7_seekRests_4.2.1
theorem dX7_seekRests_57 : decode cX7_seekRests 57 = .ok (.iload_n 1, 1) := dAX7_seekRests_4.2.2.1
theorem dX7_seekRests_58 : decode cX7_seekRests 58 = .ok (.iload 4, 2) := dAX7_seekRests_4.2.2.2.1
theorem dX7_seekRests_60 : decode cX7_seekRests 60 = .ok (.iload 5, 2) := dAX7_seekRests_4.2.2.2.2.1
theorem dX7_seekRests_62 : decode cX7_seekRests 62 = .ok (.invokestatic 411, 3) := dAX7_seekRests_4.2.2.2.2.2.1
theorem dX7_seekRests_65 : decode cX7_seekRests 65 = .ok (.if_icmp .gt 54, 3) := dAX7_seekRests_4.2.2.2.2.2.2.1
theorem dX7_seekRests_68 : decode cX7_seekRests 68 = .ok (.iload_n 1, 1) := dAX7_seekRests_4.2.2.2.2.2.2.2
set_option maxRecDepth 100000 in
theorem dAX7_seekRests_5 : decode cX7_seekRests 69 = .ok (.iload 5, 2) ∧ decode cX7_seekRests 71 = .ok (.ifCond .ne 7, 3) ∧ decode cX7_seekRests 74 = .ok (.iconst 1, 1) ∧ decode cX7_seekRests 75 = .ok (.goto 4, 3) ∧ decode cX7_seekRests 78 = .ok (.iconst 0, 1) ∧ decode cX7_seekRests 79 = .ok (.iload 4, 2) ∧ decode cX7_seekRests 81 = .ok (.invokestatic 411, 3) ∧ decode cX7_seekRests 84 = .ok (.iload_n 1, 1) := by decide +kernel
theorem dX7_seekRests_69 : decode cX7_seekRests 69 = .ok (.iload 5, 2) := dAX7_seekRests_5.1
theorem dX7_seekRests_71 : decode cX7_seekRests 71 = .ok (.ifCond .ne 7, 3) := dAX7_seekRests_5.2.1
theorem dX7_seekRests_74 : decode cX7_seekRests 74 = .ok (.iconst 1, 1) := dAX7_seekRests_5.2.2.1
theorem dX7_seekRests_75 : decode cX7_seekRests 75 = .ok (.goto 4, 3) := dAX7_seekRests_5.2.2.2.1
theorem dX7_seekRests_78 : decode cX7_seekRests 78 = .ok (.iconst 0, 1) := dAX7_seekRests_5.2.2.2.2.1
theorem dX7_seekRests_79 : decode cX7_seekRests 79 = .ok (.iload 4, 2) := dAX7_seekRests_5.2.2.2.2.2.1
theorem dX7_seekRests_81 : decode cX7_seekRests 81 = .ok (.invokestatic 411, 3) := dAX7_seekRests_5.2.2.2.2.2.2.1
theorem dX7_seekRests_84 : decode cX7_seekRests 84 = .ok (.iload_n 1, 1) := dAX7_seekRests_5.2.2.2.2.2.2.2
set_option maxRecDepth 100000 in
theorem dAX7_seekRests_6 : decode cX7_seekRests 85 = .ok (.iload 5, 2) ∧ decode cX7_seekRests 87 = .ok (.iload 4, 2) ∧ decode cX7_seekRests 89 = .ok (.invokestatic 411, 3) ∧ decode cX7_seekRests 92 = .ok (.if_icmp .le 6, 3) ∧ decode cX7_seekRests 95 = .ok (.goto 24, 3) ∧ decode cX7_seekRests 98 = .ok (.iload_n 2, 1) ∧ decode cX7_seekRests 99 = .ok (.ifCond .ne 17, 3) ∧ decode cX7_seekRests 102 = .ok (.aload_n 0, 1) := by decide +kernel
theorem dX7_seekRests_85 : decode cX7_seekRests 85 = .ok (.iload 5, 2) := dAX7_seekRests_6.1
theorem dX7_seekRests_87 : decode cX7_seekRests 87 = .ok (.iload 4, 2) := dAX7_seekRests_6.2.1
theorem dX7_seekRests_89 : decode cX7_seekRests 89 = .ok (.invokestatic 411, 3) := dAX7_seekRests_6.2.2.1
theorem dX7_seekRests_92 : decode cX7_seekRests 92 = .ok (.if_icmp .le 6, 3) := dAX7_seekRests_6.2.2.2.1
theorem dX7_seekRests_95 : decode cX7_seekRests 95 = .ok (.goto 24, 3) := dAX7_seekRests_6.2.2.2.2.1
theorem dX7_seekRests_98 : decode cX7_seekRests 98 = .ok (.iload_n 2, 1) := dAX7_seekRests_6.2.2.2.2.2.1
theorem dX7_seekRests_99 : decode cX7_seekRests 99 = .ok (.ifCond .ne 17, 3) := dAX7_seekRests_6.2.2.2.2.2.2.1
theorem dX7_seekRests_102 : decode cX7_seekRests 102 = .ok (.aload_n 0, 1) := dAX7_seekRests_6.2.2.2.2.2.2.2
set_option maxRecDepth 100000 in
theorem dAX7_seekRests_7 : decode cX7_seekRests 103 = .ok (.bipush 10, 2) ∧ decode cX7_seekRests 105 = .ok (.iload_n 3, 1) ∧ decode cX7_seekRests 106 = .ok (.iconst 2, 1) ∧ decode cX7_seekRests 107 = .ok (.idiv, 1) ∧ decode cX7_seekRests 108 = .ok (.imul, 1) ∧ decode cX7_seekRests 109 = .ok (.iload_n 3, 1) ∧ decode cX7_seekRests 110 = .ok (.iconst 2, 1) ∧ decode cX7_seekRests 111 = .ok (.irem, 1) := by decide +kernel
theorem dX7_seekRests_103 : decode cX7_seekRests 103 = .ok (.bipush 10, 2) := dAX7_seekRests_7.1
theorem dX7_seekRests_105 : decode cX7_seekRests 105 = .ok (.iload_n 3, 1) := dAX7_seekRests_7.2.1
theorem dX7_seekRests_106 : decode cX7_seekRests 106 = .ok (.iconst 2, 1) := dAX7_seekRests_7.2.2.1
theorem dX7_seekRests_107 : decode cX7_seekRests 107 = .ok (.idiv, 1) := dAX7_seekRests_7.2.2.2.1
theorem dX7_seekRests_108 : decode cX7_seekRests 108 = .ok (.imul, 1) := dAX7_seekRests_7.2.2.2.2.1
theorem dX7_seekRests_109 : decode cX7_seekRests 109 = .ok (.iload_n 3, 1) := dAX7_seekRests_7.2.2.2.2.2.1
theorem dX7_seekRests_110 : decode cX7_seekRests 110 = .ok (.iconst 2, 1) := dAX7_seekRests_7.2.2.2.2.2.2.1
theorem dX7_seekRests_111 : decode cX7_seekRests 111 = .ok (.irem, 1) := dAX7_seekRests_7.2.2.2.2.2.2.2
set_option maxRecDepth 100000 in
theorem dAX7_seekRests_8 : decode cX7_seekRests 112 = .ok (.iadd, 1) ∧ decode cX7_seekRests 113 = .ok (.putfield 415, 3) ∧ decode cX7_seekRests 116 = .ok (.iinc 2 1, 3) ∧ decode cX7_seekRests 119 = .ok (.iinc 3 1, 3) ∧ decode cX7_seekRests 122 = .ok (.goto (-112), 3) ∧ decode cX7_seekRests 125 = .ok (.iload_n 2, 1) ∧ decode cX7_seekRests 126 = .ok (.ireturn, 1) := by decide +kernel
theorem dX7_seekRests_112 : decode cX7_seekRests 112 = .ok (.iadd, 1) := dAX7_seekRests_8.1
theorem dX7_seekRests_113 : decode cX7_seekRests 113 = .ok (.putfield 415, 3) := dAX7_seekRests_8.2.1
theorem dX7_seekRests_116 : decode cX7_seekRests 116 = .ok (.iinc 2 1, 3) := dAX7_seekRests_8.2.2.1
theorem dX7_seekRests_119 : decode cX7_seekRests 119 = .ok (.iinc 3 1, 3) := dAX7_seekRests_8.2.2.2.1
theorem dX7_seekRests_122 : decode cX7_seekRests 122 = .ok (.goto (-112), 3) := dAX7_seekRests_8.2.2.2.2.1
theorem dX7_seekRests_125 : decode cX7_seekRests 125 = .ok (.iload_n 2, 1) := dAX7_seekRests_8.2.2.2.2.2.1
theorem dX7_seekRests_126 : decode cX7_seekRests 126 = .ok (.ireturn, 1) := dAX7_seekRests_8.2.2.2.2.2.2
set_option maxRecDepth 100000 in
theorem dAX7_seekSets_0 : decode cX7_seekSets 0 = .ok (.iconst (-1), 1) ∧ decode cX7_seekSets 1 = .ok (.istore_n 2, 1) ∧ decode cX7_seekSets 2 = .ok (.aload_n 0, 1) ∧ decode cX7_seekSets 3 = .ok (.iconst 0, 1) ∧ decode cX7_seekSets 4 = .ok (.putfield 377, 3) ∧ decode cX7_seekSets 7 = .ok (.aload_n 0, 1) ∧ decode cX7_seekSets 8 = .ok (.iconst 0, 1) ∧ decode cX7_seekSets 9 = .ok (.putfield 380, 3) := by decide +kernel
theorem dX7_seekSets_0 : decode cX7_seekSets 0 = .ok (.iconst (-1), 1) := dAX7_seekSets_0.1
theorem dX7_seekSets_1 : decode cX7_seekSets 1 = .ok (.istore_n 2, 1) := dAX7_seekSets_0.2.1
theorem dX7_seekSets_2 : decode cX7_seekSets 2 = .ok (.aload_n 0, 1) := dAX7_seekSets_0.2.2.1
theorem dX7_seekSets_3 : decode cX7_seekSets 3 = .ok (.iconst 0, 1) := dAX7_seekSets_0.2.2.2.1
theorem dX7_seekSets_4 : decode cX7_seekSets 4 = .ok (.putfield 377, 3) := dAX7_seekSets_0.2.2.2.2.1
theorem dX7_seekSets_7 : decode cX7_seekSets 7 = .ok (.aload_n 0, 1) := dAX7_seekSets_0.2.2.2.2.2.1
theorem dX7_seekSets_8 : decode cX7_seekSets 8 = .ok (.iconst 0, 1) := dAX7_seekSets_0.2.2.2.2.2.2.1
theorem dX7_seekSets_9 : decode cX7_seekSets 9 = .ok (.putfield 380, 3) := dAX7_seekSets_0.2.2.2.2.2.2.2
set_option maxRecDepth 100000 in
theorem dAX7_seekSets_1 : decode cX7_seekSets 12 = .ok (.aload_n 0, 1) ∧ decode cX7_seekSets 13 = .ok (.iconst 1, 1) ∧ decode cX7_seekSets 14 = .ok (.aload_n 0, 1) ∧ decode cX7_seekSets 15 = .ok (.getfield 20, 3) ∧ decode cX7_seekSets 18 = .ok (.iconst 3, 1) ∧ decode cX7_seekSets 19 = .ok (.iaload, 1) ∧ decode cX7_seekSets 20 = .ok (.ishl, 1) ∧ decode cX7_seekSets 21 = .ok (.iconst 1, 1) := by decide +kernel
theorem dX7_seekSets_12 : decode cX7_seekSets 12 = .ok (.aload_n 0, 1) := dAX7_seekSets_1.1
theorem dX7_seekSets_13 : decode cX7_seekSets 13 = .ok (.iconst 1, 1) := dAX7_seekSets_1.2.1
theorem dX7_seekSets_14 : decode cX7_seekSets 14 = .ok (.aload_n 0, 1) := dAX7_seekSets_1.2.2.1
theorem dX7_seekSets_15 : decode cX7_seekSets 15 = .ok (.getfield 20, 3) := dAX7_seekSets_1.2.2.2.1
theorem dX7_seekSets_18 : decode cX7_seekSets 18 = .ok (.iconst 3, 1) := dAX7_seekSets_1.2.2.2.2.1
theorem dX7_seekSets_19 : decode cX7_seekSets 19 = .ok (.iaload, 1) := dAX7_seekSets_1.2.2.2.2.2.1
theorem dX7_seekSets_20 : decode cX7_seekSets 20 = .ok (.ishl, 1) := dAX7_seekSets_1.2.2.2.2.2.2.1
theorem dX7_seekSets_21 : decode cX7_seekSets 21 = .ok (.iconst 1, 1) := dAX7_seekSets_1.2.2.2.2.2.2.2
set_option maxRecDepth 100000 in
theorem dAX7_seekSets_2 : decode cX7_seekSets 22 = .ok (.isub, 1) ∧ decode cX7_seekSets 23 = .ok (.putfield 383, 3) ∧ decode cX7_seekSets 26 = .ok (.iconst 0, 1) ∧ decode cX7_seekSets 27 = .ok (.istore_n 3, 1) ∧ decode cX7_seekSets 28 = .ok (.iload_n 3, 1) ∧ decode cX7_seekSets 29 = .ok (.iconst 4, 1) ∧ decode cX7_seekSets 30 = .ok (.if_icmp .ge 16, 3) ∧ decode cX7_seekSets 33 = .ok (.aload_n 0, 1) := by decide +kernel
theorem dX7_seekSets_22 : decode cX7_seekSets 22 = .ok (.isub, 1) := dAX7_seekSets_2.1
theorem dX7_seekSets_23 : decode cX7_seekSets 23 = .ok (.putfield 383, 3) := dAX7_seekSets_2.2.1
theorem dX7_seekSets_26 : decode cX7_seekSets 26 = .ok (.iconst 0, 1) := dAX7_seekSets_2.2.2.1
theorem dX7_seekSets_27 : decode cX7_seekSets 27 = .ok (.istore_n 3, 1) := dAX7_seekSets_2.2.2.2.1
theorem dX7_seekSets_28 : decode cX7_seekSets 28 = .ok (.iload_n 3, 1) := dAX7_seekSets_2.2.2.2.2.1
theorem dX7_seekSets_29 : decode cX7_seekSets 29 = .ok (.iconst 4, 1) := dAX7_seekSets_2.2.2.2.2.2.1
theorem dX7_seekSets_30 : decode cX7_seekSets 30 = .ok (.if_icmp .ge 16, 3) := dAX7_seekSets_2.2.2.2.2.2.2.1
theorem dX7_seekSets_33 : decode cX7_seekSets 33 = .ok (.aload_n 0, 1) := dAX7_seekSets_2.2.2.2.2.2.2.2
set_option maxRecDepth 100000 in
theorem dAX7_seekSets_3 : decode cX7_seekSets 34 = .ok (.getfield 62, 3) ∧ decode cX7_seekSets 37 = .ok (.iload_n 3, 1) ∧ decode cX7_seekSets 38 = .ok (.iconst 0, 1) ∧ decode cX7_seekSets 39 = .ok (.iastore, 1) ∧ decode cX7_seekSets 40 = .ok (.iinc 3 1, 3) ∧ decode cX7_seekSets 43 = .ok (.goto (-15), 3) ∧ decode cX7_seekSets 46 = .ok (.iconst 0, 1) ∧ decode cX7_seekSets 47 = .ok (.istore_n 3, 1) := by decide +kernel
theorem dX7_seekSets_34 : decode cX7_seekSets 34 = .ok (.getfield 62, 3) := dAX7_seekSets_3.1
theorem dX7_seekSets_37 : decode cX7_seekSets 37 = .ok (.iload_n 3, 1) := dAX7_seekSets_3.2.1
theorem dX7_seekSets_38 : decode cX7_seekSets 38 = .ok (.iconst 0, 1) := dAX7_seekSets_3.2.2.1
theorem dX7_seekSets_39 : decode cX7_seekSets 39 = .ok (.iastore, 1) := dAX7_seekSets_3.2.2.2.1
theorem dX7_seekSets_40 : decode cX7_seekSets 40 = .ok (.iinc 3 1, 3) := dAX7_seekSets_3.2.2.2.2.1
theorem dX7_seekSets_43 : decode cX7_seekSets 43 = .ok (.goto (-15), 3) := dAX7_seekSets_3.2.2.2.2.2.1
theorem dX7_seekSets_46 : decode cX7_seekSets 46 = .ok (.iconst 0, 1) := dAX7_seekSets_3.2.2.2.2.2.2.1
theorem dX7_seekSets_47 : decode cX7_seekSets 47 = .ok (.istore_n 3, 1) := dAX7_seekSets_3.2.2.2.2.2.2.2
set_option maxRecDepth 100000 in
theorem dAX7_seekSets_4 : decode cX7_seekSets 48 = .ok (.iload_n 3, 1) ∧ decode cX7_seekSets 49 = .ok (.iconst 1, 1) ∧ decode cX7_seekSets 50 = .ok (.aload_n 0, 1) ∧ decode cX7_seekSets 51 = .ok (.getfield 20, 3) ∧ decode cX7_seekSets 54 = .ok (.iconst 3, 1) ∧ decode cX7_seekSets 55 = .ok (.iaload, 1) ∧ decode cX7_seekSets 56 = .ok (.ishl, 1) ∧ decode cX7_seekSets 57 = .ok (.if_icmp .ge 96, 3) := by decide +kernel
theorem dX7_seekSets_48 : decode cX7_seekSets 48 = .ok (.iload_n 3, 1) := dAX7_seekSets_4.1
theorem dX7_seekSets_49 : decode cX7_seekSets 49 = .ok (.iconst 1, 1) := dAX7_seekSets_4.2.1
theorem dX7_seekSets_50 : decode cX7_seekSets 50 = .ok (.aload_n 0, 1) := dAX7_seekSets_4.2.2.1
theorem dX7_seekSets_51 : decode cX7_seekSets 51 = .ok (.getfield 20, 3) := dAX7_seekSets_4.2.2.2.1
theorem dX7_seekSets_54 : decode cX7_seekSets 54 = .ok (.iconst 3, 1) := dAX7_seekSets_4.2.2.2.2.1
theorem dX7_seekSets_55 : decode cX7_seekSets 55 = .ok (.iaload, 1) := dAX7_seekSets_4.2.2.2.2.2.1
theorem dX7_seekSets_56 : decode cX7_seekSets 56 = .ok (.ishl, 1) := dAX7_seekSets_4.2.2.2.2.2.2.1
theorem dX7_seekSets_57 : decode cX7_seekSets 57 = .ok (.if_icmp .ge 96, 3) := dAX7_seekSets_4.2.2.2.2.2.2.2
set_option maxRecDepth 100000 in
theorem dAX7_seekSets_5 : decode cX7_seekSets 60 = .ok (.aload_n 0, 1) ∧ decode cX7_seekSets 61 = .ok (.iload_n 3, 1) ∧ decode cX7_seekSets 62 = .ok (.invokevirtual 386, 3) ∧ decode cX7_seekSets 65 = .ok (.ifCond .ne 6, 3) ∧ decode cX7_seekSets 68 = .ok (.goto 79, 3) ∧ decode cX7_seekSets 71 = .ok (.aload_n 0, 1) ∧ decode cX7_seekSets 72 = .ok (.getfield 377, 3) ∧ decode cX7_seekSets 75 = .ok (.iload_n 1, 1) := by decide +kernel
theorem dX7_seekSets_60 : decode cX7_seekSets 60 = .ok (.aload_n 0, 1) := dAX7_seekSets_5.1
theorem dX7_seekSets_61 : decode cX7_seekSets 61 = .ok (.iload_n 3, 1) := dAX7_seekSets_5.2.1
theorem dX7_seekSets_62 : decode cX7_seekSets 62 = .ok (.invokevirtual 386, 3) := dAX7_seekSets_5.2.2.1
theorem dX7_seekSets_65 : decode cX7_seekSets 65 = .ok (.ifCond .ne 6, 3) := dAX7_seekSets_5.2.2.2.1
theorem dX7_seekSets_68 : decode cX7_seekSets 68 = .ok (.goto 79, 3) := dAX7_seekSets_5.2.2.2.2.1
theorem dX7_seekSets_71 : decode cX7_seekSets 71 = .ok (.aload_n 0, 1) := dAX7_seekSets_5.2.2.2.2.2.1
theorem dX7_seekSets_72 : decode cX7_seekSets 72 = .ok (.getfield 377, 3) := dAX7_seekSets_5.2.2.2.2.2.2.1
theorem dX7_seekSets_75 : decode cX7_seekSets 75 = .ok (.iload_n 1, 1) := dAX7_seekSets_5.2.2.2.2.2.2.2
set_option maxRecDepth 100000 in
theorem dAX7_seekSets_6 : decode cX7_seekSets 76 = .ok (.if_icmp .ne 5, 3) ∧ decode cX7_seekSets 79 = .ok (.iload_n 3, 1) ∧ decode cX7_seekSets 80 = .ok (.istore_n 2, 1) ∧ decode cX7_seekSets 81 = .ok (.aload_n 0, 1) ∧ decode cX7_seekSets 82 = .ok (.dup, 1) ∧ decode cX7_seekSets 83 = .ok (.getfield 377, 3) ∧ decode cX7_seekSets 86 = .ok (.iconst 1, 1) ∧ decode cX7_seekSets 87 = .ok (.iadd, 1) := by decide +kernel
theorem dX7_seekSets_76 : decode cX7_seekSets 76 = .ok (.if_icmp .ne 5, 3) := dAX7_seekSets_6.1
theorem dX7_seekSets_79 : decode cX7_seekSets 79 = .ok (.iload_n 3, 1) := dAX7_seekSets_6.2.1
theorem dX7_seekSets_80 : decode cX7_seekSets 80 = .ok (.istore_n 2, 1) := dAX7_seekSets_6.2.2.1
theorem dX7_seekSets_81 : decode cX7_seekSets 81 = .ok (.aload_n 0, 1) := dAX7_seekSets_6.2.2.2.1
theorem dX7_seekSets_82 : decode cX7_seekSets 82 = .ok (.dup, 1) := dAX7_seekSets_6.2.2.2.2.1
theorem dX7_seekSets_83 : decode cX7_seekSets 83 = .ok (.getfield 377, 3) := dAX7_seekSets_6.2.2.2.2.2.1
theorem dX7_seekSets_86 : decode cX7_seekSets 86 = .ok (.iconst 1, 1) := dAX7_seekSets_6.2.2.2.2.2.2.1
theorem dX7_seekSets_87 : decode cX7_seekSets 87 = .ok (.iadd, 1) := dAX7_seekSets_6.2.2.2.2.2.2.2
set_option maxRecDepth 100000 in
theorem dAX7_seekSets_7 : decode cX7_seekSets 88 = .ok (.putfield 377, 3) ∧ decode cX7_seekSets 91 = .ok (.aload_n 0, 1) ∧ decode cX7_seekSets 92 = .ok (.dup, 1) ∧ decode cX7_seekSets 93 = .ok (.getfield 380, 3) ∧ decode cX7_seekSets 96 = .ok (.iload_n 3, 1) ∧ decode cX7_seekSets 97 = .ok (.ior, 1) ∧ decode cX7_seekSets 98 = .ok (.putfield 380, 3) ∧ decode cX7_seekSets 101 = .ok (.aload_n 0, 1) := by decide +kernel
theorem dX7_seekSets_88 : decode cX7_seekSets 88 = .ok (.putfield 377, 3) := dAX7_seekSets_7.1
theorem dX7_seekSets_91 : decode cX7_seekSets 91 = .ok (.aload_n 0, 1) := dAX7_seekSets_7.2.1
theorem dX7_seekSets_92 : decode cX7_seekSets 92 = .ok (.dup, 1) := dAX7_seekSets_7.2.2.1
theorem dX7_seekSets_93 : decode cX7_seekSets 93 = .ok (.getfield 380, 3) := dAX7_seekSets_7.2.2.2.1
theorem dX7_seekSets_96 : decode cX7_seekSets 96 = .ok (.iload_n 3, 1) := dAX7_seekSets_7.2.2.2.2.1
theorem dX7_seekSets_97 : decode cX7_seekSets 97 = .ok (.ior, 1) := dAX7_seekSets_7.2.2.2.2.2.1
theorem dX7_seekSets_98 : decode cX7_seekSets 98 = .ok (.putfield 380, 3) := dAX7_seekSets_7.2.2.2.2.2.2.1
theorem dX7_seekSets_101 : decode cX7_seekSets 101 = .ok (.aload_n 0, 1) := dAX7_seekSets_7.2.2.2.2.2.2.2
set_option maxRecDepth 100000 in
theorem dAX7_seekSets_8 : decode cX7_seekSets 102 = .ok (.dup, 1) ∧ decode cX7_seekSets 103 = .ok (.getfield 383, 3) ∧ decode cX7_seekSets 106 = .ok (.iload_n 3, 1) ∧ decode cX7_seekSets 107 = .ok (.iand, 1) ∧ decode cX7_seekSets 108 = .ok (.putfield 383, 3) ∧ decode cX7_seekSets 111 = .ok (.iconst 0, 1) ∧ decode cX7_seekSets 112 = .ok (.istore 4, 2) ∧ decode cX7_seekSets 114 = .ok (.iload 4, 2) := by decide +kernel
theorem dX7_seekSets_102 : decode cX7_seekSets 102 = .ok (.dup, 1) := dAX7_seekSets_8.1
theorem dX7_seekSets_103 : decode cX7_seekSets 103 = .ok (.getfield 383, 3) := dAX7_seekSets_8.2.1
theorem dX7_seekSets_106 : decode cX7_seekSets 106 = .ok (.iload_n 3, 1) := dAX7_seekSets_8.2.2.1
theorem dX7_seekSets_107 : decode cX7_seekSets 107 = .ok (.iand, 1) := dAX7_seekSets_8.2.2.2.1
theorem dX7_seekSets_108 : decode cX7_seekSets 108 = .ok (.putfield 383, 3) := dAX7_seekSets_8.2.2.2.2.1
theorem dX7_seekSets_111 : decode cX7_seekSets 111 = .ok (.iconst 0, 1) := dAX7_seekSets_8.2.2.2.2.2.1
theorem dX7_seekSets_112 : decode cX7_seekSets 112 = .ok (.istore 4, 2) := dAX7_seekSets_8.2.2.2.2.2.2.1
theorem dX7_seekSets_114 : decode cX7_seekSets 114 = .ok (.iload 4, 2) := dAX7_seekSets_8.2.2.2.2.2.2.2
set_option maxRecDepth 100000 in
theorem dAX7_seekSets_9 : decode cX7_seekSets 116 = .ok (.aload_n 0, 1) ∧ decode cX7_seekSets 117 = .ok (.getfield 20, 3) ∧ decode cX7_seekSets 120 = .ok (.iconst 3, 1) ∧ decode cX7_seekSets 121 = .ok (.iaload, 1) ∧ decode cX7_seekSets 122 = .ok (.if_icmp .ge 25, 3) ∧ decode cX7_seekSets 125 = .ok (.aload_n 0, 1) ∧ decode cX7_seekSets 126 = .ok (.getfield 62, 3) ∧ decode cX7_seekSets 129 = .ok (.iload 4, 2) := by decide +kernel
theorem dX7_seekSets_116 : decode cX7_seekSets 116 = .ok (.aload_n 0, 1) := dAX7_seekSets_9.1
theorem dX7_seekSets_117 : decode cX7_seekSets 117 = .ok (.getfield 20, 3) := dAX7_seekSets_9.2.1
theorem dX7_seekSets_120 : decode cX7_seekSets 120 = .ok (.iconst 3, 1) := dAX7_seekSets_9.2.2.1
theorem dX7_seekSets_121 : decode cX7_seekSets 121 = .ok (.iaload, 1) := dAX7_seekSets_9.2.2.2.1
theorem dX7_seekSets_122 : decode cX7_seekSets 122 = .ok (.if_icmp .ge 25, 3) := dAX7_seekSets_9.2.2.2.2.1
theorem dX7_seekSets_125 : decode cX7_seekSets 125 = .ok (.aload_n 0, 1) := dAX7_seekSets_9.2.2.2.2.2.1
theorem dX7_seekSets_126 : decode cX7_seekSets 126 = .ok (.getfield 62, 3) := dAX7_seekSets_9.2.2.2.2.2.2.1
theorem dX7_seekSets_129 : decode cX7_seekSets 129 = .ok (.iload 4, 2) := dAX7_seekSets_9.2.2.2.2.2.2.2
set_option maxRecDepth 100000 in
theorem dAX7_seekSets_10 : decode cX7_seekSets 131 = .ok (.dup2, 1) ∧ decode cX7_seekSets 132 = .ok (.iaload, 1) ∧ decode cX7_seekSets 133 = .ok (.iload_n 3, 1) ∧ decode cX7_seekSets 134 = .ok (.iload 4, 2) ∧ decode cX7_seekSets 136 = .ok (.ishr, 1) ∧ decode cX7_seekSets 137 = .ok (.iconst 1, 1) ∧ decode cX7_seekSets 138 = .ok (.iand, 1) ∧ decode cX7_seekSets 139 = .ok (.iadd, 1) := by decide +kernel
theorem dX7_seekSets_131 : decode cX7_seekSets 131 = .ok (.dup2, 1) := dAX7_seekSets_10.1
theorem dX7_seekSets_132 : decode cX7_seekSets 132 = .ok (.iaload, 1) := dAX7_seekSets_10.2.1
theorem dX7_seekSets_133 : decode cX7_seekSets 133 = .ok (.iload_n 3, 1) := dAX7_seekSets_10.2.2.1
theorem dX7_seekSets_134 : decode cX7_seekSets 134 = .ok (.iload 4, 2) := dAX7_seekSets_10.2.2.2.1
theorem dX7_seekSets_136 : decode cX7_seekSets 136 = .ok (.ishr, 1) := dAX7_seekSets_10.2.2.2.2.1
theorem dX7_seekSets_137 : decode cX7_seekSets 137 = .ok (.iconst 1, 1) := dAX7_seekSets_10.2.2.2.2.2.1
theorem dX7_seekSets_138 : decode cX7_seekSets 138 = .ok (.iand, 1) := dAX7_seekSets_10.2.2.2.2.2.2.1
theorem dX7_seekSets_139 : decode cX7_seekSets 139 = .ok (.iadd, 1) := dAX7_seekSets_10.2.2.2.2.2.2.2
set_option maxRecDepth 100000 in
theorem dAX7_seekSets_11 : decode cX7_seekSets 140 = .ok (.iastore, 1) ∧ decode cX7_seekSets 141 = .ok (.iinc 4 1, 3) ∧ decode cX7_seekSets 144 = .ok (.goto (-30), 3) ∧ decode cX7_seekSets 147 = .ok (.iinc 3 1, 3) ∧ decode cX7_seekSets 150 = .ok (.goto (-102), 3) ∧ decode cX7_seekSets 153 = .ok (.aload_n 0, 1) ∧ decode cX7_seekSets 154 = .ok (.getfield 377, 3) ∧ decode cX7_seekSets 157 = .ok (.ifCond .ne 8, 3) := by decide +kernel
theorem dX7_seekSets_140 : decode cX7_seekSets 140 = .ok (.iastore, 1) := dAX7_seekSets_11.1
theorem dX7_seekSets_141 : decode cX7_seekSets 141 = .ok (.iinc 4 1, 3) := dAX7_seekSets_11.2.1
theorem dX7_seekSets_144 : decode cX7_seekSets 144 = .ok (.goto (-30), 3) := dAX7_seekSets_11.2.2.1
theorem dX7_seekSets_147 : decode cX7_seekSets 147 = .ok (.iinc 3 1, 3) := dAX7_seekSets_11.2.2.2.1
theorem dX7_seekSets_150 : decode cX7_seekSets 150 = .ok (.goto (-102), 3) := dAX7_seekSets_11.2.2.2.2.1
theorem dX7_seekSets_153 : decode cX7_seekSets 153 = .ok (.aload_n 0, 1) := dAX7_seekSets_11.2.2.2.2.2.1
theorem dX7_seekSets_154 : decode cX7_seekSets 154 = .ok (.getfield 377, 3) := dAX7_seekSets_11.2.2.2.2.2.2.1
theorem dX7_seekSets_157 : decode cX7_seekSets 157 = .ok (.ifCond .ne 8, 3) := dAX7_seekSets_11.2.2.2.2.2.2.2
set_option maxRecDepth 100000 in
theorem dAX7_seekSets_12 : decode cX7_seekSets 160 = .ok (.aload_n 0, 1) ∧ decode cX7_seekSets 161 = .ok (.iconst 0, 1) ∧ decode cX7_seekSets 162 = .ok (.putfield 383, 3) ∧ decode cX7_seekSets 165 = .ok (.iload_n 2, 1) ∧ decode cX7_seekSets 166 = .ok (.ireturn, 1) := by decide +kernel
theorem dX7_seekSets_160 : decode cX7_seekSets 160 = .ok (.aload_n 0, 1) := dAX7_seekSets_12.1
theorem dX7_seekSets_161 : decode cX7_seekSets 161 = .ok (.iconst 0, 1) := dAX7_seekSets_12.2.1
theorem dX7_seekSets_162 : decode cX7_seekSets 162 = .ok (.putfield 383, 3) := dAX7_seekSets_12.2.2.1
theorem dX7_seekSets_165 : decode cX7_seekSets 165 = .ok (.iload_n 2, 1) := dAX7_seekSets_12.2.2.2.1
theorem dX7_seekSets_166 : decode cX7_seekSets 166 = .ok (.ireturn, 1) := dAX7_seekSets_12.2.2.2.2
set_option maxRecDepth 100000 in
theorem dAX7_settles_0 : decode cX7_settles 0 = .ok (.aload_n 0, 1) ∧ decode cX7_settles 1 = .ok (.invokevirtual 175, 3) ∧ decode cX7_settles 4 = .ok (.aload_n 0, 1) ∧ decode cX7_settles 5 = .ok (.getfield 187, 3) ∧ decode cX7_settles 8 = .ok (.ifCond .ne 9, 3) ∧ decode cX7_settles 11 = .ok (.aload_n 0, 1) ∧ decode cX7_settles 12 = .ok (.iconst 1, 1) ∧ decode cX7_settles 13 = .ok (.invokevirtual 178, 3) := by decide +kernel
theorem dX7_settles_0 : decode cX7_settles 0 = .ok (.aload_n 0, 1) := dAX7_settles_0.1
theorem dX7_settles_1 : decode cX7_settles 1 = .ok (.invokevirtual 175, 3) := dAX7_settles_0.2.1
theorem dX7_settles_4 : decode cX7_settles 4 = .ok (.aload_n 0, 1) := dAX7_settles_0.2.2.1
theorem dX7_settles_5 : decode cX7_settles 5 = .ok (.getfield 187, 3) := dAX7_settles_0.2.2.2.1
theorem dX7_settles_8 : decode cX7_settles 8 = .ok (.ifCond .ne 9, 3) := dAX7_settles_0.2.2.2.2.1
theorem dX7_settles_11 : decode cX7_settles 11 = .ok (.aload_n 0, 1) := dAX7_settles_0.2.2.2.2.2.1
theorem dX7_settles_12 : decode cX7_settles 12 = .ok (.iconst 1, 1) := dAX7_settles_0.2.2.2.2.2.2.1
theorem dX7_settles_13 : decode cX7_settles 13 = .ok (.invokevirtual 178, 3) := dAX7_settles_0.2.2.2.2.2.2.2
set_option maxRecDepth 100000 in
theorem dAX7_settles_1 : decode cX7_settles 16 = .ok (.ireturn, 1) ∧ decode cX7_settles 17 = .ok (.bipush 10, 2) ∧ decode cX7_settles 19 = .ok (.istore_n 1, 1) ∧ decode cX7_settles 20 = .ok (.iload_n 1, 1) ∧ decode cX7_settles 21 = .ok (.ifCond .le 27, 3) ∧ decode cX7_settles 24 = .ok (.aload_n 0, 1) ∧ decode cX7_settles 25 = .ok (.iload_n 1, 1) ∧ decode cX7_settles 26 = .ok (.iconst 1, 1) := by decide +kernel
theorem dX7_settles_16 : decode cX7_settles 16 = .ok (.ireturn, 1) := dAX7_settles_1.1
theorem dX7_settles_17 : decode cX7_settles 17 = .ok (.bipush 10, 2) := dAX7_settles_1.2.1
theorem dX7_settles_19 : decode cX7_settles 19 = .ok (.istore_n 1, 1) := dAX7_settles_1.2.2.1
theorem dX7_settles_20 : decode cX7_settles 20 = .ok (.iload_n 1, 1) := dAX7_settles_1.2.2.2.1
theorem dX7_settles_21 : decode cX7_settles 21 = .ok (.ifCond .le 27, 3) := dAX7_settles_1.2.2.2.2.1
theorem dX7_settles_24 : decode cX7_settles 24 = .ok (.aload_n 0, 1) := dAX7_settles_1.2.2.2.2.2.1
theorem dX7_settles_25 : decode cX7_settles 25 = .ok (.iload_n 1, 1) := dAX7_settles_1.2.2.2.2.2.2.1
theorem dX7_settles_26 : decode cX7_settles 26 = .ok (.iconst 1, 1) := dAX7_settles_1.2.2.2.2.2.2.2
set_option maxRecDepth 100000 in
theorem dAX7_settles_2 : decode cX7_settles 27 = .ok (.isub, 1) ∧ decode cX7_settles 28 = .ok (.invokevirtual 364, 3) ∧ decode cX7_settles 31 = .ok (.aload_n 0, 1) ∧ decode cX7_settles 32 = .ok (.aload_n 0, 1) ∧ decode cX7_settles 33 = .ok (.getfield 32, 3) ∧ decode cX7_settles 36 = .ok (.invokevirtual 323, 3) ∧ decode cX7_settles 39 = .ok (.if_icmp .ne 9, 3) ∧ decode cX7_settles 42 = .ok (.iinc 1 (-1), 3) := by decide +kernel
theorem dX7_settles_27 : decode cX7_settles 27 = .ok (.isub, 1) := dAX7_settles_2.1
theorem dX7_settles_28 : decode cX7_settles 28 = .ok (.invokevirtual 364, 3) := dAX7_settles_2.2.1
theorem dX7_settles_31 : decode cX7_settles 31 = .ok (.aload_n 0, 1) := dAX7_settles_2.2.2.1
theorem dX7_settles_32 : decode cX7_settles 32 = .ok (.aload_n 0, 1) := dAX7_settles_2.2.2.2.1
theorem dX7_settles_33 : decode cX7_settles 33 = .ok (.getfield 32, 3) := dAX7_settles_2.2.2.2.2.1
theorem dX7_settles_36 : decode cX7_settles 36 = .ok (.invokevirtual 323, 3) := dAX7_settles_2.2.2.2.2.2.1
theorem dX7_settles_39 : decode cX7_settles 39 = .ok (.if_icmp .ne 9, 3) := dAX7_settles_2.2.2.2.2.2.2.1
theorem dX7_settles_42 : decode cX7_settles 42 = .ok (.iinc 1 (-1), 3) := dAX7_settles_2.2.2.2.2.2.2.2
set_option maxRecDepth 100000 in
theorem dAX7_settles_3 : decode cX7_settles 45 = .ok (.goto (-25), 3) ∧ decode cX7_settles 48 = .ok (.iload_n 1, 1) ∧ decode cX7_settles 49 = .ok (.ireturn, 1) := by decide +kernel
theorem dX7_settles_45 : decode cX7_settles 45 = .ok (.goto (-25), 3) := dAX7_settles_3.1
theorem dX7_settles_48 : decode cX7_settles 48 = .ok (.iload_n 1, 1) := dAX7_settles_3.2.1
theorem dX7_settles_49 : decode cX7_settles 49 = .ok (.ireturn, 1) := dAX7_settles_3.2.2
set_option maxRecDepth 100000 in
theorem dAX7_size_0 : decode cX7_size 0 = .ok (.aload_n 0, 1) ∧ decode cX7_size 1 = .ok (.iconst 0, 1) ∧ decode cX7_size 2 = .ok (.putfield 65, 3) ∧ decode cX7_size 5 = .ok (.iload_n 1, 1) ∧ decode cX7_size 6 = .ok (.bipush 7, 2) ∧ decode cX7_size 8 = .ok (.if_icmp .ne 8, 3) ∧ decode cX7_size 11 = .ok (.aload_n 0, 1) ∧ decode cX7_size 12 = .ok (.getfield 71, 3) := by decide +kernel
theorem dX7_size_0 : decode cX7_size 0 = .ok (.aload_n 0, 1) := dAX7_size_0.1
theorem dX7_size_1 : decode cX7_size 1 = .ok (.iconst 0, 1) := dAX7_size_0.2.1
theorem dX7_size_2 : decode cX7_size 2 = .ok (.putfield 65, 3) := dAX7_size_0.2.2.1
theorem dX7_size_5 : decode cX7_size 5 = .ok (.iload_n 1, 1) := dAX7_size_0.2.2.2.1
theorem dX7_size_6 : decode cX7_size 6 = .ok (.bipush 7, 2) := dAX7_size_0.2.2.2.2.1
theorem dX7_size_8 : decode cX7_size 8 = .ok (.if_icmp .ne 8, 3) := dAX7_size_0.2.2.2.2.2.1
theorem dX7_size_11 : decode cX7_size 11 = .ok (.aload_n 0, 1) := dAX7_size_0.2.2.2.2.2.2.1
theorem dX7_size_12 : decode cX7_size 12 = .ok (.getfield 71, 3) := dAX7_size_0.2.2.2.2.2.2.2
set_option maxRecDepth 100000 in
theorem dAX7_size_1 : decode cX7_size 15 = .ok (.ireturn, 1) ∧ decode cX7_size 16 = .ok (.aload_n 0, 1) ∧ decode cX7_size 17 = .ok (.getfield 187, 3) ∧ decode cX7_size 20 = .ok (.ifCond .ne 19, 3) ∧ decode cX7_size 23 = .ok (.iload_n 1, 1) ∧ decode cX7_size 24 = .ok (.iconst 0, 1) ∧ decode cX7_size 25 = .ok (.bipush 6, 2) ∧ decode cX7_size 27 = .ok (.invokestatic 163, 3) := by decide +kernel
theorem dX7_size_15 : decode cX7_size 15 = .ok (.ireturn, 1) := dAX7_size_1.1
theorem dX7_size_16 : decode cX7_size 16 = .ok (.aload_n 0, 1) := dAX7_size_1.2.1
theorem dX7_size_17 : decode cX7_size 17 = .ok (.getfield 187, 3) := dAX7_size_1.2.2.1
theorem dX7_size_20 : decode cX7_size 20 = .ok (.ifCond .ne 19, 3) := dAX7_size_1.2.2.2.1
theorem dX7_size_23 : decode cX7_size 23 = .ok (.iload_n 1, 1) := dAX7_size_1.2.2.2.2.1
theorem dX7_size_24 : decode cX7_size 24 = .ok (.iconst 0, 1) := dAX7_size_1.2.2.2.2.2.1
theorem dX7_size_25 : decode cX7_size 25 = .ok (.bipush 6, 2) := dAX7_size_1.2.2.2.2.2.2.1
theorem dX7_size_27 : decode cX7_size 27 = .ok (.invokestatic 163, 3) := dAX7_size_1.2.2.2.2.2.2.2
set_option maxRecDepth 100000 in
theorem dAX7_size_2 : decode cX7_size 30 = .ok (.ifCond .eq 7, 3) ∧ decode cX7_size 33 = .ok (.iconst 0, 1) ∧ decode cX7_size 34 = .ok (.goto 4, 3) ∧ decode cX7_size 37 = .ok (.iconst (-1), 1) ∧ decode cX7_size 38 = .ok (.ireturn, 1) ∧ decode cX7_size 39 = .ok (.iload_n 1, 1) ∧ decode cX7_size 40 = .ok (.iconst 0, 1) ∧ decode cX7_size 41 = .ok (.iconst 3, 1) := by decide +kernel
theorem dX7_size_30 : decode cX7_size 30 = .ok (.ifCond .eq 7, 3) := dAX7_size_2.1
theorem dX7_size_33 : decode cX7_size 33 = .ok (.iconst 0, 1) := dAX7_size_2.2.1
theorem dX7_size_34 : decode cX7_size 34 = .ok (.goto 4, 3) := dAX7_size_2.2.2.1
theorem dX7_size_37 : decode cX7_size 37 = .ok (.iconst (-1), 1) := dAX7_size_2.2.2.2.1
theorem dX7_size_38 : decode cX7_size 38 = .ok (.ireturn, 1) := dAX7_size_2.2.2.2.2.1
theorem dX7_size_39 : decode cX7_size 39 = .ok (.iload_n 1, 1) := dAX7_size_2.2.2.2.2.2.1
theorem dX7_size_40 : decode cX7_size 40 = .ok (.iconst 0, 1) := dAX7_size_2.2.2.2.2.2.2.1
theorem dX7_size_41 : decode cX7_size 41 = .ok (.iconst 3, 1) := dAX7_size_2.2.2.2.2.2.2.2
set_option maxRecDepth 100000 in
theorem dAX7_size_3 : decode cX7_size 42 = .ok (.invokestatic 163, 3) ∧ decode cX7_size 45 = .ok (.ifCond .eq 10, 3) ∧ decode cX7_size 48 = .ok (.aload_n 0, 1) ∧ decode cX7_size 49 = .ok (.getfield 20, 3) ∧ decode cX7_size 52 = .ok (.iload_n 1, 1) ∧ decode cX7_size 53 = .ok (.iaload, 1) ∧ decode cX7_size 54 = .ok (.ireturn, 1) ∧ decode cX7_size 55 = .ok (.iload_n 1, 1) := by decide +kernel
theorem dX7_size_42 : decode cX7_size 42 = .ok (.invokestatic 163, 3) := dAX7_size_3.1
theorem dX7_size_45 : decode cX7_size 45 = .ok (.ifCond .eq 10, 3) := dAX7_size_3.2.1
theorem dX7_size_48 : decode cX7_size 48 = .ok (.aload_n 0, 1) := dAX7_size_3.2.2.1
theorem dX7_size_49 : decode cX7_size 49 = .ok (.getfield 20, 3) := dAX7_size_3.2.2.2.1
theorem dX7_size_52 : decode cX7_size 52 = .ok (.iload_n 1, 1) := dAX7_size_3.2.2.2.2.1
theorem dX7_size_53 : decode cX7_size 53 = .ok (.iaload, 1) := dAX7_size_3.2.2.2.2.2.1
theorem dX7_size_54 : decode cX7_size 54 = .ok (.ireturn, 1) := dAX7_size_3.2.2.2.2.2.2.1
theorem dX7_size_55 : decode cX7_size 55 = .ok (.iload_n 1, 1) := dAX7_size_3.2.2.2.2.2.2.2
set_option maxRecDepth 100000 in
theorem dAX7_size_4 : decode cX7_size 56 = .ok (.iconst 4, 1) ∧ decode cX7_size 57 = .ok (.if_icmp .ne 20, 3) ∧ decode cX7_size 60 = .ok (.aload_n 0, 1) ∧ decode cX7_size 61 = .ok (.getfield 20, 3) ∧ decode cX7_size 64 = .ok (.iconst 4, 1) ∧ decode cX7_size 65 = .ok (.iaload, 1) ∧ decode cX7_size 66 = .ok (.ifCond .le 7, 3) ∧ decode cX7_size 69 = .ok (.iconst 1, 1) := by decide +kernel
theorem dX7_size_56 : decode cX7_size 56 = .ok (.iconst 4, 1) := dAX7_size_4.1
theorem dX7_size_57 : decode cX7_size 57 = .ok (.if_icmp .ne 20, 3) := dAX7_size_4.2.1
theorem dX7_size_60 : decode cX7_size 60 = .ok (.aload_n 0, 1) := dAX7_size_4.2.2.1
theorem dX7_size_61 : decode cX7_size 61 = .ok (.getfield 20, 3) := dAX7_size_4.2.2.2.1
theorem dX7_size_64 : decode cX7_size 64 = .ok (.iconst 4, 1) := dAX7_size_4.2.2.2.2.1
theorem dX7_size_65 : decode cX7_size 65 = .ok (.iaload, 1) := dAX7_size_4.2.2.2.2.2.1
theorem dX7_size_66 : decode cX7_size 66 = .ok (.ifCond .le 7, 3) := dAX7_size_4.2.2.2.2.2.2.1
theorem dX7_size_69 : decode cX7_size 69 = .ok (.iconst 1, 1) := dAX7_size_4.2.2.2.2.2.2.2
set_option maxRecDepth 100000 in
theorem dAX7_size_5 : decode cX7_size 70 = .ok (.goto 33, 3) ∧ decode cX7_size 73 = .ok (.iconst 0, 1) ∧ decode cX7_size 74 = .ok (.goto 29, 3) ∧ decode cX7_size 77 = .ok (.iload_n 1, 1) ∧ decode cX7_size 78 = .ok (.iconst 5, 1) ∧ decode cX7_size 79 = .ok (.if_icmp .ne 10, 3) ∧ decode cX7_size 82 = .ok (.aload_n 0, 1) ∧ decode cX7_size 83 = .ok (.getfield 190, 3) := by decide +kernel
theorem dX7_size_70 : decode cX7_size 70 = .ok (.goto 33, 3) := dAX7_size_5.1
theorem dX7_size_73 : decode cX7_size 73 = .ok (.iconst 0, 1) := dAX7_size_5.2.1
theorem dX7_size_74 : decode cX7_size 74 = .ok (.goto 29, 3) := dAX7_size_5.2.2.1
theorem dX7_size_77 : decode cX7_size 77 = .ok (.iload_n 1, 1) := dAX7_size_5.2.2.2.1
theorem dX7_size_78 : decode cX7_size 78 = .ok (.iconst 5, 1) := dAX7_size_5.2.2.2.2.1
theorem dX7_size_79 : decode cX7_size 79 = .ok (.if_icmp .ne 10, 3) := dAX7_size_5.2.2.2.2.2.1
theorem dX7_size_82 : decode cX7_size 82 = .ok (.aload_n 0, 1) := dAX7_size_5.2.2.2.2.2.2.1
theorem dX7_size_83 : decode cX7_size 83 = .ok (.getfield 190, 3) := dAX7_size_5.2.2.2.2.2.2.2
set_option maxRecDepth 100000 in
theorem dAX7_size_6 : decode cX7_size 86 = .ok (.goto 17, 3) ∧ decode cX7_size 89 = .ok (.iload_n 1, 1) ∧ decode cX7_size 90 = .ok (.bipush 6, 2) ∧ decode cX7_size 92 = .ok (.if_icmp .ne 10, 3) ∧ decode cX7_size 95 = .ok (.aload_n 0, 1) ∧ decode cX7_size 96 = .ok (.getfield 193, 3) ∧ decode cX7_size 99 = .ok (.goto 4, 3) ∧ decode cX7_size 102 = .ok (.iconst (-1), 1) := by decide +kernel
theorem dX7_size_86 : decode cX7_size 86 = .ok (.goto 17, 3) := dAX7_size_6.1
theorem dX7_size_89 : decode cX7_size 89 = .ok (.iload_n 1, 1) := dAX7_size_6.2.1
theorem dX7_size_90 : decode cX7_size 90 = .ok (.bipush 6, 2) := dAX7_size_6.2.2.1
theorem dX7_size_92 : decode cX7_size 92 = .ok (.if_icmp .ne 10, 3) := dAX7_size_6.2.2.2.1
theorem dX7_size_95 : decode cX7_size 95 = .ok (.aload_n 0, 1) := dAX7_size_6.2.2.2.2.1
theorem dX7_size_96 : decode cX7_size 96 = .ok (.getfield 193, 3) := dAX7_size_6.2.2.2.2.2.1
theorem dX7_size_99 : decode cX7_size 99 = .ok (.goto 4, 3) := dAX7_size_6.2.2.2.2.2.2.1
theorem dX7_size_102 : decode cX7_size 102 = .ok (.iconst (-1), 1) := dAX7_size_6.2.2.2.2.2.2.2
theorem dX7_size_103 : decode cX7_size 103 = .ok (.ireturn, 1) := by decide +kernel
set_option maxRecDepth 100000 in
theorem dAX7_slipBy_0 : decode cX7_slipBy 0 = .ok (.aload_n 1, 1) ∧ decode cX7_slipBy 1 = .ok (.iconst 0, 1) ∧ decode cX7_slipBy 2 = .ok (.aload_n 0, 1) ∧ decode cX7_slipBy 3 = .ok (.getfield 56, 3) ∧ decode cX7_slipBy 6 = .ok (.iconst 0, 1) ∧ decode cX7_slipBy 7 = .ok (.bipush 90, 2) ∧ decode cX7_slipBy 9 = .ok (.invokestatic 156, 3) ∧ decode cX7_slipBy 12 = .ok (.iconst 0, 1) := by decide +kernel
theorem dX7_slipBy_0 : decode cX7_slipBy 0 = .ok (.aload_n 1, 1) := dAX7_slipBy_0.1
theorem dX7_slipBy_1 : decode cX7_slipBy 1 = .ok (.iconst 0, 1) := dAX7_slipBy_0.2.1
theorem dX7_slipBy_2 : decode cX7_slipBy 2 = .ok (.aload_n 0, 1) := dAX7_slipBy_0.2.2.1
theorem dX7_slipBy_3 : decode cX7_slipBy 3 = .ok (.getfield 56, 3) := dAX7_slipBy_0.2.2.2.1
theorem dX7_slipBy_6 : decode cX7_slipBy 6 = .ok (.iconst 0, 1) := dAX7_slipBy_0.2.2.2.2.1
theorem dX7_slipBy_7 : decode cX7_slipBy 7 = .ok (.bipush 90, 2) := dAX7_slipBy_0.2.2.2.2.2.1
theorem dX7_slipBy_9 : decode cX7_slipBy 9 = .ok (.invokestatic 156, 3) := dAX7_slipBy_0.2.2.2.2.2.2.1
theorem dX7_slipBy_12 : decode cX7_slipBy 12 = .ok (.iconst 0, 1) := dAX7_slipBy_0.2.2.2.2.2.2.2
set_option maxRecDepth 100000 in
theorem dAX7_slipBy_1 : decode cX7_slipBy 13 = .ok (.istore_n 3, 1) ∧ decode cX7_slipBy 14 = .ok (.iload_n 3, 1) ∧ decode cX7_slipBy 15 = .ok (.aload_n 0, 1) ∧ decode cX7_slipBy 16 = .ok (.getfield 20, 3) ∧ decode cX7_slipBy 19 = .ok (.iconst 3, 1) ∧ decode cX7_slipBy 20 = .ok (.iaload, 1) ∧ decode cX7_slipBy 21 = .ok (.if_icmp .ge 49, 3) ∧ decode cX7_slipBy 24 = .ok (.iload_n 2, 1) := by decide +kernel
theorem dX7_slipBy_13 : decode cX7_slipBy 13 = .ok (.istore_n 3, 1) := dAX7_slipBy_1.1
theorem dX7_slipBy_14 : decode cX7_slipBy 14 = .ok (.iload_n 3, 1) := dAX7_slipBy_1.2.1
theorem dX7_slipBy_15 : decode cX7_slipBy 15 = .ok (.aload_n 0, 1) := dAX7_slipBy_1.2.2.1
theorem dX7_slipBy_16 : decode cX7_slipBy 16 = .ok (.getfield 20, 3) := dAX7_slipBy_1.2.2.2.1
theorem dX7_slipBy_19 : decode cX7_slipBy 19 = .ok (.iconst 3, 1) := dAX7_slipBy_1.2.2.2.2.1
theorem dX7_slipBy_20 : decode cX7_slipBy 20 = .ok (.iaload, 1) := dAX7_slipBy_1.2.2.2.2.2.1
theorem dX7_slipBy_21 : decode cX7_slipBy 21 = .ok (.if_icmp .ge 49, 3) := dAX7_slipBy_1.2.2.2.2.2.2.1
theorem dX7_slipBy_24 : decode cX7_slipBy 24 = .ok (.iload_n 2, 1) := dAX7_slipBy_1.2.2.2.2.2.2.2
set_option maxRecDepth 100000 in
theorem dAX7_slipBy_2 : decode cX7_slipBy 25 = .ok (.iload_n 3, 1) ∧ decode cX7_slipBy 26 = .ok (.invokestatic 320, 3) ∧ decode cX7_slipBy 29 = .ok (.ifCond .eq 35, 3) ∧ decode cX7_slipBy 32 = .ok (.aload_n 0, 1) ∧ decode cX7_slipBy 33 = .ok (.getfield 56, 3) ∧ decode cX7_slipBy 36 = .ok (.bipush 72, 2) ∧ decode cX7_slipBy 38 = .ok (.aload_n 0, 1) ∧ decode cX7_slipBy 39 = .ok (.getfield 20, 3) := by decide +kernel
theorem dX7_slipBy_25 : decode cX7_slipBy 25 = .ok (.iload_n 3, 1) := dAX7_slipBy_2.1
theorem dX7_slipBy_26 : decode cX7_slipBy 26 = .ok (.invokestatic 320, 3) := dAX7_slipBy_2.2.1
theorem dX7_slipBy_29 : decode cX7_slipBy 29 = .ok (.ifCond .eq 35, 3) := dAX7_slipBy_2.2.2.1
theorem dX7_slipBy_32 : decode cX7_slipBy 32 = .ok (.aload_n 0, 1) := dAX7_slipBy_2.2.2.2.1
theorem dX7_slipBy_33 : decode cX7_slipBy 33 = .ok (.getfield 56, 3) := dAX7_slipBy_2.2.2.2.2.1
theorem dX7_slipBy_36 : decode cX7_slipBy 36 = .ok (.bipush 72, 2) := dAX7_slipBy_2.2.2.2.2.2.1
theorem dX7_slipBy_38 : decode cX7_slipBy 38 = .ok (.aload_n 0, 1) := dAX7_slipBy_2.2.2.2.2.2.2.1
theorem dX7_slipBy_39 : decode cX7_slipBy 39 = .ok (.getfield 20, 3) := dAX7_slipBy_2.2.2.2.2.2.2.2
set_option maxRecDepth 100000 in
theorem dAX7_slipBy_3 : decode cX7_slipBy 42 = .ok (.bipush 117, 2) ∧ decode cX7_slipBy 44 = .ok (.iconst 2, 1) ∧ decode cX7_slipBy 45 = .ok (.iload_n 3, 1) ∧ decode cX7_slipBy 46 = .ok (.imul, 1) ∧ decode cX7_slipBy 47 = .ok (.iadd, 1) ∧ decode cX7_slipBy 48 = .ok (.iaload, 1) ∧ decode cX7_slipBy 49 = .ok (.iadd, 1) ∧ decode cX7_slipBy 50 = .ok (.aload_n 0, 1) := by decide +kernel
theorem dX7_slipBy_42 : decode cX7_slipBy 42 = .ok (.bipush 117, 2) := dAX7_slipBy_3.1
theorem dX7_slipBy_44 : decode cX7_slipBy 44 = .ok (.iconst 2, 1) := dAX7_slipBy_3.2.1
theorem dX7_slipBy_45 : decode cX7_slipBy 45 = .ok (.iload_n 3, 1) := dAX7_slipBy_3.2.2.1
theorem dX7_slipBy_46 : decode cX7_slipBy 46 = .ok (.imul, 1) := dAX7_slipBy_3.2.2.2.1
theorem dX7_slipBy_47 : decode cX7_slipBy 47 = .ok (.iadd, 1) := dAX7_slipBy_3.2.2.2.2.1
theorem dX7_slipBy_48 : decode cX7_slipBy 48 = .ok (.iaload, 1) := dAX7_slipBy_3.2.2.2.2.2.1
theorem dX7_slipBy_49 : decode cX7_slipBy 49 = .ok (.iadd, 1) := dAX7_slipBy_3.2.2.2.2.2.2.1
theorem dX7_slipBy_50 : decode cX7_slipBy 50 = .ok (.aload_n 0, 1) := dAX7_slipBy_3.2.2.2.2.2.2.2
set_option maxRecDepth 100000 in
theorem dAX7_slipBy_4 : decode cX7_slipBy 51 = .ok (.getfield 20, 3) ∧ decode cX7_slipBy 54 = .ok (.bipush 117, 2) ∧ decode cX7_slipBy 56 = .ok (.iconst 2, 1) ∧ decode cX7_slipBy 57 = .ok (.iload_n 3, 1) ∧ decode cX7_slipBy 58 = .ok (.imul, 1) ∧ decode cX7_slipBy 59 = .ok (.iadd, 1) ∧ decode cX7_slipBy 60 = .ok (.iconst 1, 1) ∧ decode cX7_slipBy 61 = .ok (.iadd, 1) := by decide +kernel
theorem dX7_slipBy_51 : decode cX7_slipBy 51 = .ok (.getfield 20, 3) := dAX7_slipBy_4.1
theorem dX7_slipBy_54 : decode cX7_slipBy 54 = .ok (.bipush 117, 2) := dAX7_slipBy_4.2.1
theorem dX7_slipBy_56 : decode cX7_slipBy 56 = .ok (.iconst 2, 1) := dAX7_slipBy_4.2.2.1
theorem dX7_slipBy_57 : decode cX7_slipBy 57 = .ok (.iload_n 3, 1) := dAX7_slipBy_4.2.2.2.1
theorem dX7_slipBy_58 : decode cX7_slipBy 58 = .ok (.imul, 1) := dAX7_slipBy_4.2.2.2.2.1
theorem dX7_slipBy_59 : decode cX7_slipBy 59 = .ok (.iadd, 1) := dAX7_slipBy_4.2.2.2.2.2.1
theorem dX7_slipBy_60 : decode cX7_slipBy 60 = .ok (.iconst 1, 1) := dAX7_slipBy_4.2.2.2.2.2.2.1
theorem dX7_slipBy_61 : decode cX7_slipBy 61 = .ok (.iadd, 1) := dAX7_slipBy_4.2.2.2.2.2.2.2
set_option maxRecDepth 100000 in
theorem dAX7_slipBy_5 : decode cX7_slipBy 62 = .ok (.iaload, 1) ∧ decode cX7_slipBy 63 = .ok (.iastore, 1) ∧ decode cX7_slipBy 64 = .ok (.iinc 3 1, 3) ∧ decode cX7_slipBy 67 = .ok (.goto (-53), 3) ∧ decode cX7_slipBy 70 = .ok (.return_, 1) := by decide +kernel
theorem dX7_slipBy_62 : decode cX7_slipBy 62 = .ok (.iaload, 1) := dAX7_slipBy_5.1
theorem dX7_slipBy_63 : decode cX7_slipBy 63 = .ok (.iastore, 1) := dAX7_slipBy_5.2.1
theorem dX7_slipBy_64 : decode cX7_slipBy 64 = .ok (.iinc 3 1, 3) := dAX7_slipBy_5.2.2.1
theorem dX7_slipBy_67 : decode cX7_slipBy 67 = .ok (.goto (-53), 3) := dAX7_slipBy_5.2.2.2.1
theorem dX7_slipBy_70 : decode cX7_slipBy 70 = .ok (.return_, 1) := dAX7_slipBy_5.2.2.2.2
set_option maxRecDepth 100000 in
theorem dAX7_speaks_0 : decode cX7_speaks 0 = .ok (.aload_n 0, 1) ∧ decode cX7_speaks 1 = .ok (.invokevirtual 175, 3) ∧ decode cX7_speaks 4 = .ok (.aload_n 0, 1) ∧ decode cX7_speaks 5 = .ok (.iload_n 1, 1) ∧ decode cX7_speaks 6 = .ok (.iconst 0, 1) ∧ decode cX7_speaks 7 = .ok (.bipush 9, 2) ∧ decode cX7_speaks 9 = .ok (.invokestatic 163, 3) ∧ decode cX7_speaks 12 = .ok (.invokevirtual 307, 3) := by decide +kernel
theorem dX7_speaks_0 : decode cX7_speaks 0 = .ok (.aload_n 0, 1) := dAX7_speaks_0.1
theorem dX7_speaks_1 : decode cX7_speaks 1 = .ok (.invokevirtual 175, 3) := dAX7_speaks_0.2.1
theorem dX7_speaks_4 : decode cX7_speaks 4 = .ok (.aload_n 0, 1) := dAX7_speaks_0.2.2.1
theorem dX7_speaks_5 : decode cX7_speaks 5 = .ok (.iload_n 1, 1) := dAX7_speaks_0.2.2.2.1
theorem dX7_speaks_6 : decode cX7_speaks 6 = .ok (.iconst 0, 1) := dAX7_speaks_0.2.2.2.2.1
theorem dX7_speaks_7 : decode cX7_speaks 7 = .ok (.bipush 9, 2) := dAX7_speaks_0.2.2.2.2.2.1
theorem dX7_speaks_9 : decode cX7_speaks 9 = .ok (.invokestatic 163, 3) := dAX7_speaks_0.2.2.2.2.2.2.1
theorem dX7_speaks_12 : decode cX7_speaks 12 = .ok (.invokevirtual 307, 3) := dAX7_speaks_0.2.2.2.2.2.2.2
set_option maxRecDepth 100000 in
theorem dAX7_speaks_1 : decode cX7_speaks 15 = .ok (.istore 5, 2) ∧ decode cX7_speaks 17 = .ok (.iload 5, 2) ∧ decode cX7_speaks 19 = .ok (.ifCond .ne 24, 3) ∧ decode cX7_speaks 22 = .ok (.iload 4, 2) ∧ decode cX7_speaks 24 = .ok (.ifCond .eq 12, 3) ∧ decode cX7_speaks 27 = .ok (.iload_n 1, 1) ∧ decode cX7_speaks 28 = .ok (.iload_n 3, 1) ∧ decode cX7_speaks 29 = .ok (.iload_n 2, 1) := by decide +kernel
theorem dX7_speaks_15 : decode cX7_speaks 15 = .ok (.istore 5, 2) := dAX7_speaks_1.1
theorem dX7_speaks_17 : decode cX7_speaks 17 = .ok (.iload 5, 2) := dAX7_speaks_1.2.1
theorem dX7_speaks_19 : decode cX7_speaks 19 = .ok (.ifCond .ne 24, 3) := dAX7_speaks_1.2.2.1
theorem dX7_speaks_22 : decode cX7_speaks 22 = .ok (.iload 4, 2) := dAX7_speaks_1.2.2.2.1
theorem dX7_speaks_24 : decode cX7_speaks 24 = .ok (.ifCond .eq 12, 3) := dAX7_speaks_1.2.2.2.2.1
theorem dX7_speaks_27 : decode cX7_speaks 27 = .ok (.iload_n 1, 1) := dAX7_speaks_1.2.2.2.2.2.1
theorem dX7_speaks_28 : decode cX7_speaks 28 = .ok (.iload_n 3, 1) := dAX7_speaks_1.2.2.2.2.2.2.1
theorem dX7_speaks_29 : decode cX7_speaks 29 = .ok (.iload_n 2, 1) := dAX7_speaks_1.2.2.2.2.2.2.2
set_option maxRecDepth 100000 in
theorem dAX7_speaks_2 : decode cX7_speaks 30 = .ok (.invokestatic 411, 3) ∧ decode cX7_speaks 33 = .ok (.goto 9, 3) ∧ decode cX7_speaks 36 = .ok (.iload_n 1, 1) ∧ decode cX7_speaks 37 = .ok (.iload_n 2, 1) ∧ decode cX7_speaks 38 = .ok (.iload_n 3, 1) ∧ decode cX7_speaks 39 = .ok (.invokestatic 411, 3) ∧ decode cX7_speaks 42 = .ok (.ireturn, 1) ∧ decode cX7_speaks 43 = .ok (.aload_n 0, 1) := by decide +kernel
theorem dX7_speaks_30 : decode cX7_speaks 30 = .ok (.invokestatic 411, 3) := dAX7_speaks_2.1
theorem dX7_speaks_33 : decode cX7_speaks 33 = .ok (.goto 9, 3) := dAX7_speaks_2.2.1
theorem dX7_speaks_36 : decode cX7_speaks 36 = .ok (.iload_n 1, 1) := dAX7_speaks_2.2.2.1
theorem dX7_speaks_37 : decode cX7_speaks 37 = .ok (.iload_n 2, 1) := dAX7_speaks_2.2.2.2.1
theorem dX7_speaks_38 : decode cX7_speaks 38 = .ok (.iload_n 3, 1) := dAX7_speaks_2.2.2.2.2.1
theorem dX7_speaks_39 : decode cX7_speaks 39 = .ok (.invokestatic 411, 3) := dAX7_speaks_2.2.2.2.2.2.1
theorem dX7_speaks_42 : decode cX7_speaks 42 = .ok (.ireturn, 1) := dAX7_speaks_2.2.2.2.2.2.2.1
theorem dX7_speaks_43 : decode cX7_speaks 43 = .ok (.aload_n 0, 1) := dAX7_speaks_2.2.2.2.2.2.2.2
set_option maxRecDepth 100000 in
theorem dAX7_speaks_3 : decode cX7_speaks 44 = .ok (.iload 5, 2) ∧ decode cX7_speaks 46 = .ok (.putfield 68, 3) ∧ decode cX7_speaks 49 = .ok (.bipush (-100), 2) ∧ decode cX7_speaks 51 = .ok (.ireturn, 1) := by decide +kernel
theorem dX7_speaks_44 : decode cX7_speaks 44 = .ok (.iload 5, 2) := dAX7_speaks_3.1
theorem dX7_speaks_46 : decode cX7_speaks 46 = .ok (.putfield 68, 3) := dAX7_speaks_3.2.1
theorem dX7_speaks_49 : decode cX7_speaks 49 = .ok (.bipush (-100), 2) := dAX7_speaks_3.2.2.1
theorem dX7_speaks_51 : decode cX7_speaks 51 = .ok (.ireturn, 1) := dAX7_speaks_3.2.2.2
set_option maxRecDepth 100000 in
theorem dAX7_speaksOf_0 : decode cX7_speaksOf 0 = .ok (.iload_n 1, 1) ∧ decode cX7_speaksOf 1 = .ok (.ifCond .eq 17, 3) ∧ decode cX7_speaksOf 4 = .ok (.iload_n 2, 1) ∧ decode cX7_speaksOf 5 = .ok (.ifCond .eq 9, 3) ∧ decode cX7_speaksOf 8 = .ok (.iconst 2, 1) ∧ decode cX7_speaksOf 9 = .ok (.iload_n 0, 1) ∧ decode cX7_speaksOf 10 = .ok (.isub, 1) ∧ decode cX7_speaksOf 11 = .ok (.goto 17, 3) := by decide +kernel
theorem dX7_speaksOf_0 : decode cX7_speaksOf 0 = .ok (.iload_n 1, 1) := dAX7_speaksOf_0.1
theorem dX7_speaksOf_1 : decode cX7_speaksOf 1 = .ok (.ifCond .eq 17, 3) := dAX7_speaksOf_0.2.1
theorem dX7_speaksOf_4 : decode cX7_speaksOf 4 = .ok (.iload_n 2, 1) := dAX7_speaksOf_0.2.2.1
theorem dX7_speaksOf_5 : decode cX7_speaksOf 5 = .ok (.ifCond .eq 9, 3) := dAX7_speaksOf_0.2.2.2.1
theorem dX7_speaksOf_8 : decode cX7_speaksOf 8 = .ok (.iconst 2, 1) := dAX7_speaksOf_0.2.2.2.2.1
theorem dX7_speaksOf_9 : decode cX7_speaksOf 9 = .ok (.iload_n 0, 1) := dAX7_speaksOf_0.2.2.2.2.2.1
theorem dX7_speaksOf_10 : decode cX7_speaksOf 10 = .ok (.isub, 1) := dAX7_speaksOf_0.2.2.2.2.2.2.1
theorem dX7_speaksOf_11 : decode cX7_speaksOf 11 = .ok (.goto 17, 3) := dAX7_speaksOf_0.2.2.2.2.2.2.2
set_option maxRecDepth 100000 in
theorem dAX7_speaksOf_1 : decode cX7_speaksOf 14 = .ok (.iconst 5, 1) ∧ decode cX7_speaksOf 15 = .ok (.goto 13, 3) ∧ decode cX7_speaksOf 18 = .ok (.iload_n 2, 1) ∧ decode cX7_speaksOf 19 = .ok (.ifCond .eq 8, 3) ∧ decode cX7_speaksOf 22 = .ok (.iload_n 0, 1) ∧ decode cX7_speaksOf 23 = .ok (.ineg, 1) ∧ decode cX7_speaksOf 24 = .ok (.goto 4, 3) ∧ decode cX7_speaksOf 27 = .ok (.iconst 1, 1) := by decide +kernel
theorem dX7_speaksOf_14 : decode cX7_speaksOf 14 = .ok (.iconst 5, 1) := dAX7_speaksOf_1.1
theorem dX7_speaksOf_15 : decode cX7_speaksOf 15 = .ok (.goto 13, 3) := dAX7_speaksOf_1.2.1
theorem dX7_speaksOf_18 : decode cX7_speaksOf 18 = .ok (.iload_n 2, 1) := dAX7_speaksOf_1.2.2.1
theorem dX7_speaksOf_19 : decode cX7_speaksOf 19 = .ok (.ifCond .eq 8, 3) := dAX7_speaksOf_1.2.2.2.1
theorem dX7_speaksOf_22 : decode cX7_speaksOf 22 = .ok (.iload_n 0, 1) := dAX7_speaksOf_1.2.2.2.2.1
theorem dX7_speaksOf_23 : decode cX7_speaksOf 23 = .ok (.ineg, 1) := dAX7_speaksOf_1.2.2.2.2.2.1
theorem dX7_speaksOf_24 : decode cX7_speaksOf 24 = .ok (.goto 4, 3) := dAX7_speaksOf_1.2.2.2.2.2.2.1
theorem dX7_speaksOf_27 : decode cX7_speaksOf 27 = .ok (.iconst 1, 1) := dAX7_speaksOf_1.2.2.2.2.2.2.2
theorem dX7_speaksOf_28 : decode cX7_speaksOf 28 = .ok (.ireturn, 1) := by decide +kernel
set_option maxRecDepth 100000 in
theorem dAX7_sure_0 : decode cX7_sure 0 = .ok (.aload_n 0, 1) ∧ decode cX7_sure 1 = .ok (.invokevirtual 175, 3) ∧ decode cX7_sure 4 = .ok (.aload_n 0, 1) ∧ decode cX7_sure 5 = .ok (.getfield 187, 3) ∧ decode cX7_sure 8 = .ok (.ifCond .eq 12, 3) ∧ decode cX7_sure 11 = .ok (.aload_n 0, 1) ∧ decode cX7_sure 12 = .ok (.iconst 2, 1) ∧ decode cX7_sure 13 = .ok (.iconst 0, 1) := by decide +kernel
theorem dX7_sure_0 : decode cX7_sure 0 = .ok (.aload_n 0, 1) := dAX7_sure_0.1
theorem dX7_sure_1 : decode cX7_sure 1 = .ok (.invokevirtual 175, 3) := dAX7_sure_0.2.1
theorem dX7_sure_4 : decode cX7_sure 4 = .ok (.aload_n 0, 1) := dAX7_sure_0.2.2.1
theorem dX7_sure_5 : decode cX7_sure 5 = .ok (.getfield 187, 3) := dAX7_sure_0.2.2.2.1
theorem dX7_sure_8 : decode cX7_sure 8 = .ok (.ifCond .eq 12, 3) := dAX7_sure_0.2.2.2.2.1
theorem dX7_sure_11 : decode cX7_sure 11 = .ok (.aload_n 0, 1) := dAX7_sure_0.2.2.2.2.2.1
theorem dX7_sure_12 : decode cX7_sure 12 = .ok (.iconst 2, 1) := dAX7_sure_0.2.2.2.2.2.2.1
theorem dX7_sure_13 : decode cX7_sure 13 = .ok (.iconst 0, 1) := dAX7_sure_0.2.2.2.2.2.2.2
set_option maxRecDepth 100000 in
theorem dAX7_sure_1 : decode cX7_sure 14 = .ok (.invokevirtual 335, 3) ∧ decode cX7_sure 17 = .ok (.goto 8, 3) ∧ decode cX7_sure 20 = .ok (.aload_n 0, 1) ∧ decode cX7_sure 21 = .ok (.iconst 1, 1) ∧ decode cX7_sure 22 = .ok (.invokevirtual 178, 3) ∧ decode cX7_sure 25 = .ok (.ireturn, 1) := by decide +kernel
theorem dX7_sure_14 : decode cX7_sure 14 = .ok (.invokevirtual 335, 3) := dAX7_sure_1.1
theorem dX7_sure_17 : decode cX7_sure 17 = .ok (.goto 8, 3) := dAX7_sure_1.2.1
theorem dX7_sure_20 : decode cX7_sure 20 = .ok (.aload_n 0, 1) := dAX7_sure_1.2.2.1
theorem dX7_sure_21 : decode cX7_sure 21 = .ok (.iconst 1, 1) := dAX7_sure_1.2.2.2.1
theorem dX7_sure_22 : decode cX7_sure 22 = .ok (.invokevirtual 178, 3) := dAX7_sure_1.2.2.2.2.1
theorem dX7_sure_25 : decode cX7_sure 25 = .ok (.ireturn, 1) := dAX7_sure_1.2.2.2.2.2
set_option maxRecDepth 100000 in
theorem dAX7_surely_0 : decode cX7_surely 0 = .ok (.aload_n 0, 1) ∧ decode cX7_surely 1 = .ok (.invokevirtual 175, 3) ∧ decode cX7_surely 4 = .ok (.aload_n 0, 1) ∧ decode cX7_surely 5 = .ok (.getfield 187, 3) ∧ decode cX7_surely 8 = .ok (.ifCond .ne 9, 3) ∧ decode cX7_surely 11 = .ok (.aload_n 0, 1) ∧ decode cX7_surely 12 = .ok (.iconst 1, 1) ∧ decode cX7_surely 13 = .ok (.invokevirtual 178, 3) := by decide +kernel
theorem dX7_surely_0 : decode cX7_surely 0 = .ok (.aload_n 0, 1) := dAX7_surely_0.1
theorem dX7_surely_1 : decode cX7_surely 1 = .ok (.invokevirtual 175, 3) := dAX7_surely_0.2.1
theorem dX7_surely_4 : decode cX7_surely 4 = .ok (.aload_n 0, 1) := dAX7_surely_0.2.2.1
theorem dX7_surely_5 : decode cX7_surely 5 = .ok (.getfield 187, 3) := dAX7_surely_0.2.2.2.1
theorem dX7_surely_8 : decode cX7_surely 8 = .ok (.ifCond .ne 9, 3) := dAX7_surely_0.2.2.2.2.1
theorem dX7_surely_11 : decode cX7_surely 11 = .ok (.aload_n 0, 1) := dAX7_surely_0.2.2.2.2.2.1
theorem dX7_surely_12 : decode cX7_surely 12 = .ok (.iconst 1, 1) := dAX7_surely_0.2.2.2.2.2.2.1
theorem dX7_surely_13 : decode cX7_surely 13 = .ok (.invokevirtual 178, 3) := dAX7_surely_0.2.2.2.2.2.2.2
set_option maxRecDepth 100000 in
theorem dAX7_surely_1 : decode cX7_surely 16 = .ok (.ireturn, 1) ∧ decode cX7_surely 17 = .ok (.aload_n 0, 1) ∧ decode cX7_surely 18 = .ok (.iconst (-1), 1) ∧ decode cX7_surely 19 = .ok (.invokevirtual 389, 3) ∧ decode cX7_surely 22 = .ok (.pop, 1) ∧ decode cX7_surely 23 = .ok (.aload_n 0, 1) ∧ decode cX7_surely 24 = .ok (.getfield 383, 3) ∧ decode cX7_surely 27 = .ok (.ireturn, 1) := by decide +kernel
theorem dX7_surely_16 : decode cX7_surely 16 = .ok (.ireturn, 1) := dAX7_surely_1.1
theorem dX7_surely_17 : decode cX7_surely 17 = .ok (.aload_n 0, 1) := dAX7_surely_1.2.1
theorem dX7_surely_18 : decode cX7_surely 18 = .ok (.iconst (-1), 1) := dAX7_surely_1.2.2.1
theorem dX7_surely_19 : decode cX7_surely 19 = .ok (.invokevirtual 389, 3) := dAX7_surely_1.2.2.2.1
theorem dX7_surely_22 : decode cX7_surely 22 = .ok (.pop, 1) := dAX7_surely_1.2.2.2.2.1
theorem dX7_surely_23 : decode cX7_surely 23 = .ok (.aload_n 0, 1) := dAX7_surely_1.2.2.2.2.2.1
theorem dX7_surely_24 : decode cX7_surely 24 = .ok (.getfield 383, 3) := dAX7_surely_1.2.2.2.2.2.2.1
theorem dX7_surely_27 : decode cX7_surely 27 = .ok (.ireturn, 1) := dAX7_surely_1.2.2.2.2.2.2.2
set_option maxRecDepth 100000 in
theorem dAX7_takesWord_0 : decode cX7_takesWord 0 = .ok (.aload_n 0, 1) ∧ decode cX7_takesWord 1 = .ok (.aload_n 1, 1) ∧ decode cX7_takesWord 2 = .ok (.invokevirtual 120, 3) ∧ decode cX7_takesWord 5 = .ok (.ifCond .ne 5, 3) ∧ decode cX7_takesWord 8 = .ok (.iconst 0, 1) ∧ decode cX7_takesWord 9 = .ok (.ireturn, 1) ∧ decode cX7_takesWord 10 = .ok (.aload_n 0, 1) ∧ decode cX7_takesWord 11 = .ok (.invokevirtual 124, 3) := by decide +kernel
theorem dX7_takesWord_0 : decode cX7_takesWord 0 = .ok (.aload_n 0, 1) := dAX7_takesWord_0.1
theorem dX7_takesWord_1 : decode cX7_takesWord 1 = .ok (.aload_n 1, 1) := dAX7_takesWord_0.2.1
theorem dX7_takesWord_2 : decode cX7_takesWord 2 = .ok (.invokevirtual 120, 3) := dAX7_takesWord_0.2.2.1
theorem dX7_takesWord_5 : decode cX7_takesWord 5 = .ok (.ifCond .ne 5, 3) := dAX7_takesWord_0.2.2.2.1
theorem dX7_takesWord_8 : decode cX7_takesWord 8 = .ok (.iconst 0, 1) := dAX7_takesWord_0.2.2.2.2.1
theorem dX7_takesWord_9 : decode cX7_takesWord 9 = .ok (.ireturn, 1) := dAX7_takesWord_0.2.2.2.2.2.1
theorem dX7_takesWord_10 : decode cX7_takesWord 10 = .ok (.aload_n 0, 1) := dAX7_takesWord_0.2.2.2.2.2.2.1
theorem dX7_takesWord_11 : decode cX7_takesWord 11 = .ok (.invokevirtual 124, 3) := dAX7_takesWord_0.2.2.2.2.2.2.2
set_option maxRecDepth 100000 in
theorem dAX7_takesWord_1 : decode cX7_takesWord 14 = .ok (.iconst 1, 1) ∧ decode cX7_takesWord 15 = .ok (.ireturn, 1) := by decide +kernel
theorem dX7_takesWord_14 : decode cX7_takesWord 14 = .ok (.iconst 1, 1) := dAX7_takesWord_1.1
theorem dX7_takesWord_15 : decode cX7_takesWord 15 = .ok (.ireturn, 1) := dAX7_takesWord_1.2
set_option maxRecDepth 100000 in
theorem dAX7_throne_0 : decode cX7_throne 0 = .ok (.aload_n 0, 1) ∧ decode cX7_throne 1 = .ok (.invokevirtual 175, 3) ∧ decode cX7_throne 4 = .ok (.aload_n 0, 1) ∧ decode cX7_throne 5 = .ok (.getfield 187, 3) ∧ decode cX7_throne 8 = .ok (.ifCond .eq 13, 3) ∧ decode cX7_throne 11 = .ok (.aload_n 0, 1) ∧ decode cX7_throne 12 = .ok (.getfield 20, 3) ∧ decode cX7_throne 15 = .ok (.bipush 6, 2) := by decide +kernel
theorem dX7_throne_0 : decode cX7_throne 0 = .ok (.aload_n 0, 1) := dAX7_throne_0.1
theorem dX7_throne_1 : decode cX7_throne 1 = .ok (.invokevirtual 175, 3) := dAX7_throne_0.2.1
theorem dX7_throne_4 : decode cX7_throne 4 = .ok (.aload_n 0, 1) := dAX7_throne_0.2.2.1
theorem dX7_throne_5 : decode cX7_throne 5 = .ok (.getfield 187, 3) := dAX7_throne_0.2.2.2.1
theorem dX7_throne_8 : decode cX7_throne 8 = .ok (.ifCond .eq 13, 3) := dAX7_throne_0.2.2.2.2.1
theorem dX7_throne_11 : decode cX7_throne 11 = .ok (.aload_n 0, 1) := dAX7_throne_0.2.2.2.2.2.1
theorem dX7_throne_12 : decode cX7_throne 12 = .ok (.getfield 20, 3) := dAX7_throne_0.2.2.2.2.2.2.1
theorem dX7_throne_15 : decode cX7_throne 15 = .ok (.bipush 6, 2) := dAX7_throne_0.2.2.2.2.2.2.2
set_option maxRecDepth 100000 in
theorem dAX7_throne_1 : decode cX7_throne 17 = .ok (.iaload, 1) ∧ decode cX7_throne 18 = .ok (.goto 8, 3) ∧ decode cX7_throne 21 = .ok (.aload_n 0, 1) ∧ decode cX7_throne 22 = .ok (.iconst 1, 1) ∧ decode cX7_throne 23 = .ok (.invokevirtual 178, 3) ∧ decode cX7_throne 26 = .ok (.ireturn, 1) := by decide +kernel
theorem dX7_throne_17 : decode cX7_throne 17 = .ok (.iaload, 1) := dAX7_throne_1.1
theorem dX7_throne_18 : decode cX7_throne 18 = .ok (.goto 8, 3) := dAX7_throne_1.2.1
theorem dX7_throne_21 : decode cX7_throne 21 = .ok (.aload_n 0, 1) := dAX7_throne_1.2.2.1
theorem dX7_throne_22 : decode cX7_throne 22 = .ok (.iconst 1, 1) := dAX7_throne_1.2.2.2.1
theorem dX7_throne_23 : decode cX7_throne 23 = .ok (.invokevirtual 178, 3) := dAX7_throne_1.2.2.2.2.1
theorem dX7_throne_26 : decode cX7_throne 26 = .ok (.ireturn, 1) := dAX7_throne_1.2.2.2.2.2
set_option maxRecDepth 100000 in
theorem dAX7_throneAt_0 : decode cX7_throneAt 0 = .ok (.aload_n 0, 1) ∧ decode cX7_throneAt 1 = .ok (.iload_n 1, 1) ∧ decode cX7_throneAt 2 = .ok (.putfield 47, 3) ∧ decode cX7_throneAt 5 = .ok (.aload_n 0, 1) ∧ decode cX7_throneAt 6 = .ok (.aload_n 0, 1) ∧ decode cX7_throneAt 7 = .ok (.getfield 32, 3) ∧ decode cX7_throneAt 10 = .ok (.invokevirtual 323, 3) ∧ decode cX7_throneAt 13 = .ok (.istore_n 2, 1) := by decide +kernel
theorem dX7_throneAt_0 : decode cX7_throneAt 0 = .ok (.aload_n 0, 1) := dAX7_throneAt_0.1
theorem dX7_throneAt_1 : decode cX7_throneAt 1 = .ok (.iload_n 1, 1) := dAX7_throneAt_0.2.1
theorem dX7_throneAt_2 : decode cX7_throneAt 2 = .ok (.putfield 47, 3) := dAX7_throneAt_0.2.2.1
theorem dX7_throneAt_5 : decode cX7_throneAt 5 = .ok (.aload_n 0, 1) := dAX7_throneAt_0.2.2.2.1
theorem dX7_throneAt_6 : decode cX7_throneAt 6 = .ok (.aload_n 0, 1) := dAX7_throneAt_0.2.2.2.2.1
theorem dX7_throneAt_7 : decode cX7_throneAt 7 = .ok (.getfield 32, 3) := dAX7_throneAt_0.2.2.2.2.2.1
theorem dX7_throneAt_10 : decode cX7_throneAt 10 = .ok (.invokevirtual 323, 3) := dAX7_throneAt_0.2.2.2.2.2.2.1
theorem dX7_throneAt_13 : decode cX7_throneAt 13 = .ok (.istore_n 2, 1) := dAX7_throneAt_0.2.2.2.2.2.2.2
set_option maxRecDepth 100000 in
theorem dAX7_throneAt_1 : decode cX7_throneAt 14 = .ok (.aload_n 0, 1) ∧ decode cX7_throneAt 15 = .ok (.iconst (-1), 1) ∧ decode cX7_throneAt 16 = .ok (.putfield 47, 3) ∧ decode cX7_throneAt 19 = .ok (.iload_n 2, 1) ∧ decode cX7_throneAt 20 = .ok (.ireturn, 1) := by decide +kernel
theorem dX7_throneAt_14 : decode cX7_throneAt 14 = .ok (.aload_n 0, 1) := dAX7_throneAt_1.1
theorem dX7_throneAt_15 : decode cX7_throneAt 15 = .ok (.iconst (-1), 1) := dAX7_throneAt_1.2.1
theorem dX7_throneAt_16 : decode cX7_throneAt 16 = .ok (.putfield 47, 3) := dAX7_throneAt_1.2.2.1
theorem dX7_throneAt_19 : decode cX7_throneAt 19 = .ok (.iload_n 2, 1) := dAX7_throneAt_1.2.2.2.1
theorem dX7_throneAt_20 : decode cX7_throneAt 20 = .ok (.ireturn, 1) := dAX7_throneAt_1.2.2.2.2
set_option maxRecDepth 100000 in
theorem dAX7_throneBy_0 : decode cX7_throneBy 0 = .ok (.aload_n 0, 1) ∧ decode cX7_throneBy 1 = .ok (.aload_n 1, 1) ∧ decode cX7_throneBy 2 = .ok (.aload_n 0, 1) ∧ decode cX7_throneBy 3 = .ok (.getfield 20, 3) ∧ decode cX7_throneBy 6 = .ok (.bipush 6, 2) ∧ decode cX7_throneBy 8 = .ok (.iaload, 1) ∧ decode cX7_throneBy 9 = .ok (.invokevirtual 254, 3) ∧ decode cX7_throneBy 12 = .ok (.ireturn, 1) := by decide +kernel
theorem dX7_throneBy_0 : decode cX7_throneBy 0 = .ok (.aload_n 0, 1) := dAX7_throneBy_0.1
theorem dX7_throneBy_1 : decode cX7_throneBy 1 = .ok (.aload_n 1, 1) := dAX7_throneBy_0.2.1
theorem dX7_throneBy_2 : decode cX7_throneBy 2 = .ok (.aload_n 0, 1) := dAX7_throneBy_0.2.2.1
theorem dX7_throneBy_3 : decode cX7_throneBy 3 = .ok (.getfield 20, 3) := dAX7_throneBy_0.2.2.2.1
theorem dX7_throneBy_6 : decode cX7_throneBy 6 = .ok (.bipush 6, 2) := dAX7_throneBy_0.2.2.2.2.1
theorem dX7_throneBy_8 : decode cX7_throneBy 8 = .ok (.iaload, 1) := dAX7_throneBy_0.2.2.2.2.2.1
theorem dX7_throneBy_9 : decode cX7_throneBy 9 = .ok (.invokevirtual 254, 3) := dAX7_throneBy_0.2.2.2.2.2.2.1
theorem dX7_throneBy_12 : decode cX7_throneBy 12 = .ok (.ireturn, 1) := dAX7_throneBy_0.2.2.2.2.2.2.2
set_option maxRecDepth 100000 in
theorem dAX7_throneIf_0 : decode cX7_throneIf 0 = .ok (.aload_n 0, 1) ∧ decode cX7_throneIf 1 = .ok (.getfield 32, 3) ∧ decode cX7_throneIf 4 = .ok (.iconst 0, 1) ∧ decode cX7_throneIf 5 = .ok (.aload_n 0, 1) ∧ decode cX7_throneIf 6 = .ok (.getfield 56, 3) ∧ decode cX7_throneIf 9 = .ok (.iconst 0, 1) ∧ decode cX7_throneIf 10 = .ok (.bipush 90, 2) ∧ decode cX7_throneIf 12 = .ok (.invokestatic 156, 3) := by decide +kernel
theorem dX7_throneIf_0 : decode cX7_throneIf 0 = .ok (.aload_n 0, 1) := dAX7_throneIf_0.1
theorem dX7_throneIf_1 : decode cX7_throneIf 1 = .ok (.getfield 32, 3) := dAX7_throneIf_0.2.1
theorem dX7_throneIf_4 : decode cX7_throneIf 4 = .ok (.iconst 0, 1) := dAX7_throneIf_0.2.2.1
theorem dX7_throneIf_5 : decode cX7_throneIf 5 = .ok (.aload_n 0, 1) := dAX7_throneIf_0.2.2.2.1
theorem dX7_throneIf_6 : decode cX7_throneIf 6 = .ok (.getfield 56, 3) := dAX7_throneIf_0.2.2.2.2.1
theorem dX7_throneIf_9 : decode cX7_throneIf 9 = .ok (.iconst 0, 1) := dAX7_throneIf_0.2.2.2.2.2.1
theorem dX7_throneIf_10 : decode cX7_throneIf 10 = .ok (.bipush 90, 2) := dAX7_throneIf_0.2.2.2.2.2.2.1
theorem dX7_throneIf_12 : decode cX7_throneIf 12 = .ok (.invokestatic 156, 3) := dAX7_throneIf_0.2.2.2.2.2.2.2
set_option maxRecDepth 100000 in
theorem dAX7_throneIf_1 : decode cX7_throneIf 15 = .ok (.iconst 0, 1) ∧ decode cX7_throneIf 16 = .ok (.istore_n 3, 1) ∧ decode cX7_throneIf 17 = .ok (.iload_n 3, 1) ∧ decode cX7_throneIf 18 = .ok (.aload_n 0, 1) ∧ decode cX7_throneIf 19 = .ok (.getfield 20, 3) ∧ decode cX7_throneIf 22 = .ok (.iconst 1, 1) ∧ decode cX7_throneIf 23 = .ok (.iaload, 1) ∧ decode cX7_throneIf 24 = .ok (.if_icmp .ge 39, 3) := by decide +kernel
theorem dX7_throneIf_15 : decode cX7_throneIf 15 = .ok (.iconst 0, 1) := dAX7_throneIf_1.1
theorem dX7_throneIf_16 : decode cX7_throneIf 16 = .ok (.istore_n 3, 1) := dAX7_throneIf_1.2.1
theorem dX7_throneIf_17 : decode cX7_throneIf 17 = .ok (.iload_n 3, 1) := dAX7_throneIf_1.2.2.1
theorem dX7_throneIf_18 : decode cX7_throneIf 18 = .ok (.aload_n 0, 1) := dAX7_throneIf_1.2.2.2.1
theorem dX7_throneIf_19 : decode cX7_throneIf 19 = .ok (.getfield 20, 3) := dAX7_throneIf_1.2.2.2.2.1
theorem dX7_throneIf_22 : decode cX7_throneIf 22 = .ok (.iconst 1, 1) := dAX7_throneIf_1.2.2.2.2.2.1
theorem dX7_throneIf_23 : decode cX7_throneIf 23 = .ok (.iaload, 1) := dAX7_throneIf_1.2.2.2.2.2.2.1
theorem dX7_throneIf_24 : decode cX7_throneIf 24 = .ok (.if_icmp .ge 39, 3) := dAX7_throneIf_1.2.2.2.2.2.2.2
set_option maxRecDepth 100000 in
theorem dAX7_throneIf_2 : decode cX7_throneIf 27 = .ok (.aload_n 0, 1) ∧ decode cX7_throneIf 28 = .ok (.getfield 20, 3) ∧ decode cX7_throneIf 31 = .ok (.bipush 9, 2) ∧ decode cX7_throneIf 33 = .ok (.iload_n 3, 1) ∧ decode cX7_throneIf 34 = .ok (.iadd, 1) ∧ decode cX7_throneIf 35 = .ok (.iaload, 1) ∧ decode cX7_throneIf 36 = .ok (.ifCond .ne 21, 3) ∧ decode cX7_throneIf 39 = .ok (.iload_n 1, 1) := by decide +kernel
theorem dX7_throneIf_27 : decode cX7_throneIf 27 = .ok (.aload_n 0, 1) := dAX7_throneIf_2.1
theorem dX7_throneIf_28 : decode cX7_throneIf 28 = .ok (.getfield 20, 3) := dAX7_throneIf_2.2.1
theorem dX7_throneIf_31 : decode cX7_throneIf 31 = .ok (.bipush 9, 2) := dAX7_throneIf_2.2.2.1
theorem dX7_throneIf_33 : decode cX7_throneIf 33 = .ok (.iload_n 3, 1) := dAX7_throneIf_2.2.2.2.1
theorem dX7_throneIf_34 : decode cX7_throneIf 34 = .ok (.iadd, 1) := dAX7_throneIf_2.2.2.2.2.1
theorem dX7_throneIf_35 : decode cX7_throneIf 35 = .ok (.iaload, 1) := dAX7_throneIf_2.2.2.2.2.2.1
theorem dX7_throneIf_36 : decode cX7_throneIf 36 = .ok (.ifCond .ne 21, 3) := dAX7_throneIf_2.2.2.2.2.2.2.1
theorem dX7_throneIf_39 : decode cX7_throneIf 39 = .ok (.iload_n 1, 1) := dAX7_throneIf_2.2.2.2.2.2.2.2
set_option maxRecDepth 100000 in
theorem dAX7_throneIf_3 : decode cX7_throneIf 40 = .ok (.iload_n 3, 1) ∧ decode cX7_throneIf 41 = .ok (.invokestatic 320, 3) ∧ decode cX7_throneIf 44 = .ok (.ifCond .ne 13, 3) ∧ decode cX7_throneIf 47 = .ok (.aload_n 0, 1) ∧ decode cX7_throneIf 48 = .ok (.getfield 56, 3) ∧ decode cX7_throneIf 51 = .ok (.bipush 72, 2) ∧ decode cX7_throneIf 53 = .ok (.iload_n 3, 1) ∧ decode cX7_throneIf 54 = .ok (.iadd, 1) := by decide +kernel
theorem dX7_throneIf_40 : decode cX7_throneIf 40 = .ok (.iload_n 3, 1) := dAX7_throneIf_3.1
theorem dX7_throneIf_41 : decode cX7_throneIf 41 = .ok (.invokestatic 320, 3) := dAX7_throneIf_3.2.1
theorem dX7_throneIf_44 : decode cX7_throneIf 44 = .ok (.ifCond .ne 13, 3) := dAX7_throneIf_3.2.2.1
theorem dX7_throneIf_47 : decode cX7_throneIf 47 = .ok (.aload_n 0, 1) := dAX7_throneIf_3.2.2.2.1
theorem dX7_throneIf_48 : decode cX7_throneIf 48 = .ok (.getfield 56, 3) := dAX7_throneIf_3.2.2.2.2.1
theorem dX7_throneIf_51 : decode cX7_throneIf 51 = .ok (.bipush 72, 2) := dAX7_throneIf_3.2.2.2.2.2.1
theorem dX7_throneIf_53 : decode cX7_throneIf 53 = .ok (.iload_n 3, 1) := dAX7_throneIf_3.2.2.2.2.2.2.1
theorem dX7_throneIf_54 : decode cX7_throneIf 54 = .ok (.iadd, 1) := dAX7_throneIf_3.2.2.2.2.2.2.2
set_option maxRecDepth 100000 in
theorem dAX7_throneIf_4 : decode cX7_throneIf 55 = .ok (.iload_n 2, 1) ∧ decode cX7_throneIf 56 = .ok (.iastore, 1) ∧ decode cX7_throneIf 57 = .ok (.iinc 3 1, 3) ∧ decode cX7_throneIf 60 = .ok (.goto (-43), 3) ∧ decode cX7_throneIf 63 = .ok (.aload_n 0, 1) ∧ decode cX7_throneIf 64 = .ok (.aload_n 0, 1) ∧ decode cX7_throneIf 65 = .ok (.getfield 56, 3) ∧ decode cX7_throneIf 68 = .ok (.invokevirtual 323, 3) := by decide +kernel
theorem dX7_throneIf_55 : decode cX7_throneIf 55 = .ok (.iload_n 2, 1) := dAX7_throneIf_4.1
theorem dX7_throneIf_56 : decode cX7_throneIf 56 = .ok (.iastore, 1) := dAX7_throneIf_4.2.1
theorem dX7_throneIf_57 : decode cX7_throneIf 57 = .ok (.iinc 3 1, 3) := dAX7_throneIf_4.2.2.1
theorem dX7_throneIf_60 : decode cX7_throneIf 60 = .ok (.goto (-43), 3) := dAX7_throneIf_4.2.2.2.1
theorem dX7_throneIf_63 : decode cX7_throneIf 63 = .ok (.aload_n 0, 1) := dAX7_throneIf_4.2.2.2.2.1
theorem dX7_throneIf_64 : decode cX7_throneIf 64 = .ok (.aload_n 0, 1) := dAX7_throneIf_4.2.2.2.2.2.1
theorem dX7_throneIf_65 : decode cX7_throneIf 65 = .ok (.getfield 56, 3) := dAX7_throneIf_4.2.2.2.2.2.2.1
theorem dX7_throneIf_68 : decode cX7_throneIf 68 = .ok (.invokevirtual 323, 3) := dAX7_throneIf_4.2.2.2.2.2.2.2
theorem dX7_throneIf_71 : decode cX7_throneIf 71 = .ok (.ireturn, 1) := by decide +kernel
set_option maxRecDepth 100000 in
theorem dAX7_throneLine_0 : decode cX7_throneLine 0 = .ok (.aload_n 0, 1) ∧ decode cX7_throneLine 1 = .ok (.getfield 23, 3) ∧ decode cX7_throneLine 4 = .ok (.bipush 6, 2) ∧ decode cX7_throneLine 6 = .ok (.iaload, 1) ∧ decode cX7_throneLine 7 = .ok (.ifCond .lt 12, 3) ∧ decode cX7_throneLine 10 = .ok (.aload_n 0, 1) ∧ decode cX7_throneLine 11 = .ok (.iconst 3, 1) ∧ decode cX7_throneLine 12 = .ok (.aload_n 0, 1) := by decide +kernel
theorem dX7_throneLine_0 : decode cX7_throneLine 0 = .ok (.aload_n 0, 1) := dAX7_throneLine_0.1
theorem dX7_throneLine_1 : decode cX7_throneLine 1 = .ok (.getfield 23, 3) := dAX7_throneLine_0.2.1
theorem dX7_throneLine_4 : decode cX7_throneLine 4 = .ok (.bipush 6, 2) := dAX7_throneLine_0.2.2.1
theorem dX7_throneLine_6 : decode cX7_throneLine 6 = .ok (.iaload, 1) := dAX7_throneLine_0.2.2.2.1
theorem dX7_throneLine_7 : decode cX7_throneLine 7 = .ok (.ifCond .lt 12, 3) := dAX7_throneLine_0.2.2.2.2.1
theorem dX7_throneLine_10 : decode cX7_throneLine 10 = .ok (.aload_n 0, 1) := dAX7_throneLine_0.2.2.2.2.2.1
theorem dX7_throneLine_11 : decode cX7_throneLine 11 = .ok (.iconst 3, 1) := dAX7_throneLine_0.2.2.2.2.2.2.1
theorem dX7_throneLine_12 : decode cX7_throneLine 12 = .ok (.aload_n 0, 1) := dAX7_throneLine_0.2.2.2.2.2.2.2
set_option maxRecDepth 100000 in
theorem dAX7_throneLine_1 : decode cX7_throneLine 13 = .ok (.getfield 84, 3) ∧ decode cX7_throneLine 16 = .ok (.invokevirtual 130, 3) ∧ decode cX7_throneLine 19 = .ok (.aload_n 0, 1) ∧ decode cX7_throneLine 20 = .ok (.ldc 144, 2) ∧ decode cX7_throneLine 22 = .ok (.iconst 1, 1) ∧ decode cX7_throneLine 23 = .ok (.invokevirtual 202, 3) ∧ decode cX7_throneLine 26 = .ok (.pop, 1) ∧ decode cX7_throneLine 27 = .ok (.aload_n 0, 1) := by decide +kernel
theorem dX7_throneLine_13 : decode cX7_throneLine 13 = .ok (.getfield 84, 3) := dAX7_throneLine_1.1
theorem dX7_throneLine_16 : decode cX7_throneLine 16 = .ok (.invokevirtual 130, 3) := dAX7_throneLine_1.2.1
theorem dX7_throneLine_19 : decode cX7_throneLine 19 = .ok (.aload_n 0, 1) := dAX7_throneLine_1.2.2.1
theorem dX7_throneLine_20 : decode cX7_throneLine 20 = .ok (.ldc 144, 2) := dAX7_throneLine_1.2.2.2.1
theorem dX7_throneLine_22 : decode cX7_throneLine 22 = .ok (.iconst 1, 1) := dAX7_throneLine_1.2.2.2.2.1
theorem dX7_throneLine_23 : decode cX7_throneLine 23 = .ok (.invokevirtual 202, 3) := dAX7_throneLine_1.2.2.2.2.2.1
theorem dX7_throneLine_26 : decode cX7_throneLine 26 = .ok (.pop, 1) := dAX7_throneLine_1.2.2.2.2.2.2.1
theorem dX7_throneLine_27 : decode cX7_throneLine 27 = .ok (.aload_n 0, 1) := dAX7_throneLine_1.2.2.2.2.2.2.2
set_option maxRecDepth 100000 in
theorem dAX7_throneLine_2 : decode cX7_throneLine 28 = .ok (.invokevirtual 236, 3) ∧ decode cX7_throneLine 31 = .ok (.istore_n 1, 1) ∧ decode cX7_throneLine 32 = .ok (.aload_n 0, 1) ∧ decode cX7_throneLine 33 = .ok (.invokevirtual 196, 3) ∧ decode cX7_throneLine 36 = .ok (.aload_n 0, 1) ∧ decode cX7_throneLine 37 = .ok (.getfield 103, 3) ∧ decode cX7_throneLine 40 = .ok (.ifCond .ne 11, 3) ∧ decode cX7_throneLine 43 = .ok (.aload_n 0, 1) := by decide +kernel
theorem dX7_throneLine_28 : decode cX7_throneLine 28 = .ok (.invokevirtual 236, 3) := dAX7_throneLine_2.1
theorem dX7_throneLine_31 : decode cX7_throneLine 31 = .ok (.istore_n 1, 1) := dAX7_throneLine_2.2.1
theorem dX7_throneLine_32 : decode cX7_throneLine 32 = .ok (.aload_n 0, 1) := dAX7_throneLine_2.2.2.1
theorem dX7_throneLine_33 : decode cX7_throneLine 33 = .ok (.invokevirtual 196, 3) := dAX7_throneLine_2.2.2.2.1
theorem dX7_throneLine_36 : decode cX7_throneLine 36 = .ok (.aload_n 0, 1) := dAX7_throneLine_2.2.2.2.2.1
theorem dX7_throneLine_37 : decode cX7_throneLine 37 = .ok (.getfield 103, 3) := dAX7_throneLine_2.2.2.2.2.2.1
theorem dX7_throneLine_40 : decode cX7_throneLine 40 = .ok (.ifCond .ne 11, 3) := dAX7_throneLine_2.2.2.2.2.2.2.1
theorem dX7_throneLine_43 : decode cX7_throneLine 43 = .ok (.aload_n 0, 1) := dAX7_throneLine_2.2.2.2.2.2.2.2
set_option maxRecDepth 100000 in
theorem dAX7_throneLine_3 : decode cX7_throneLine 44 = .ok (.getfield 23, 3) ∧ decode cX7_throneLine 47 = .ok (.bipush 6, 2) ∧ decode cX7_throneLine 49 = .ok (.iload_n 1, 1) ∧ decode cX7_throneLine 50 = .ok (.iastore, 1) ∧ decode cX7_throneLine 51 = .ok (.return_, 1) := by decide +kernel
theorem dX7_throneLine_44 : decode cX7_throneLine 44 = .ok (.getfield 23, 3) := dAX7_throneLine_3.1
theorem dX7_throneLine_47 : decode cX7_throneLine 47 = .ok (.bipush 6, 2) := dAX7_throneLine_3.2.1
theorem dX7_throneLine_49 : decode cX7_throneLine 49 = .ok (.iload_n 1, 1) := dAX7_throneLine_3.2.2.1
theorem dX7_throneLine_50 : decode cX7_throneLine 50 = .ok (.iastore, 1) := dAX7_throneLine_3.2.2.2.1
theorem dX7_throneLine_51 : decode cX7_throneLine 51 = .ok (.return_, 1) := dAX7_throneLine_3.2.2.2.2
set_option maxRecDepth 100000 in
theorem dAX7_trouble_0 : decode cX7_trouble 0 = .ok (.aload_n 0, 1) ∧ decode cX7_trouble 1 = .ok (.iconst 0, 1) ∧ decode cX7_trouble 2 = .ok (.putfield 65, 3) ∧ decode cX7_trouble 5 = .ok (.aload_n 0, 1) ∧ decode cX7_trouble 6 = .ok (.getfield 68, 3) ∧ decode cX7_trouble 9 = .ok (.ireturn, 1) := by decide +kernel
theorem dX7_trouble_0 : decode cX7_trouble 0 = .ok (.aload_n 0, 1) := dAX7_trouble_0.1
theorem dX7_trouble_1 : decode cX7_trouble 1 = .ok (.iconst 0, 1) := dAX7_trouble_0.2.1
theorem dX7_trouble_2 : decode cX7_trouble 2 = .ok (.putfield 65, 3) := dAX7_trouble_0.2.2.1
theorem dX7_trouble_5 : decode cX7_trouble 5 = .ok (.aload_n 0, 1) := dAX7_trouble_0.2.2.2.1
theorem dX7_trouble_6 : decode cX7_trouble 6 = .ok (.getfield 68, 3) := dAX7_trouble_0.2.2.2.2.1
theorem dX7_trouble_9 : decode cX7_trouble 9 = .ok (.ireturn, 1) := dAX7_trouble_0.2.2.2.2.2
set_option maxRecDepth 100000 in
theorem dAX7_tryOrders_0 : decode cX7_tryOrders 0 = .ok (.iload_n 2, 1) ∧ decode cX7_tryOrders 1 = .ok (.aload_n 0, 1) ∧ decode cX7_tryOrders 2 = .ok (.getfield 20, 3) ∧ decode cX7_tryOrders 5 = .ok (.bipush 27, 2) ∧ decode cX7_tryOrders 7 = .ok (.iload_n 1, 1) ∧ decode cX7_tryOrders 8 = .ok (.iadd, 1) ∧ decode cX7_tryOrders 9 = .ok (.iaload, 1) ∧ decode cX7_tryOrders 10 = .ok (.if_icmp .ne 57, 3) := by decide +kernel
theorem dX7_tryOrders_0 : decode cX7_tryOrders 0 = .ok (.iload_n 2, 1) := dAX7_tryOrders_0.1
theorem dX7_tryOrders_1 : decode cX7_tryOrders 1 = .ok (.aload_n 0, 1) := dAX7_tryOrders_0.2.1
theorem dX7_tryOrders_2 : decode cX7_tryOrders 2 = .ok (.getfield 20, 3) := dAX7_tryOrders_0.2.2.1
theorem dX7_tryOrders_5 : decode cX7_tryOrders 5 = .ok (.bipush 27, 2) := dAX7_tryOrders_0.2.2.2.1
theorem dX7_tryOrders_7 : decode cX7_tryOrders 7 = .ok (.iload_n 1, 1) := dAX7_tryOrders_0.2.2.2.2.1
theorem dX7_tryOrders_8 : decode cX7_tryOrders 8 = .ok (.iadd, 1) := dAX7_tryOrders_0.2.2.2.2.2.1
theorem dX7_tryOrders_9 : decode cX7_tryOrders 9 = .ok (.iaload, 1) := dAX7_tryOrders_0.2.2.2.2.2.2.1
theorem dX7_tryOrders_10 : decode cX7_tryOrders 10 = .ok (.if_icmp .ne 57, 3) := dAX7_tryOrders_0.2.2.2.2.2.2.2
set_option maxRecDepth 100000 in
theorem dAX7_tryOrders_1 : decode cX7_tryOrders 13 = .ok (.aload_n 0, 1) ∧ decode cX7_tryOrders 14 = .ok (.aload_n 0, 1) ∧ decode cX7_tryOrders 15 = .ok (.getfield 56, 3) ∧ decode cX7_tryOrders 18 = .ok (.invokevirtual 293, 3) ∧ decode cX7_tryOrders 21 = .ok (.istore 4, 2) ∧ decode cX7_tryOrders 23 = .ok (.aload_n 0, 1) ∧ decode cX7_tryOrders 24 = .ok (.dup, 1) ∧ decode cX7_tryOrders 25 = .ok (.getfield 348, 3) := by decide +kernel
theorem dX7_tryOrders_13 : decode cX7_tryOrders 13 = .ok (.aload_n 0, 1) := dAX7_tryOrders_1.1
theorem dX7_tryOrders_14 : decode cX7_tryOrders 14 = .ok (.aload_n 0, 1) := dAX7_tryOrders_1.2.1
theorem dX7_tryOrders_15 : decode cX7_tryOrders 15 = .ok (.getfield 56, 3) := dAX7_tryOrders_1.2.2.1
theorem dX7_tryOrders_18 : decode cX7_tryOrders 18 = .ok (.invokevirtual 293, 3) := dAX7_tryOrders_1.2.2.2.1
theorem dX7_tryOrders_21 : decode cX7_tryOrders 21 = .ok (.istore 4, 2) := dAX7_tryOrders_1.2.2.2.2.1
theorem dX7_tryOrders_23 : decode cX7_tryOrders 23 = .ok (.aload_n 0, 1) := dAX7_tryOrders_1.2.2.2.2.2.1
theorem dX7_tryOrders_24 : decode cX7_tryOrders 24 = .ok (.dup, 1) := dAX7_tryOrders_1.2.2.2.2.2.2.1
theorem dX7_tryOrders_25 : decode cX7_tryOrders 25 = .ok (.getfield 348, 3) := dAX7_tryOrders_1.2.2.2.2.2.2.2
set_option maxRecDepth 100000 in
theorem dAX7_tryOrders_2 : decode cX7_tryOrders 28 = .ok (.iconst 1, 1) ∧ decode cX7_tryOrders 29 = .ok (.iadd, 1) ∧ decode cX7_tryOrders 30 = .ok (.putfield 348, 3) ∧ decode cX7_tryOrders 33 = .ok (.aload_n 0, 1) ∧ decode cX7_tryOrders 34 = .ok (.dup, 1) ∧ decode cX7_tryOrders 35 = .ok (.getfield 351, 3) ∧ decode cX7_tryOrders 38 = .ok (.iload 4, 2) ∧ decode cX7_tryOrders 40 = .ok (.iadd, 1) := by decide +kernel
theorem dX7_tryOrders_28 : decode cX7_tryOrders 28 = .ok (.iconst 1, 1) := dAX7_tryOrders_2.1
theorem dX7_tryOrders_29 : decode cX7_tryOrders 29 = .ok (.iadd, 1) := dAX7_tryOrders_2.2.1
theorem dX7_tryOrders_30 : decode cX7_tryOrders 30 = .ok (.putfield 348, 3) := dAX7_tryOrders_2.2.2.1
theorem dX7_tryOrders_33 : decode cX7_tryOrders 33 = .ok (.aload_n 0, 1) := dAX7_tryOrders_2.2.2.2.1
theorem dX7_tryOrders_34 : decode cX7_tryOrders 34 = .ok (.dup, 1) := dAX7_tryOrders_2.2.2.2.2.1
theorem dX7_tryOrders_35 : decode cX7_tryOrders 35 = .ok (.getfield 351, 3) := dAX7_tryOrders_2.2.2.2.2.2.1
theorem dX7_tryOrders_38 : decode cX7_tryOrders 38 = .ok (.iload 4, 2) := dAX7_tryOrders_2.2.2.2.2.2.2.1
theorem dX7_tryOrders_40 : decode cX7_tryOrders 40 = .ok (.iadd, 1) := dAX7_tryOrders_2.2.2.2.2.2.2.2
set_option maxRecDepth 100000 in
theorem dAX7_tryOrders_3 : decode cX7_tryOrders 41 = .ok (.putfield 351, 3) ∧ decode cX7_tryOrders 44 = .ok (.aload_n 0, 1) ∧ decode cX7_tryOrders 45 = .ok (.iload 4, 2) ∧ decode cX7_tryOrders 47 = .ok (.aload_n 0, 1) ∧ decode cX7_tryOrders 48 = .ok (.getfield 354, 3) ∧ decode cX7_tryOrders 51 = .ok (.if_icmp .ge 8, 3) ∧ decode cX7_tryOrders 54 = .ok (.iload 4, 2) ∧ decode cX7_tryOrders 56 = .ok (.goto 7, 3) := by decide +kernel
theorem dX7_tryOrders_41 : decode cX7_tryOrders 41 = .ok (.putfield 351, 3) := dAX7_tryOrders_3.1
theorem dX7_tryOrders_44 : decode cX7_tryOrders 44 = .ok (.aload_n 0, 1) := dAX7_tryOrders_3.2.1
theorem dX7_tryOrders_45 : decode cX7_tryOrders 45 = .ok (.iload 4, 2) := dAX7_tryOrders_3.2.2.1
theorem dX7_tryOrders_47 : decode cX7_tryOrders 47 = .ok (.aload_n 0, 1) := dAX7_tryOrders_3.2.2.2.1
theorem dX7_tryOrders_48 : decode cX7_tryOrders 48 = .ok (.getfield 354, 3) := dAX7_tryOrders_3.2.2.2.2.1
theorem dX7_tryOrders_51 : decode cX7_tryOrders 51 = .ok (.if_icmp .ge 8, 3) := dAX7_tryOrders_3.2.2.2.2.2.1
theorem dX7_tryOrders_54 : decode cX7_tryOrders 54 = .ok (.iload 4, 2) := dAX7_tryOrders_3.2.2.2.2.2.2.1
theorem dX7_tryOrders_56 : decode cX7_tryOrders 56 = .ok (.goto 7, 3) := dAX7_tryOrders_3.2.2.2.2.2.2.2
set_option maxRecDepth 100000 in
theorem dAX7_tryOrders_4 : decode cX7_tryOrders 59 = .ok (.aload_n 0, 1) ∧ decode cX7_tryOrders 60 = .ok (.getfield 354, 3) ∧ decode cX7_tryOrders 63 = .ok (.putfield 354, 3) ∧ decode cX7_tryOrders 66 = .ok (.return_, 1) ∧ decode cX7_tryOrders 67 = .ok (.iconst 0, 1) ∧ decode cX7_tryOrders 68 = .ok (.istore 4, 2) ∧ decode cX7_tryOrders 70 = .ok (.iload 4, 2) ∧ decode cX7_tryOrders 72 = .ok (.aload_n 0, 1) := by decide +kernel
theorem dX7_tryOrders_59 : decode cX7_tryOrders 59 = .ok (.aload_n 0, 1) := dAX7_tryOrders_4.1
theorem dX7_tryOrders_60 : decode cX7_tryOrders 60 = .ok (.getfield 354, 3) := dAX7_tryOrders_4.2.1
theorem dX7_tryOrders_63 : decode cX7_tryOrders 63 = .ok (.putfield 354, 3) := dAX7_tryOrders_4.2.2.1
theorem dX7_tryOrders_66 : decode cX7_tryOrders 66 = .ok (.return_, 1) := dAX7_tryOrders_4.2.2.2.1
theorem dX7_tryOrders_67 : decode cX7_tryOrders 67 = .ok (.iconst 0, 1) := dAX7_tryOrders_4.2.2.2.2.1
theorem dX7_tryOrders_68 : decode cX7_tryOrders 68 = .ok (.istore 4, 2) := dAX7_tryOrders_4.2.2.2.2.2.1
theorem dX7_tryOrders_70 : decode cX7_tryOrders 70 = .ok (.iload 4, 2) := dAX7_tryOrders_4.2.2.2.2.2.2.1
theorem dX7_tryOrders_72 : decode cX7_tryOrders 72 = .ok (.aload_n 0, 1) := dAX7_tryOrders_4.2.2.2.2.2.2.2
set_option maxRecDepth 100000 in
theorem dAX7_tryOrders_5 : decode cX7_tryOrders 73 = .ok (.getfield 20, 3) ∧ decode cX7_tryOrders 76 = .ok (.bipush 27, 2) ∧ decode cX7_tryOrders 78 = .ok (.iload_n 1, 1) ∧ decode cX7_tryOrders 79 = .ok (.iadd, 1) ∧ decode cX7_tryOrders 80 = .ok (.iaload, 1) ∧ decode cX7_tryOrders 81 = .ok (.if_icmp .ge 56, 3) ∧ decode cX7_tryOrders 84 = .ok (.iload_n 3, 1) ∧ decode cX7_tryOrders 85 = .ok (.iload 4, 2) := by decide +kernel
theorem dX7_tryOrders_73 : decode cX7_tryOrders 73 = .ok (.getfield 20, 3) := dAX7_tryOrders_5.1
theorem dX7_tryOrders_76 : decode cX7_tryOrders 76 = .ok (.bipush 27, 2) := dAX7_tryOrders_5.2.1
theorem dX7_tryOrders_78 : decode cX7_tryOrders 78 = .ok (.iload_n 1, 1) := dAX7_tryOrders_5.2.2.1
theorem dX7_tryOrders_79 : decode cX7_tryOrders 79 = .ok (.iadd, 1) := dAX7_tryOrders_5.2.2.2.1
theorem dX7_tryOrders_80 : decode cX7_tryOrders 80 = .ok (.iaload, 1) := dAX7_tryOrders_5.2.2.2.2.1
theorem dX7_tryOrders_81 : decode cX7_tryOrders 81 = .ok (.if_icmp .ge 56, 3) := dAX7_tryOrders_5.2.2.2.2.2.1
theorem dX7_tryOrders_84 : decode cX7_tryOrders 84 = .ok (.iload_n 3, 1) := dAX7_tryOrders_5.2.2.2.2.2.2.1
theorem dX7_tryOrders_85 : decode cX7_tryOrders 85 = .ok (.iload 4, 2) := dAX7_tryOrders_5.2.2.2.2.2.2.2
set_option maxRecDepth 100000 in
theorem dAX7_tryOrders_6 : decode cX7_tryOrders 87 = .ok (.invokestatic 320, 3) ∧ decode cX7_tryOrders 90 = .ok (.ifCond .eq 6, 3) ∧ decode cX7_tryOrders 93 = .ok (.goto 38, 3) ∧ decode cX7_tryOrders 96 = .ok (.aload_n 0, 1) ∧ decode cX7_tryOrders 97 = .ok (.getfield 56, 3) ∧ decode cX7_tryOrders 100 = .ok (.iconst 4, 1) ∧ decode cX7_tryOrders 101 = .ok (.iload_n 1, 1) ∧ decode cX7_tryOrders 102 = .ok (.imul, 1) := by decide +kernel
theorem dX7_tryOrders_87 : decode cX7_tryOrders 87 = .ok (.invokestatic 320, 3) := dAX7_tryOrders_6.1
theorem dX7_tryOrders_90 : decode cX7_tryOrders 90 = .ok (.ifCond .eq 6, 3) := dAX7_tryOrders_6.2.1
theorem dX7_tryOrders_93 : decode cX7_tryOrders 93 = .ok (.goto 38, 3) := dAX7_tryOrders_6.2.2.1
theorem dX7_tryOrders_96 : decode cX7_tryOrders 96 = .ok (.aload_n 0, 1) := dAX7_tryOrders_6.2.2.2.1
theorem dX7_tryOrders_97 : decode cX7_tryOrders 97 = .ok (.getfield 56, 3) := dAX7_tryOrders_6.2.2.2.2.1
theorem dX7_tryOrders_100 : decode cX7_tryOrders 100 = .ok (.iconst 4, 1) := dAX7_tryOrders_6.2.2.2.2.2.1
theorem dX7_tryOrders_101 : decode cX7_tryOrders 101 = .ok (.iload_n 1, 1) := dAX7_tryOrders_6.2.2.2.2.2.2.1
theorem dX7_tryOrders_102 : decode cX7_tryOrders 102 = .ok (.imul, 1) := dAX7_tryOrders_6.2.2.2.2.2.2.2
set_option maxRecDepth 100000 in
theorem dAX7_tryOrders_7 : decode cX7_tryOrders 103 = .ok (.iload_n 2, 1) ∧ decode cX7_tryOrders 104 = .ok (.iadd, 1) ∧ decode cX7_tryOrders 105 = .ok (.aload_n 0, 1) ∧ decode cX7_tryOrders 106 = .ok (.getfield 32, 3) ∧ decode cX7_tryOrders 109 = .ok (.iconst 4, 1) ∧ decode cX7_tryOrders 110 = .ok (.iload_n 1, 1) ∧ decode cX7_tryOrders 111 = .ok (.imul, 1) ∧ decode cX7_tryOrders 112 = .ok (.iload 4, 2) := by decide +kernel
theorem dX7_tryOrders_103 : decode cX7_tryOrders 103 = .ok (.iload_n 2, 1) := dAX7_tryOrders_7.1
theorem dX7_tryOrders_104 : decode cX7_tryOrders 104 = .ok (.iadd, 1) := dAX7_tryOrders_7.2.1
theorem dX7_tryOrders_105 : decode cX7_tryOrders 105 = .ok (.aload_n 0, 1) := dAX7_tryOrders_7.2.2.1
theorem dX7_tryOrders_106 : decode cX7_tryOrders 106 = .ok (.getfield 32, 3) := dAX7_tryOrders_7.2.2.2.1
theorem dX7_tryOrders_109 : decode cX7_tryOrders 109 = .ok (.iconst 4, 1) := dAX7_tryOrders_7.2.2.2.2.1
theorem dX7_tryOrders_110 : decode cX7_tryOrders 110 = .ok (.iload_n 1, 1) := dAX7_tryOrders_7.2.2.2.2.2.1
theorem dX7_tryOrders_111 : decode cX7_tryOrders 111 = .ok (.imul, 1) := dAX7_tryOrders_7.2.2.2.2.2.2.1
theorem dX7_tryOrders_112 : decode cX7_tryOrders 112 = .ok (.iload 4, 2) := dAX7_tryOrders_7.2.2.2.2.2.2.2
set_option maxRecDepth 100000 in
theorem dAX7_tryOrders_8 : decode cX7_tryOrders 114 = .ok (.iadd, 1) ∧ decode cX7_tryOrders 115 = .ok (.iaload, 1) ∧ decode cX7_tryOrders 116 = .ok (.iastore, 1) ∧ decode cX7_tryOrders 117 = .ok (.aload_n 0, 1) ∧ decode cX7_tryOrders 118 = .ok (.iload_n 1, 1) ∧ decode cX7_tryOrders 119 = .ok (.iload_n 2, 1) ∧ decode cX7_tryOrders 120 = .ok (.iconst 1, 1) ∧ decode cX7_tryOrders 121 = .ok (.iadd, 1) := by decide +kernel
theorem dX7_tryOrders_114 : decode cX7_tryOrders 114 = .ok (.iadd, 1) := dAX7_tryOrders_8.1
theorem dX7_tryOrders_115 : decode cX7_tryOrders 115 = .ok (.iaload, 1) := dAX7_tryOrders_8.2.1
theorem dX7_tryOrders_116 : decode cX7_tryOrders 116 = .ok (.iastore, 1) := dAX7_tryOrders_8.2.2.1
theorem dX7_tryOrders_117 : decode cX7_tryOrders 117 = .ok (.aload_n 0, 1) := dAX7_tryOrders_8.2.2.2.1
theorem dX7_tryOrders_118 : decode cX7_tryOrders 118 = .ok (.iload_n 1, 1) := dAX7_tryOrders_8.2.2.2.2.1
theorem dX7_tryOrders_119 : decode cX7_tryOrders 119 = .ok (.iload_n 2, 1) := dAX7_tryOrders_8.2.2.2.2.2.1
theorem dX7_tryOrders_120 : decode cX7_tryOrders 120 = .ok (.iconst 1, 1) := dAX7_tryOrders_8.2.2.2.2.2.2.1
theorem dX7_tryOrders_121 : decode cX7_tryOrders 121 = .ok (.iadd, 1) := dAX7_tryOrders_8.2.2.2.2.2.2.2
set_option maxRecDepth 100000 in
theorem dAX7_tryOrders_9 : decode cX7_tryOrders 122 = .ok (.iload_n 3, 1) ∧ decode cX7_tryOrders 123 = .ok (.iconst 1, 1) ∧ decode cX7_tryOrders 124 = .ok (.iload 4, 2) ∧ decode cX7_tryOrders 126 = .ok (.ishl, 1) ∧ decode cX7_tryOrders 127 = .ok (.ior, 1) ∧ decode cX7_tryOrders 128 = .ok (.invokevirtual 357, 3) ∧ decode cX7_tryOrders 131 = .ok (.iinc 4 1, 3) ∧ decode cX7_tryOrders 134 = .ok (.goto (-64), 3) := by decide +kernel
theorem dX7_tryOrders_122 : decode cX7_tryOrders 122 = .ok (.iload_n 3, 1) := dAX7_tryOrders_9.1
theorem dX7_tryOrders_123 : decode cX7_tryOrders 123 = .ok (.iconst 1, 1) := dAX7_tryOrders_9.2.1
theorem dX7_tryOrders_124 : decode cX7_tryOrders 124 = .ok (.iload 4, 2) := dAX7_tryOrders_9.2.2.1
theorem dX7_tryOrders_126 : decode cX7_tryOrders 126 = .ok (.ishl, 1) := dAX7_tryOrders_9.2.2.2.1
theorem dX7_tryOrders_127 : decode cX7_tryOrders 127 = .ok (.ior, 1) := dAX7_tryOrders_9.2.2.2.2.1
theorem dX7_tryOrders_128 : decode cX7_tryOrders 128 = .ok (.invokevirtual 357, 3) := dAX7_tryOrders_9.2.2.2.2.2.1
theorem dX7_tryOrders_131 : decode cX7_tryOrders 131 = .ok (.iinc 4 1, 3) := dAX7_tryOrders_9.2.2.2.2.2.2.1
theorem dX7_tryOrders_134 : decode cX7_tryOrders 134 = .ok (.goto (-64), 3) := dAX7_tryOrders_9.2.2.2.2.2.2.2
theorem dX7_tryOrders_137 : decode cX7_tryOrders 137 = .ok (.return_, 1) := by decide +kernel
set_option maxRecDepth 100000 in
theorem dAX7_trySlips_0 : decode cX7_trySlips 0 = .ok (.aload_n 0, 1) ∧ decode cX7_trySlips 1 = .ok (.lconst 0, 1) ∧ decode cX7_trySlips 2 = .ok (.putfield 398, 3) ∧ decode cX7_trySlips 5 = .ok (.aload_n 0, 1) ∧ decode cX7_trySlips 6 = .ok (.lconst 0, 1) ∧ decode cX7_trySlips 7 = .ok (.putfield 402, 3) ∧ decode cX7_trySlips 10 = .ok (.aload_n 0, 1) ∧ decode cX7_trySlips 11 = .ok (.lconst 0, 1) := by decide +kernel
theorem dX7_trySlips_0 : decode cX7_trySlips 0 = .ok (.aload_n 0, 1) := dAX7_trySlips_0.1
theorem dX7_trySlips_1 : decode cX7_trySlips 1 = .ok (.lconst 0, 1) := dAX7_trySlips_0.2.1
theorem dX7_trySlips_2 : decode cX7_trySlips 2 = .ok (.putfield 398, 3) := dAX7_trySlips_0.2.2.1
theorem dX7_trySlips_5 : decode cX7_trySlips 5 = .ok (.aload_n 0, 1) := dAX7_trySlips_0.2.2.2.1
theorem dX7_trySlips_6 : decode cX7_trySlips 6 = .ok (.lconst 0, 1) := dAX7_trySlips_0.2.2.2.2.1
theorem dX7_trySlips_7 : decode cX7_trySlips 7 = .ok (.putfield 402, 3) := dAX7_trySlips_0.2.2.2.2.2.1
theorem dX7_trySlips_10 : decode cX7_trySlips 10 = .ok (.aload_n 0, 1) := dAX7_trySlips_0.2.2.2.2.2.2.1
theorem dX7_trySlips_11 : decode cX7_trySlips 11 = .ok (.lconst 0, 1) := dAX7_trySlips_0.2.2.2.2.2.2.2
set_option maxRecDepth 100000 in
theorem dAX7_trySlips_1 : decode cX7_trySlips 12 = .ok (.putfield 405, 3) ∧ decode cX7_trySlips 15 = .ok (.iconst 0, 1) ∧ decode cX7_trySlips 16 = .ok (.istore_n 2, 1) ∧ decode cX7_trySlips 17 = .ok (.iload_n 2, 1) ∧ decode cX7_trySlips 18 = .ok (.iconst 1, 1) ∧ decode cX7_trySlips 19 = .ok (.aload_n 0, 1) ∧ decode cX7_trySlips 20 = .ok (.getfield 20, 3) ∧ decode cX7_trySlips 23 = .ok (.iconst 3, 1) := by decide +kernel
theorem dX7_trySlips_12 : decode cX7_trySlips 12 = .ok (.putfield 405, 3) := dAX7_trySlips_1.1
theorem dX7_trySlips_15 : decode cX7_trySlips 15 = .ok (.iconst 0, 1) := dAX7_trySlips_1.2.1
theorem dX7_trySlips_16 : decode cX7_trySlips 16 = .ok (.istore_n 2, 1) := dAX7_trySlips_1.2.2.1
theorem dX7_trySlips_17 : decode cX7_trySlips 17 = .ok (.iload_n 2, 1) := dAX7_trySlips_1.2.2.2.1
theorem dX7_trySlips_18 : decode cX7_trySlips 18 = .ok (.iconst 1, 1) := dAX7_trySlips_1.2.2.2.2.1
theorem dX7_trySlips_19 : decode cX7_trySlips 19 = .ok (.aload_n 0, 1) := dAX7_trySlips_1.2.2.2.2.2.1
theorem dX7_trySlips_20 : decode cX7_trySlips 20 = .ok (.getfield 20, 3) := dAX7_trySlips_1.2.2.2.2.2.2.1
theorem dX7_trySlips_23 : decode cX7_trySlips 23 = .ok (.iconst 3, 1) := dAX7_trySlips_1.2.2.2.2.2.2.2
set_option maxRecDepth 100000 in
theorem dAX7_trySlips_2 : decode cX7_trySlips 24 = .ok (.iaload, 1) ∧ decode cX7_trySlips 25 = .ok (.ishl, 1) ∧ decode cX7_trySlips 26 = .ok (.if_icmp .ge 131, 3) ∧ decode cX7_trySlips 29 = .ok (.lconst 1, 1) ∧ decode cX7_trySlips 30 = .ok (.lstore_n 3, 1) ∧ decode cX7_trySlips 31 = .ok (.iconst 0, 1) ∧ decode cX7_trySlips 32 = .ok (.istore 5, 2) ∧ decode cX7_trySlips 34 = .ok (.iload 5, 2) := by decide +kernel
theorem dX7_trySlips_24 : decode cX7_trySlips 24 = .ok (.iaload, 1) := dAX7_trySlips_2.1
theorem dX7_trySlips_25 : decode cX7_trySlips 25 = .ok (.ishl, 1) := dAX7_trySlips_2.2.1
theorem dX7_trySlips_26 : decode cX7_trySlips 26 = .ok (.if_icmp .ge 131, 3) := dAX7_trySlips_2.2.2.1
theorem dX7_trySlips_29 : decode cX7_trySlips 29 = .ok (.lconst 1, 1) := dAX7_trySlips_2.2.2.2.1
theorem dX7_trySlips_30 : decode cX7_trySlips 30 = .ok (.lstore_n 3, 1) := dAX7_trySlips_2.2.2.2.2.1
theorem dX7_trySlips_31 : decode cX7_trySlips 31 = .ok (.iconst 0, 1) := dAX7_trySlips_2.2.2.2.2.2.1
theorem dX7_trySlips_32 : decode cX7_trySlips 32 = .ok (.istore 5, 2) := dAX7_trySlips_2.2.2.2.2.2.2.1
theorem dX7_trySlips_34 : decode cX7_trySlips 34 = .ok (.iload 5, 2) := dAX7_trySlips_2.2.2.2.2.2.2.2
set_option maxRecDepth 100000 in
theorem dAX7_trySlips_3 : decode cX7_trySlips 36 = .ok (.aload_n 0, 1) ∧ decode cX7_trySlips 37 = .ok (.getfield 20, 3) ∧ decode cX7_trySlips 40 = .ok (.iconst 3, 1) ∧ decode cX7_trySlips 41 = .ok (.iaload, 1) ∧ decode cX7_trySlips 42 = .ok (.if_icmp .ge 41, 3) ∧ decode cX7_trySlips 45 = .ok (.lload_n 3, 1) ∧ decode cX7_trySlips 46 = .ok (.iload_n 2, 1) ∧ decode cX7_trySlips 47 = .ok (.iload 5, 2) := by decide +kernel
theorem dX7_trySlips_36 : decode cX7_trySlips 36 = .ok (.aload_n 0, 1) := dAX7_trySlips_3.1
theorem dX7_trySlips_37 : decode cX7_trySlips 37 = .ok (.getfield 20, 3) := dAX7_trySlips_3.2.1
theorem dX7_trySlips_40 : decode cX7_trySlips 40 = .ok (.iconst 3, 1) := dAX7_trySlips_3.2.2.1
theorem dX7_trySlips_41 : decode cX7_trySlips 41 = .ok (.iaload, 1) := dAX7_trySlips_3.2.2.2.1
theorem dX7_trySlips_42 : decode cX7_trySlips 42 = .ok (.if_icmp .ge 41, 3) := dAX7_trySlips_3.2.2.2.2.1
theorem dX7_trySlips_45 : decode cX7_trySlips 45 = .ok (.lload_n 3, 1) := dAX7_trySlips_3.2.2.2.2.2.1
theorem dX7_trySlips_46 : decode cX7_trySlips 46 = .ok (.iload_n 2, 1) := dAX7_trySlips_3.2.2.2.2.2.2.1
theorem dX7_trySlips_47 : decode cX7_trySlips 47 = .ok (.iload 5, 2) := dAX7_trySlips_3.2.2.2.2.2.2.2
set_option maxRecDepth 100000 in
theorem dAX7_trySlips_4 : decode cX7_trySlips 49 = .ok (.invokestatic 320, 3) ∧ decode cX7_trySlips 52 = .ok (.ifCond .eq 13, 3) ∧ decode cX7_trySlips 55 = .ok (.aload_n 0, 1) ∧ decode cX7_trySlips 56 = .ok (.getfield 20, 3) ∧ decode cX7_trySlips 59 = .ok (.iconst 0, 1) ∧ decode cX7_trySlips 60 = .ok (.iaload, 1) ∧ decode cX7_trySlips 61 = .ok (.i2l, 1) ∧ decode cX7_trySlips 62 = .ok (.goto 13, 3) := by decide +kernel
theorem dX7_trySlips_49 : decode cX7_trySlips 49 = .ok (.invokestatic 320, 3) := dAX7_trySlips_4.1
theorem dX7_trySlips_52 : decode cX7_trySlips 52 = .ok (.ifCond .eq 13, 3) := dAX7_trySlips_4.2.1
theorem dX7_trySlips_55 : decode cX7_trySlips 55 = .ok (.aload_n 0, 1) := dAX7_trySlips_4.2.2.1
theorem dX7_trySlips_56 : decode cX7_trySlips 56 = .ok (.getfield 20, 3) := dAX7_trySlips_4.2.2.2.1
theorem dX7_trySlips_59 : decode cX7_trySlips 59 = .ok (.iconst 0, 1) := dAX7_trySlips_4.2.2.2.2.1
theorem dX7_trySlips_60 : decode cX7_trySlips 60 = .ok (.iaload, 1) := dAX7_trySlips_4.2.2.2.2.2.1
theorem dX7_trySlips_61 : decode cX7_trySlips 61 = .ok (.i2l, 1) := dAX7_trySlips_4.2.2.2.2.2.2.1
theorem dX7_trySlips_62 : decode cX7_trySlips 62 = .ok (.goto 13, 3) := dAX7_trySlips_4.2.2.2.2.2.2.2
set_option maxRecDepth 100000 in
theorem dAX7_trySlips_5 : decode cX7_trySlips 65 = .ok (.bipush 100, 2) ∧ decode cX7_trySlips 67 = .ok (.aload_n 0, 1) ∧ decode cX7_trySlips 68 = .ok (.getfield 20, 3) ∧ decode cX7_trySlips 71 = .ok (.iconst 0, 1) ∧ decode cX7_trySlips 72 = .ok (.iaload, 1) ∧ decode cX7_trySlips 73 = .ok (.isub, 1) ∧ decode cX7_trySlips 74 = .ok (.i2l, 1) ∧ decode cX7_trySlips 75 = .ok (.lmul, 1) := by decide +kernel
theorem dX7_trySlips_65 : decode cX7_trySlips 65 = .ok (.bipush 100, 2) := dAX7_trySlips_5.1
theorem dX7_trySlips_67 : decode cX7_trySlips 67 = .ok (.aload_n 0, 1) := dAX7_trySlips_5.2.1
theorem dX7_trySlips_68 : decode cX7_trySlips 68 = .ok (.getfield 20, 3) := dAX7_trySlips_5.2.2.1
theorem dX7_trySlips_71 : decode cX7_trySlips 71 = .ok (.iconst 0, 1) := dAX7_trySlips_5.2.2.2.1
theorem dX7_trySlips_72 : decode cX7_trySlips 72 = .ok (.iaload, 1) := dAX7_trySlips_5.2.2.2.2.1
theorem dX7_trySlips_73 : decode cX7_trySlips 73 = .ok (.isub, 1) := dAX7_trySlips_5.2.2.2.2.2.1
theorem dX7_trySlips_74 : decode cX7_trySlips 74 = .ok (.i2l, 1) := dAX7_trySlips_5.2.2.2.2.2.2.1
theorem dX7_trySlips_75 : decode cX7_trySlips 75 = .ok (.lmul, 1) := dAX7_trySlips_5.2.2.2.2.2.2.2
set_option maxRecDepth 100000 in
theorem dAX7_trySlips_6 : decode cX7_trySlips 76 = .ok (.lstore_n 3, 1) ∧ decode cX7_trySlips 77 = .ok (.iinc 5 1, 3) ∧ decode cX7_trySlips 80 = .ok (.goto (-46), 3) ∧ decode cX7_trySlips 83 = .ok (.aload_n 0, 1) ∧ decode cX7_trySlips 84 = .ok (.aload_n 0, 1) ∧ decode cX7_trySlips 85 = .ok (.getfield 32, 3) ∧ decode cX7_trySlips 88 = .ok (.iload_n 2, 1) ∧ decode cX7_trySlips 89 = .ok (.invokevirtual 373, 3) := by decide +kernel
theorem dX7_trySlips_76 : decode cX7_trySlips 76 = .ok (.lstore_n 3, 1) := dAX7_trySlips_6.1
theorem dX7_trySlips_77 : decode cX7_trySlips 77 = .ok (.iinc 5 1, 3) := dAX7_trySlips_6.2.1
theorem dX7_trySlips_80 : decode cX7_trySlips 80 = .ok (.goto (-46), 3) := dAX7_trySlips_6.2.2.1
theorem dX7_trySlips_83 : decode cX7_trySlips 83 = .ok (.aload_n 0, 1) := dAX7_trySlips_6.2.2.2.1
theorem dX7_trySlips_84 : decode cX7_trySlips 84 = .ok (.aload_n 0, 1) := dAX7_trySlips_6.2.2.2.2.1
theorem dX7_trySlips_85 : decode cX7_trySlips 85 = .ok (.getfield 32, 3) := dAX7_trySlips_6.2.2.2.2.2.1
theorem dX7_trySlips_88 : decode cX7_trySlips 88 = .ok (.iload_n 2, 1) := dAX7_trySlips_6.2.2.2.2.2.2.1
theorem dX7_trySlips_89 : decode cX7_trySlips 89 = .ok (.invokevirtual 373, 3) := dAX7_trySlips_6.2.2.2.2.2.2.2
set_option maxRecDepth 100000 in
theorem dAX7_trySlips_7 : decode cX7_trySlips 92 = .ok (.aload_n 0, 1) ∧ decode cX7_trySlips 93 = .ok (.aload_n 0, 1) ∧ decode cX7_trySlips 94 = .ok (.getfield 56, 3) ∧ decode cX7_trySlips 97 = .ok (.invokevirtual 323, 3) ∧ decode cX7_trySlips 100 = .ok (.istore 5, 2) ∧ decode cX7_trySlips 102 = .ok (.aload_n 0, 1) ∧ decode cX7_trySlips 103 = .ok (.dup, 1) ∧ decode cX7_trySlips 104 = .ok (.getfield 398, 3) := by decide +kernel
theorem dX7_trySlips_92 : decode cX7_trySlips 92 = .ok (.aload_n 0, 1) := dAX7_trySlips_7.1
theorem dX7_trySlips_93 : decode cX7_trySlips 93 = .ok (.aload_n 0, 1) := dAX7_trySlips_7.2.1
theorem dX7_trySlips_94 : decode cX7_trySlips 94 = .ok (.getfield 56, 3) := dAX7_trySlips_7.2.2.1
theorem dX7_trySlips_97 : decode cX7_trySlips 97 = .ok (.invokevirtual 323, 3) := dAX7_trySlips_7.2.2.2.1
theorem dX7_trySlips_100 : decode cX7_trySlips 100 = .ok (.istore 5, 2) := dAX7_trySlips_7.2.2.2.2.1
theorem dX7_trySlips_102 : decode cX7_trySlips 102 = .ok (.aload_n 0, 1) := dAX7_trySlips_7.2.2.2.2.2.1
theorem dX7_trySlips_103 : decode cX7_trySlips 103 = .ok (.dup, 1) := dAX7_trySlips_7.2.2.2.2.2.2.1
theorem dX7_trySlips_104 : decode cX7_trySlips 104 = .ok (.getfield 398, 3) := dAX7_trySlips_7.2.2.2.2.2.2.2
set_option maxRecDepth 100000 in
theorem dAX7_trySlips_8 : decode cX7_trySlips 107 = .ok (.lload_n 3, 1) ∧ decode cX7_trySlips 108 = .ok (.ladd, 1) ∧ decode cX7_trySlips 109 = .ok (.putfield 398, 3) ∧ decode cX7_trySlips 112 = .ok (.aload_n 0, 1) ∧ decode cX7_trySlips 113 = .ok (.dup, 1) ∧ decode cX7_trySlips 114 = .ok (.getfield 402, 3) ∧ decode cX7_trySlips 117 = .ok (.iload 5, 2) ∧ decode cX7_trySlips 119 = .ok (.iload_n 1, 1) := by decide +kernel
theorem dX7_trySlips_107 : decode cX7_trySlips 107 = .ok (.lload_n 3, 1) := dAX7_trySlips_8.1
theorem dX7_trySlips_108 : decode cX7_trySlips 108 = .ok (.ladd, 1) := dAX7_trySlips_8.2.1
theorem dX7_trySlips_109 : decode cX7_trySlips 109 = .ok (.putfield 398, 3) := dAX7_trySlips_8.2.2.1
theorem dX7_trySlips_112 : decode cX7_trySlips 112 = .ok (.aload_n 0, 1) := dAX7_trySlips_8.2.2.2.1
theorem dX7_trySlips_113 : decode cX7_trySlips 113 = .ok (.dup, 1) := dAX7_trySlips_8.2.2.2.2.1
theorem dX7_trySlips_114 : decode cX7_trySlips 114 = .ok (.getfield 402, 3) := dAX7_trySlips_8.2.2.2.2.2.1
theorem dX7_trySlips_117 : decode cX7_trySlips 117 = .ok (.iload 5, 2) := dAX7_trySlips_8.2.2.2.2.2.2.1
theorem dX7_trySlips_119 : decode cX7_trySlips 119 = .ok (.iload_n 1, 1) := dAX7_trySlips_8.2.2.2.2.2.2.2
set_option maxRecDepth 100000 in
theorem dAX7_trySlips_9 : decode cX7_trySlips 120 = .ok (.aload_n 0, 1) ∧ decode cX7_trySlips 121 = .ok (.getfield 44, 3) ∧ decode cX7_trySlips 124 = .ok (.imul, 1) ∧ decode cX7_trySlips 125 = .ok (.if_icmp .lt 7, 3) ∧ decode cX7_trySlips 128 = .ok (.lload_n 3, 1) ∧ decode cX7_trySlips 129 = .ok (.goto 4, 3) ∧ decode cX7_trySlips 132 = .ok (.lconst 0, 1) ∧ decode cX7_trySlips 133 = .ok (.ladd, 1) := by decide +kernel
theorem dX7_trySlips_120 : decode cX7_trySlips 120 = .ok (.aload_n 0, 1) := dAX7_trySlips_9.1
theorem dX7_trySlips_121 : decode cX7_trySlips 121 = .ok (.getfield 44, 3) := dAX7_trySlips_9.2.1
theorem dX7_trySlips_124 : decode cX7_trySlips 124 = .ok (.imul, 1) := dAX7_trySlips_9.2.2.1
theorem dX7_trySlips_125 : decode cX7_trySlips 125 = .ok (.if_icmp .lt 7, 3) := dAX7_trySlips_9.2.2.2.1
theorem dX7_trySlips_128 : decode cX7_trySlips 128 = .ok (.lload_n 3, 1) := dAX7_trySlips_9.2.2.2.2.1
theorem dX7_trySlips_129 : decode cX7_trySlips 129 = .ok (.goto 4, 3) := dAX7_trySlips_9.2.2.2.2.2.1
theorem dX7_trySlips_132 : decode cX7_trySlips 132 = .ok (.lconst 0, 1) := dAX7_trySlips_9.2.2.2.2.2.2.1
theorem dX7_trySlips_133 : decode cX7_trySlips 133 = .ok (.ladd, 1) := dAX7_trySlips_9.2.2.2.2.2.2.2
set_option maxRecDepth 100000 in
theorem dAX7_trySlips_10 : decode cX7_trySlips 134 = .ok (.putfield 402, 3) ∧ decode cX7_trySlips 137 = .ok (.aload_n 0, 1) ∧ decode cX7_trySlips 138 = .ok (.dup, 1) ∧ decode cX7_trySlips 139 = .ok (.getfield 405, 3) ∧ decode cX7_trySlips 142 = .ok (.lload_n 3, 1) ∧ decode cX7_trySlips 143 = .ok (.iload 5, 2) ∧ decode cX7_trySlips 145 = .ok (.i2l, 1) ∧ decode cX7_trySlips 146 = .ok (.lmul, 1) := by decide +kernel
theorem dX7_trySlips_134 : decode cX7_trySlips 134 = .ok (.putfield 402, 3) := dAX7_trySlips_10.1
theorem dX7_trySlips_137 : decode cX7_trySlips 137 = .ok (.aload_n 0, 1) := dAX7_trySlips_10.2.1
theorem dX7_trySlips_138 : decode cX7_trySlips 138 = .ok (.dup, 1) := dAX7_trySlips_10.2.2.1
theorem dX7_trySlips_139 : decode cX7_trySlips 139 = .ok (.getfield 405, 3) := dAX7_trySlips_10.2.2.2.1
theorem dX7_trySlips_142 : decode cX7_trySlips 142 = .ok (.lload_n 3, 1) := dAX7_trySlips_10.2.2.2.2.1
theorem dX7_trySlips_143 : decode cX7_trySlips 143 = .ok (.iload 5, 2) := dAX7_trySlips_10.2.2.2.2.2.1
theorem dX7_trySlips_145 : decode cX7_trySlips 145 = .ok (.i2l, 1) := dAX7_trySlips_10.2.2.2.2.2.2.1
theorem dX7_trySlips_146 : decode cX7_trySlips 146 = .ok (.lmul, 1) := dAX7_trySlips_10.2.2.2.2.2.2.2
set_option maxRecDepth 100000 in
theorem dAX7_trySlips_11 : decode cX7_trySlips 147 = .ok (.ladd, 1) ∧ decode cX7_trySlips 148 = .ok (.putfield 405, 3) ∧ decode cX7_trySlips 151 = .ok (.iinc 2 1, 3) ∧ decode cX7_trySlips 154 = .ok (.goto (-137), 3) ∧ decode cX7_trySlips 157 = .ok (.return_, 1) := by decide +kernel
theorem dX7_trySlips_147 : decode cX7_trySlips 147 = .ok (.ladd, 1) := dAX7_trySlips_11.1
theorem dX7_trySlips_148 : decode cX7_trySlips 148 = .ok (.putfield 405, 3) := dAX7_trySlips_11.2.1
theorem dX7_trySlips_151 : decode cX7_trySlips 151 = .ok (.iinc 2 1, 3) := dAX7_trySlips_11.2.2.1
theorem dX7_trySlips_154 : decode cX7_trySlips 154 = .ok (.goto (-137), 3) := dAX7_trySlips_11.2.2.2.1
theorem dX7_trySlips_157 : decode cX7_trySlips 157 = .ok (.return_, 1) := dAX7_trySlips_11.2.2.2.2
set_option maxRecDepth 100000 in
theorem dAX7_turn_0 : decode cX7_turn 0 = .ok (.aload_n 0, 1) ∧ decode cX7_turn 1 = .ok (.invokevirtual 175, 3) ∧ decode cX7_turn 4 = .ok (.aload_n 0, 1) ∧ decode cX7_turn 5 = .ok (.iload_n 1, 1) ∧ decode cX7_turn 6 = .ok (.invokevirtual 367, 3) ∧ decode cX7_turn 9 = .ok (.ifCond .eq 11, 3) ∧ decode cX7_turn 12 = .ok (.aload_n 0, 1) ∧ decode cX7_turn 13 = .ok (.iload_n 1, 1) := by decide +kernel
theorem dX7_turn_0 : decode cX7_turn 0 = .ok (.aload_n 0, 1) := dAX7_turn_0.1
theorem dX7_turn_1 : decode cX7_turn 1 = .ok (.invokevirtual 175, 3) := dAX7_turn_0.2.1
theorem dX7_turn_4 : decode cX7_turn 4 = .ok (.aload_n 0, 1) := dAX7_turn_0.2.2.1
theorem dX7_turn_5 : decode cX7_turn 5 = .ok (.iload_n 1, 1) := dAX7_turn_0.2.2.2.1
theorem dX7_turn_6 : decode cX7_turn 6 = .ok (.invokevirtual 367, 3) := dAX7_turn_0.2.2.2.2.1
theorem dX7_turn_9 : decode cX7_turn 9 = .ok (.ifCond .eq 11, 3) := dAX7_turn_0.2.2.2.2.2.1
theorem dX7_turn_12 : decode cX7_turn 12 = .ok (.aload_n 0, 1) := dAX7_turn_0.2.2.2.2.2.2.1
theorem dX7_turn_13 : decode cX7_turn 13 = .ok (.iload_n 1, 1) := dAX7_turn_0.2.2.2.2.2.2.2
set_option maxRecDepth 100000 in
theorem dAX7_turn_1 : decode cX7_turn 14 = .ok (.invokevirtual 370, 3) ∧ decode cX7_turn 17 = .ok (.goto 8, 3) ∧ decode cX7_turn 20 = .ok (.aload_n 0, 1) ∧ decode cX7_turn 21 = .ok (.iconst 1, 1) ∧ decode cX7_turn 22 = .ok (.invokevirtual 178, 3) ∧ decode cX7_turn 25 = .ok (.ireturn, 1) := by decide +kernel
theorem dX7_turn_14 : decode cX7_turn 14 = .ok (.invokevirtual 370, 3) := dAX7_turn_1.1
theorem dX7_turn_17 : decode cX7_turn 17 = .ok (.goto 8, 3) := dAX7_turn_1.2.1
theorem dX7_turn_20 : decode cX7_turn 20 = .ok (.aload_n 0, 1) := dAX7_turn_1.2.2.1
theorem dX7_turn_21 : decode cX7_turn 21 = .ok (.iconst 1, 1) := dAX7_turn_1.2.2.2.1
theorem dX7_turn_22 : decode cX7_turn 22 = .ok (.invokevirtual 178, 3) := dAX7_turn_1.2.2.2.2.1
theorem dX7_turn_25 : decode cX7_turn 25 = .ok (.ireturn, 1) := dAX7_turn_1.2.2.2.2.2
set_option maxRecDepth 100000 in
theorem dAX7_turnOf_0 : decode cX7_turnOf 0 = .ok (.aload_n 0, 1) ∧ decode cX7_turnOf 1 = .ok (.getfield 32, 3) ∧ decode cX7_turnOf 4 = .ok (.iconst 0, 1) ∧ decode cX7_turnOf 5 = .ok (.aload_n 0, 1) ∧ decode cX7_turnOf 6 = .ok (.getfield 56, 3) ∧ decode cX7_turnOf 9 = .ok (.iconst 0, 1) ∧ decode cX7_turnOf 10 = .ok (.bipush 90, 2) ∧ decode cX7_turnOf 12 = .ok (.invokestatic 156, 3) := by decide +kernel
theorem dX7_turnOf_0 : decode cX7_turnOf 0 = .ok (.aload_n 0, 1) := dAX7_turnOf_0.1
theorem dX7_turnOf_1 : decode cX7_turnOf 1 = .ok (.getfield 32, 3) := dAX7_turnOf_0.2.1
theorem dX7_turnOf_4 : decode cX7_turnOf 4 = .ok (.iconst 0, 1) := dAX7_turnOf_0.2.2.1
theorem dX7_turnOf_5 : decode cX7_turnOf 5 = .ok (.aload_n 0, 1) := dAX7_turnOf_0.2.2.2.1
theorem dX7_turnOf_6 : decode cX7_turnOf 6 = .ok (.getfield 56, 3) := dAX7_turnOf_0.2.2.2.2.1
theorem dX7_turnOf_9 : decode cX7_turnOf 9 = .ok (.iconst 0, 1) := dAX7_turnOf_0.2.2.2.2.2.1
theorem dX7_turnOf_10 : decode cX7_turnOf 10 = .ok (.bipush 90, 2) := dAX7_turnOf_0.2.2.2.2.2.2.1
theorem dX7_turnOf_12 : decode cX7_turnOf 12 = .ok (.invokestatic 156, 3) := dAX7_turnOf_0.2.2.2.2.2.2.2
set_option maxRecDepth 100000 in
theorem dAX7_turnOf_1 : decode cX7_turnOf 15 = .ok (.aload_n 0, 1) ∧ decode cX7_turnOf 16 = .ok (.aload_n 0, 1) ∧ decode cX7_turnOf 17 = .ok (.getfield 32, 3) ∧ decode cX7_turnOf 20 = .ok (.invokevirtual 323, 3) ∧ decode cX7_turnOf 23 = .ok (.istore_n 2, 1) ∧ decode cX7_turnOf 24 = .ok (.iconst 1, 1) ∧ decode cX7_turnOf 25 = .ok (.istore_n 3, 1) ∧ decode cX7_turnOf 26 = .ok (.iload_n 3, 1) := by decide +kernel
theorem dX7_turnOf_15 : decode cX7_turnOf 15 = .ok (.aload_n 0, 1) := dAX7_turnOf_1.1
theorem dX7_turnOf_16 : decode cX7_turnOf 16 = .ok (.aload_n 0, 1) := dAX7_turnOf_1.2.1
theorem dX7_turnOf_17 : decode cX7_turnOf 17 = .ok (.getfield 32, 3) := dAX7_turnOf_1.2.2.1
theorem dX7_turnOf_20 : decode cX7_turnOf 20 = .ok (.invokevirtual 323, 3) := dAX7_turnOf_1.2.2.2.1
theorem dX7_turnOf_23 : decode cX7_turnOf 23 = .ok (.istore_n 2, 1) := dAX7_turnOf_1.2.2.2.2.1
theorem dX7_turnOf_24 : decode cX7_turnOf 24 = .ok (.iconst 1, 1) := dAX7_turnOf_1.2.2.2.2.2.1
theorem dX7_turnOf_25 : decode cX7_turnOf 25 = .ok (.istore_n 3, 1) := dAX7_turnOf_1.2.2.2.2.2.2.1
theorem dX7_turnOf_26 : decode cX7_turnOf 26 = .ok (.iload_n 3, 1) := dAX7_turnOf_1.2.2.2.2.2.2.2
set_option maxRecDepth 100000 in
theorem dAX7_turnOf_2 : decode cX7_turnOf 27 = .ok (.bipush 100, 2) ∧ decode cX7_turnOf 29 = .ok (.if_icmp .ge 79, 3) ∧ decode cX7_turnOf 32 = .ok (.iconst (-1), 1) ∧ decode cX7_turnOf 33 = .ok (.istore 4, 2) ∧ decode cX7_turnOf 35 = .ok (.iload 4, 2) ∧ decode cX7_turnOf 37 = .ok (.iconst 2, 1) ∧ decode cX7_turnOf 38 = .ok (.if_icmp .ge 64, 3) ∧ decode cX7_turnOf 41 = .ok (.aload_n 0, 1) := by decide +kernel
theorem dX7_turnOf_27 : decode cX7_turnOf 27 = .ok (.bipush 100, 2) := dAX7_turnOf_2.1
theorem dX7_turnOf_29 : decode cX7_turnOf 29 = .ok (.if_icmp .ge 79, 3) := dAX7_turnOf_2.2.1
theorem dX7_turnOf_32 : decode cX7_turnOf 32 = .ok (.iconst (-1), 1) := dAX7_turnOf_2.2.2.1
theorem dX7_turnOf_33 : decode cX7_turnOf 33 = .ok (.istore 4, 2) := dAX7_turnOf_2.2.2.2.1
theorem dX7_turnOf_35 : decode cX7_turnOf 35 = .ok (.iload 4, 2) := dAX7_turnOf_2.2.2.2.2.1
theorem dX7_turnOf_37 : decode cX7_turnOf 37 = .ok (.iconst 2, 1) := dAX7_turnOf_2.2.2.2.2.2.1
theorem dX7_turnOf_38 : decode cX7_turnOf 38 = .ok (.if_icmp .ge 64, 3) := dAX7_turnOf_2.2.2.2.2.2.2.1
theorem dX7_turnOf_41 : decode cX7_turnOf 41 = .ok (.aload_n 0, 1) := dAX7_turnOf_2.2.2.2.2.2.2.2
set_option maxRecDepth 100000 in
theorem dAX7_turnOf_3 : decode cX7_turnOf 42 = .ok (.getfield 56, 3) ∧ decode cX7_turnOf 45 = .ok (.bipush 72, 2) ∧ decode cX7_turnOf 47 = .ok (.iload_n 1, 1) ∧ decode cX7_turnOf 48 = .ok (.iadd, 1) ∧ decode cX7_turnOf 49 = .ok (.aload_n 0, 1) ∧ decode cX7_turnOf 50 = .ok (.getfield 32, 3) ∧ decode cX7_turnOf 53 = .ok (.bipush 72, 2) ∧ decode cX7_turnOf 55 = .ok (.iload_n 1, 1) := by decide +kernel
theorem dX7_turnOf_42 : decode cX7_turnOf 42 = .ok (.getfield 56, 3) := dAX7_turnOf_3.1
theorem dX7_turnOf_45 : decode cX7_turnOf 45 = .ok (.bipush 72, 2) := dAX7_turnOf_3.2.1
theorem dX7_turnOf_47 : decode cX7_turnOf 47 = .ok (.iload_n 1, 1) := dAX7_turnOf_3.2.2.1
theorem dX7_turnOf_48 : decode cX7_turnOf 48 = .ok (.iadd, 1) := dAX7_turnOf_3.2.2.2.1
theorem dX7_turnOf_49 : decode cX7_turnOf 49 = .ok (.aload_n 0, 1) := dAX7_turnOf_3.2.2.2.2.1
theorem dX7_turnOf_50 : decode cX7_turnOf 50 = .ok (.getfield 32, 3) := dAX7_turnOf_3.2.2.2.2.2.1
theorem dX7_turnOf_53 : decode cX7_turnOf 53 = .ok (.bipush 72, 2) := dAX7_turnOf_3.2.2.2.2.2.2.1
theorem dX7_turnOf_55 : decode cX7_turnOf 55 = .ok (.iload_n 1, 1) := dAX7_turnOf_3.2.2.2.2.2.2.2
set_option maxRecDepth 100000 in
theorem dAX7_turnOf_4 : decode cX7_turnOf 56 = .ok (.iadd, 1) ∧ decode cX7_turnOf 57 = .ok (.iaload, 1) ∧ decode cX7_turnOf 58 = .ok (.iload 4, 2) ∧ decode cX7_turnOf 60 = .ok (.iload_n 3, 1) ∧ decode cX7_turnOf 61 = .ok (.imul, 1) ∧ decode cX7_turnOf 62 = .ok (.iadd, 1) ∧ decode cX7_turnOf 63 = .ok (.iastore, 1) ∧ decode cX7_turnOf 64 = .ok (.aload_n 0, 1) := by decide +kernel
theorem dX7_turnOf_56 : decode cX7_turnOf 56 = .ok (.iadd, 1) := dAX7_turnOf_4.1
theorem dX7_turnOf_57 : decode cX7_turnOf 57 = .ok (.iaload, 1) := dAX7_turnOf_4.2.1
theorem dX7_turnOf_58 : decode cX7_turnOf 58 = .ok (.iload 4, 2) := dAX7_turnOf_4.2.2.1
theorem dX7_turnOf_60 : decode cX7_turnOf 60 = .ok (.iload_n 3, 1) := dAX7_turnOf_4.2.2.2.1
theorem dX7_turnOf_61 : decode cX7_turnOf 61 = .ok (.imul, 1) := dAX7_turnOf_4.2.2.2.2.1
theorem dX7_turnOf_62 : decode cX7_turnOf 62 = .ok (.iadd, 1) := dAX7_turnOf_4.2.2.2.2.2.1
theorem dX7_turnOf_63 : decode cX7_turnOf 63 = .ok (.iastore, 1) := dAX7_turnOf_4.2.2.2.2.2.2.1
theorem dX7_turnOf_64 : decode cX7_turnOf 64 = .ok (.aload_n 0, 1) := dAX7_turnOf_4.2.2.2.2.2.2.2
set_option maxRecDepth 100000 in
theorem dAX7_turnOf_5 : decode cX7_turnOf 65 = .ok (.getfield 56, 3) ∧ decode cX7_turnOf 68 = .ok (.bipush 72, 2) ∧ decode cX7_turnOf 70 = .ok (.iload_n 1, 1) ∧ decode cX7_turnOf 71 = .ok (.iadd, 1) ∧ decode cX7_turnOf 72 = .ok (.iaload, 1) ∧ decode cX7_turnOf 73 = .ok (.iconst 0, 1) ∧ decode cX7_turnOf 74 = .ok (.bipush 99, 2) ∧ decode cX7_turnOf 76 = .ok (.invokestatic 163, 3) := by decide +kernel
theorem dX7_turnOf_65 : decode cX7_turnOf 65 = .ok (.getfield 56, 3) := dAX7_turnOf_5.1
theorem dX7_turnOf_68 : decode cX7_turnOf 68 = .ok (.bipush 72, 2) := dAX7_turnOf_5.2.1
theorem dX7_turnOf_70 : decode cX7_turnOf 70 = .ok (.iload_n 1, 1) := dAX7_turnOf_5.2.2.1
theorem dX7_turnOf_71 : decode cX7_turnOf 71 = .ok (.iadd, 1) := dAX7_turnOf_5.2.2.2.1
theorem dX7_turnOf_72 : decode cX7_turnOf 72 = .ok (.iaload, 1) := dAX7_turnOf_5.2.2.2.2.1
theorem dX7_turnOf_73 : decode cX7_turnOf 73 = .ok (.iconst 0, 1) := dAX7_turnOf_5.2.2.2.2.2.1
theorem dX7_turnOf_74 : decode cX7_turnOf 74 = .ok (.bipush 99, 2) := dAX7_turnOf_5.2.2.2.2.2.2.1
theorem dX7_turnOf_76 : decode cX7_turnOf 76 = .ok (.invokestatic 163, 3) := dAX7_turnOf_5.2.2.2.2.2.2.2
set_option maxRecDepth 100000 in
theorem dAX7_turnOf_6 : decode cX7_turnOf 79 = .ok (.ifCond .eq 17, 3) ∧ decode cX7_turnOf 82 = .ok (.aload_n 0, 1) ∧ decode cX7_turnOf 83 = .ok (.aload_n 0, 1) ∧ decode cX7_turnOf 84 = .ok (.getfield 56, 3) ∧ decode cX7_turnOf 87 = .ok (.invokevirtual 323, 3) ∧ decode cX7_turnOf 90 = .ok (.iload_n 2, 1) ∧ decode cX7_turnOf 91 = .ok (.if_icmp .eq 5, 3) ∧ decode cX7_turnOf 94 = .ok (.iload_n 3, 1) := by decide +kernel
theorem dX7_turnOf_79 : decode cX7_turnOf 79 = .ok (.ifCond .eq 17, 3) := dAX7_turnOf_6.1
theorem dX7_turnOf_82 : decode cX7_turnOf 82 = .ok (.aload_n 0, 1) := dAX7_turnOf_6.2.1
theorem dX7_turnOf_83 : decode cX7_turnOf 83 = .ok (.aload_n 0, 1) := dAX7_turnOf_6.2.2.1
theorem dX7_turnOf_84 : decode cX7_turnOf 84 = .ok (.getfield 56, 3) := dAX7_turnOf_6.2.2.2.1
theorem dX7_turnOf_87 : decode cX7_turnOf 87 = .ok (.invokevirtual 323, 3) := dAX7_turnOf_6.2.2.2.2.1
theorem dX7_turnOf_90 : decode cX7_turnOf 90 = .ok (.iload_n 2, 1) := dAX7_turnOf_6.2.2.2.2.2.1
theorem dX7_turnOf_91 : decode cX7_turnOf 91 = .ok (.if_icmp .eq 5, 3) := dAX7_turnOf_6.2.2.2.2.2.2.1
theorem dX7_turnOf_94 : decode cX7_turnOf 94 = .ok (.iload_n 3, 1) := dAX7_turnOf_6.2.2.2.2.2.2.2
set_option maxRecDepth 100000 in
theorem dAX7_turnOf_7 : decode cX7_turnOf 95 = .ok (.ireturn, 1) ∧ decode cX7_turnOf 96 = .ok (.iinc 4 2, 3) ∧ decode cX7_turnOf 99 = .ok (.goto (-64), 3) ∧ decode cX7_turnOf 102 = .ok (.iinc 3 1, 3) ∧ decode cX7_turnOf 105 = .ok (.goto (-79), 3) ∧ decode cX7_turnOf 108 = .ok (.bipush (-2), 2) ∧ decode cX7_turnOf 110 = .ok (.ireturn, 1) := by decide +kernel
theorem dX7_turnOf_95 : decode cX7_turnOf 95 = .ok (.ireturn, 1) := dAX7_turnOf_7.1
theorem dX7_turnOf_96 : decode cX7_turnOf 96 = .ok (.iinc 4 2, 3) := dAX7_turnOf_7.2.1
theorem dX7_turnOf_99 : decode cX7_turnOf 99 = .ok (.goto (-64), 3) := dAX7_turnOf_7.2.2.1
theorem dX7_turnOf_102 : decode cX7_turnOf 102 = .ok (.iinc 3 1, 3) := dAX7_turnOf_7.2.2.2.1
theorem dX7_turnOf_105 : decode cX7_turnOf 105 = .ok (.goto (-79), 3) := dAX7_turnOf_7.2.2.2.2.1
theorem dX7_turnOf_108 : decode cX7_turnOf 108 = .ok (.bipush (-2), 2) := dAX7_turnOf_7.2.2.2.2.2.1
theorem dX7_turnOf_110 : decode cX7_turnOf 110 = .ok (.ireturn, 1) := dAX7_turnOf_7.2.2.2.2.2.2
set_option maxRecDepth 100000 in
theorem dAX7_undo_0 : decode cX7_undo 0 = .ok (.aload_n 0, 1) ∧ decode cX7_undo 1 = .ok (.invokevirtual 175, 3) ∧ decode cX7_undo 4 = .ok (.aload_n 0, 1) ∧ decode cX7_undo 5 = .ok (.getfield 190, 3) ∧ decode cX7_undo 8 = .ok (.ifCond .ne 10, 3) ∧ decode cX7_undo 11 = .ok (.aload_n 0, 1) ∧ decode cX7_undo 12 = .ok (.bipush 6, 2) ∧ decode cX7_undo 14 = .ok (.invokevirtual 429, 3) := by decide +kernel
theorem dX7_undo_0 : decode cX7_undo 0 = .ok (.aload_n 0, 1) := dAX7_undo_0.1
theorem dX7_undo_1 : decode cX7_undo 1 = .ok (.invokevirtual 175, 3) := dAX7_undo_0.2.1
theorem dX7_undo_4 : decode cX7_undo 4 = .ok (.aload_n 0, 1) := dAX7_undo_0.2.2.1
theorem dX7_undo_5 : decode cX7_undo 5 = .ok (.getfield 190, 3) := dAX7_undo_0.2.2.2.1
theorem dX7_undo_8 : decode cX7_undo 8 = .ok (.ifCond .ne 10, 3) := dAX7_undo_0.2.2.2.2.1
theorem dX7_undo_11 : decode cX7_undo 11 = .ok (.aload_n 0, 1) := dAX7_undo_0.2.2.2.2.2.1
theorem dX7_undo_12 : decode cX7_undo 12 = .ok (.bipush 6, 2) := dAX7_undo_0.2.2.2.2.2.2.1
theorem dX7_undo_14 : decode cX7_undo 14 = .ok (.invokevirtual 429, 3) := dAX7_undo_0.2.2.2.2.2.2.2
set_option maxRecDepth 100000 in
theorem dAX7_undo_1 : decode cX7_undo 17 = .ok (.ireturn, 1) ∧ decode cX7_undo 18 = .ok (.aload_n 0, 1) ∧ decode cX7_undo 19 = .ok (.dup, 1) ∧ decode cX7_undo 20 = .ok (.getfield 190, 3) ∧ decode cX7_undo 23 = .ok (.iconst 1, 1) ∧ decode cX7_undo 24 = .ok (.isub, 1) ∧ decode cX7_undo 25 = .ok (.putfield 190, 3) ∧ decode cX7_undo 28 = .ok (.aload_n 0, 1) := by decide +kernel
theorem dX7_undo_17 : decode cX7_undo 17 = .ok (.ireturn, 1) := dAX7_undo_1.1
theorem dX7_undo_18 : decode cX7_undo 18 = .ok (.aload_n 0, 1) := dAX7_undo_1.2.1
theorem dX7_undo_19 : decode cX7_undo 19 = .ok (.dup, 1) := dAX7_undo_1.2.2.1
theorem dX7_undo_20 : decode cX7_undo 20 = .ok (.getfield 190, 3) := dAX7_undo_1.2.2.2.1
theorem dX7_undo_23 : decode cX7_undo 23 = .ok (.iconst 1, 1) := dAX7_undo_1.2.2.2.2.1
theorem dX7_undo_24 : decode cX7_undo 24 = .ok (.isub, 1) := dAX7_undo_1.2.2.2.2.2.1
theorem dX7_undo_25 : decode cX7_undo 25 = .ok (.putfield 190, 3) := dAX7_undo_1.2.2.2.2.2.2.1
theorem dX7_undo_28 : decode cX7_undo 28 = .ok (.aload_n 0, 1) := dAX7_undo_1.2.2.2.2.2.2.2
set_option maxRecDepth 100000 in
theorem dAX7_undo_2 : decode cX7_undo 29 = .ok (.getfield 35, 3) ∧ decode cX7_undo 32 = .ok (.bipush 90, 2) ∧ decode cX7_undo 34 = .ok (.aload_n 0, 1) ∧ decode cX7_undo 35 = .ok (.getfield 190, 3) ∧ decode cX7_undo 38 = .ok (.imul, 1) ∧ decode cX7_undo 39 = .ok (.aload_n 0, 1) ∧ decode cX7_undo 40 = .ok (.getfield 32, 3) ∧ decode cX7_undo 43 = .ok (.iconst 0, 1) := by decide +kernel
theorem dX7_undo_29 : decode cX7_undo 29 = .ok (.getfield 35, 3) := dAX7_undo_2.1
theorem dX7_undo_32 : decode cX7_undo 32 = .ok (.bipush 90, 2) := dAX7_undo_2.2.1
theorem dX7_undo_34 : decode cX7_undo 34 = .ok (.aload_n 0, 1) := dAX7_undo_2.2.2.1
theorem dX7_undo_35 : decode cX7_undo 35 = .ok (.getfield 190, 3) := dAX7_undo_2.2.2.2.1
theorem dX7_undo_38 : decode cX7_undo 38 = .ok (.imul, 1) := dAX7_undo_2.2.2.2.2.1
theorem dX7_undo_39 : decode cX7_undo 39 = .ok (.aload_n 0, 1) := dAX7_undo_2.2.2.2.2.2.1
theorem dX7_undo_40 : decode cX7_undo 40 = .ok (.getfield 32, 3) := dAX7_undo_2.2.2.2.2.2.2.1
theorem dX7_undo_43 : decode cX7_undo 43 = .ok (.iconst 0, 1) := dAX7_undo_2.2.2.2.2.2.2.2
set_option maxRecDepth 100000 in
theorem dAX7_undo_3 : decode cX7_undo 44 = .ok (.bipush 90, 2) ∧ decode cX7_undo 46 = .ok (.invokestatic 156, 3) ∧ decode cX7_undo 49 = .ok (.iconst 1, 1) ∧ decode cX7_undo 50 = .ok (.ireturn, 1) := by decide +kernel
theorem dX7_undo_44 : decode cX7_undo 44 = .ok (.bipush 90, 2) := dAX7_undo_3.1
theorem dX7_undo_46 : decode cX7_undo 46 = .ok (.invokestatic 156, 3) := dAX7_undo_3.2.1
theorem dX7_undo_49 : decode cX7_undo 49 = .ok (.iconst 1, 1) := dAX7_undo_3.2.2.1
theorem dX7_undo_50 : decode cX7_undo 50 = .ok (.ireturn, 1) := dAX7_undo_3.2.2.2
set_option maxRecDepth 100000 in
theorem dAX7_unsureLine_0 : decode cX7_unsureLine 0 = .ok (.aload_n 0, 1) ∧ decode cX7_unsureLine 1 = .ok (.getfield 103, 3) ∧ decode cX7_unsureLine 4 = .ok (.ifCond .eq 4, 3) ∧ decode cX7_unsureLine 7 = .ok (.return_, 1) ∧ decode cX7_unsureLine 8 = .ok (.bipush 117, 2) ∧ decode cX7_unsureLine 10 = .ok (.iconst 2, 1) ∧ decode cX7_unsureLine 11 = .ok (.aload_n 0, 1) ∧ decode cX7_unsureLine 12 = .ok (.getfield 23, 3) := by decide +kernel
theorem dX7_unsureLine_0 : decode cX7_unsureLine 0 = .ok (.aload_n 0, 1) := dAX7_unsureLine_0.1
theorem dX7_unsureLine_1 : decode cX7_unsureLine 1 = .ok (.getfield 103, 3) := dAX7_unsureLine_0.2.1
theorem dX7_unsureLine_4 : decode cX7_unsureLine 4 = .ok (.ifCond .eq 4, 3) := dAX7_unsureLine_0.2.2.1
theorem dX7_unsureLine_7 : decode cX7_unsureLine 7 = .ok (.return_, 1) := dAX7_unsureLine_0.2.2.2.1
theorem dX7_unsureLine_8 : decode cX7_unsureLine 8 = .ok (.bipush 117, 2) := dAX7_unsureLine_0.2.2.2.2.1
theorem dX7_unsureLine_10 : decode cX7_unsureLine 10 = .ok (.iconst 2, 1) := dAX7_unsureLine_0.2.2.2.2.2.1
theorem dX7_unsureLine_11 : decode cX7_unsureLine 11 = .ok (.aload_n 0, 1) := dAX7_unsureLine_0.2.2.2.2.2.2.1
theorem dX7_unsureLine_12 : decode cX7_unsureLine 12 = .ok (.getfield 23, 3) := dAX7_unsureLine_0.2.2.2.2.2.2.2
set_option maxRecDepth 100000 in
theorem dAX7_unsureLine_1 : decode cX7_unsureLine 15 = .ok (.iconst 3, 1) ∧ decode cX7_unsureLine 16 = .ok (.iaload, 1) ∧ decode cX7_unsureLine 17 = .ok (.imul, 1) ∧ decode cX7_unsureLine 18 = .ok (.iadd, 1) ∧ decode cX7_unsureLine 19 = .ok (.istore_n 1, 1) ∧ decode cX7_unsureLine 20 = .ok (.aload_n 0, 1) ∧ decode cX7_unsureLine 21 = .ok (.invokevirtual 236, 3) ∧ decode cX7_unsureLine 24 = .ok (.istore_n 2, 1) := by decide +kernel
theorem dX7_unsureLine_15 : decode cX7_unsureLine 15 = .ok (.iconst 3, 1) := dAX7_unsureLine_1.1
theorem dX7_unsureLine_16 : decode cX7_unsureLine 16 = .ok (.iaload, 1) := dAX7_unsureLine_1.2.1
theorem dX7_unsureLine_17 : decode cX7_unsureLine 17 = .ok (.imul, 1) := dAX7_unsureLine_1.2.2.1
theorem dX7_unsureLine_18 : decode cX7_unsureLine 18 = .ok (.iadd, 1) := dAX7_unsureLine_1.2.2.2.1
theorem dX7_unsureLine_19 : decode cX7_unsureLine 19 = .ok (.istore_n 1, 1) := dAX7_unsureLine_1.2.2.2.2.1
theorem dX7_unsureLine_20 : decode cX7_unsureLine 20 = .ok (.aload_n 0, 1) := dAX7_unsureLine_1.2.2.2.2.2.1
theorem dX7_unsureLine_21 : decode cX7_unsureLine 21 = .ok (.invokevirtual 236, 3) := dAX7_unsureLine_1.2.2.2.2.2.2.1
theorem dX7_unsureLine_24 : decode cX7_unsureLine 24 = .ok (.istore_n 2, 1) := dAX7_unsureLine_1.2.2.2.2.2.2.2
set_option maxRecDepth 100000 in
theorem dAX7_unsureLine_2 : decode cX7_unsureLine 25 = .ok (.aload_n 0, 1) ∧ decode cX7_unsureLine 26 = .ok (.getfield 103, 3) ∧ decode cX7_unsureLine 29 = .ok (.ifCond .ne 24, 3) ∧ decode cX7_unsureLine 32 = .ok (.aload_n 0, 1) ∧ decode cX7_unsureLine 33 = .ok (.getfield 23, 3) ∧ decode cX7_unsureLine 36 = .ok (.bipush 9, 2) ∧ decode cX7_unsureLine 38 = .ok (.iload_n 2, 1) ∧ decode cX7_unsureLine 39 = .ok (.iadd, 1) := by decide +kernel
theorem dX7_unsureLine_25 : decode cX7_unsureLine 25 = .ok (.aload_n 0, 1) := dAX7_unsureLine_2.1
theorem dX7_unsureLine_26 : decode cX7_unsureLine 26 = .ok (.getfield 103, 3) := dAX7_unsureLine_2.2.1
theorem dX7_unsureLine_29 : decode cX7_unsureLine 29 = .ok (.ifCond .ne 24, 3) := dAX7_unsureLine_2.2.2.1
theorem dX7_unsureLine_32 : decode cX7_unsureLine 32 = .ok (.aload_n 0, 1) := dAX7_unsureLine_2.2.2.2.1
theorem dX7_unsureLine_33 : decode cX7_unsureLine 33 = .ok (.getfield 23, 3) := dAX7_unsureLine_2.2.2.2.2.1
theorem dX7_unsureLine_36 : decode cX7_unsureLine 36 = .ok (.bipush 9, 2) := dAX7_unsureLine_2.2.2.2.2.2.1
theorem dX7_unsureLine_38 : decode cX7_unsureLine 38 = .ok (.iload_n 2, 1) := dAX7_unsureLine_2.2.2.2.2.2.2.1
theorem dX7_unsureLine_39 : decode cX7_unsureLine 39 = .ok (.iadd, 1) := dAX7_unsureLine_2.2.2.2.2.2.2.2
set_option maxRecDepth 100000 in
theorem dAX7_unsureLine_3 : decode cX7_unsureLine 40 = .ok (.iaload, 1) ∧ decode cX7_unsureLine 41 = .ok (.ifCond .eq 12, 3) ∧ decode cX7_unsureLine 44 = .ok (.aload_n 0, 1) ∧ decode cX7_unsureLine 45 = .ok (.iconst 2, 1) ∧ decode cX7_unsureLine 46 = .ok (.aload_n 0, 1) ∧ decode cX7_unsureLine 47 = .ok (.getfield 84, 3) ∧ decode cX7_unsureLine 50 = .ok (.invokevirtual 130, 3) ∧ decode cX7_unsureLine 53 = .ok (.iconst 0, 1) := by decide +kernel
theorem dX7_unsureLine_40 : decode cX7_unsureLine 40 = .ok (.iaload, 1) := dAX7_unsureLine_3.1
theorem dX7_unsureLine_41 : decode cX7_unsureLine 41 = .ok (.ifCond .eq 12, 3) := dAX7_unsureLine_3.2.1
theorem dX7_unsureLine_44 : decode cX7_unsureLine 44 = .ok (.aload_n 0, 1) := dAX7_unsureLine_3.2.2.1
theorem dX7_unsureLine_45 : decode cX7_unsureLine 45 = .ok (.iconst 2, 1) := dAX7_unsureLine_3.2.2.2.1
theorem dX7_unsureLine_46 : decode cX7_unsureLine 46 = .ok (.aload_n 0, 1) := dAX7_unsureLine_3.2.2.2.2.1
theorem dX7_unsureLine_47 : decode cX7_unsureLine 47 = .ok (.getfield 84, 3) := dAX7_unsureLine_3.2.2.2.2.2.1
theorem dX7_unsureLine_50 : decode cX7_unsureLine 50 = .ok (.invokevirtual 130, 3) := dAX7_unsureLine_3.2.2.2.2.2.2.1
theorem dX7_unsureLine_53 : decode cX7_unsureLine 53 = .ok (.iconst 0, 1) := dAX7_unsureLine_3.2.2.2.2.2.2.2
set_option maxRecDepth 100000 in
theorem dAX7_unsureLine_4 : decode cX7_unsureLine 54 = .ok (.istore_n 3, 1) ∧ decode cX7_unsureLine 55 = .ok (.iload_n 3, 1) ∧ decode cX7_unsureLine 56 = .ok (.aload_n 0, 1) ∧ decode cX7_unsureLine 57 = .ok (.getfield 23, 3) ∧ decode cX7_unsureLine 60 = .ok (.iconst 3, 1) ∧ decode cX7_unsureLine 61 = .ok (.iaload, 1) ∧ decode cX7_unsureLine 62 = .ok (.if_icmp .ge 40, 3) ∧ decode cX7_unsureLine 65 = .ok (.aload_n 0, 1) := by decide +kernel
theorem dX7_unsureLine_54 : decode cX7_unsureLine 54 = .ok (.istore_n 3, 1) := dAX7_unsureLine_4.1
theorem dX7_unsureLine_55 : decode cX7_unsureLine 55 = .ok (.iload_n 3, 1) := dAX7_unsureLine_4.2.1
theorem dX7_unsureLine_56 : decode cX7_unsureLine 56 = .ok (.aload_n 0, 1) := dAX7_unsureLine_4.2.2.1
theorem dX7_unsureLine_57 : decode cX7_unsureLine 57 = .ok (.getfield 23, 3) := dAX7_unsureLine_4.2.2.2.1
theorem dX7_unsureLine_60 : decode cX7_unsureLine 60 = .ok (.iconst 3, 1) := dAX7_unsureLine_4.2.2.2.2.1
theorem dX7_unsureLine_61 : decode cX7_unsureLine 61 = .ok (.iaload, 1) := dAX7_unsureLine_4.2.2.2.2.2.1
theorem dX7_unsureLine_62 : decode cX7_unsureLine 62 = .ok (.if_icmp .ge 40, 3) := dAX7_unsureLine_4.2.2.2.2.2.2.1
theorem dX7_unsureLine_65 : decode cX7_unsureLine 65 = .ok (.aload_n 0, 1) := dAX7_unsureLine_4.2.2.2.2.2.2.2
set_option maxRecDepth 100000 in
theorem dAX7_unsureLine_5 : decode cX7_unsureLine 66 = .ok (.getfield 103, 3) ∧ decode cX7_unsureLine 69 = .ok (.ifCond .ne 27, 3) ∧ decode cX7_unsureLine 72 = .ok (.aload_n 0, 1) ∧ decode cX7_unsureLine 73 = .ok (.getfield 23, 3) ∧ decode cX7_unsureLine 76 = .ok (.bipush 117, 2) ∧ decode cX7_unsureLine 78 = .ok (.iconst 2, 1) ∧ decode cX7_unsureLine 79 = .ok (.iload_n 3, 1) ∧ decode cX7_unsureLine 80 = .ok (.imul, 1) := by decide +kernel
theorem dX7_unsureLine_66 : decode cX7_unsureLine 66 = .ok (.getfield 103, 3) := dAX7_unsureLine_5.1
theorem dX7_unsureLine_69 : decode cX7_unsureLine 69 = .ok (.ifCond .ne 27, 3) := dAX7_unsureLine_5.2.1
theorem dX7_unsureLine_72 : decode cX7_unsureLine 72 = .ok (.aload_n 0, 1) := dAX7_unsureLine_5.2.2.1
theorem dX7_unsureLine_73 : decode cX7_unsureLine 73 = .ok (.getfield 23, 3) := dAX7_unsureLine_5.2.2.2.1
theorem dX7_unsureLine_76 : decode cX7_unsureLine 76 = .ok (.bipush 117, 2) := dAX7_unsureLine_5.2.2.2.2.1
theorem dX7_unsureLine_78 : decode cX7_unsureLine 78 = .ok (.iconst 2, 1) := dAX7_unsureLine_5.2.2.2.2.2.1
theorem dX7_unsureLine_79 : decode cX7_unsureLine 79 = .ok (.iload_n 3, 1) := dAX7_unsureLine_5.2.2.2.2.2.2.1
theorem dX7_unsureLine_80 : decode cX7_unsureLine 80 = .ok (.imul, 1) := dAX7_unsureLine_5.2.2.2.2.2.2.2
set_option maxRecDepth 100000 in
theorem dAX7_unsureLine_6 : decode cX7_unsureLine 81 = .ok (.iadd, 1) ∧ decode cX7_unsureLine 82 = .ok (.iaload, 1) ∧ decode cX7_unsureLine 83 = .ok (.iload_n 2, 1) ∧ decode cX7_unsureLine 84 = .ok (.if_icmp .ne 12, 3) ∧ decode cX7_unsureLine 87 = .ok (.aload_n 0, 1) ∧ decode cX7_unsureLine 88 = .ok (.iconst 3, 1) ∧ decode cX7_unsureLine 89 = .ok (.aload_n 0, 1) ∧ decode cX7_unsureLine 90 = .ok (.getfield 84, 3) := by decide +kernel
theorem dX7_unsureLine_81 : decode cX7_unsureLine 81 = .ok (.iadd, 1) := dAX7_unsureLine_6.1
theorem dX7_unsureLine_82 : decode cX7_unsureLine 82 = .ok (.iaload, 1) := dAX7_unsureLine_6.2.1
theorem dX7_unsureLine_83 : decode cX7_unsureLine 83 = .ok (.iload_n 2, 1) := dAX7_unsureLine_6.2.2.1
theorem dX7_unsureLine_84 : decode cX7_unsureLine 84 = .ok (.if_icmp .ne 12, 3) := dAX7_unsureLine_6.2.2.2.1
theorem dX7_unsureLine_87 : decode cX7_unsureLine 87 = .ok (.aload_n 0, 1) := dAX7_unsureLine_6.2.2.2.2.1
theorem dX7_unsureLine_88 : decode cX7_unsureLine 88 = .ok (.iconst 3, 1) := dAX7_unsureLine_6.2.2.2.2.2.1
theorem dX7_unsureLine_89 : decode cX7_unsureLine 89 = .ok (.aload_n 0, 1) := dAX7_unsureLine_6.2.2.2.2.2.2.1
theorem dX7_unsureLine_90 : decode cX7_unsureLine 90 = .ok (.getfield 84, 3) := dAX7_unsureLine_6.2.2.2.2.2.2.2
set_option maxRecDepth 100000 in
theorem dAX7_unsureLine_7 : decode cX7_unsureLine 93 = .ok (.invokevirtual 130, 3) ∧ decode cX7_unsureLine 96 = .ok (.iinc 3 1, 3) ∧ decode cX7_unsureLine 99 = .ok (.goto (-44), 3) ∧ decode cX7_unsureLine 102 = .ok (.aload_n 0, 1) ∧ decode cX7_unsureLine 103 = .ok (.invokevirtual 196, 3) ∧ decode cX7_unsureLine 106 = .ok (.aload_n 0, 1) ∧ decode cX7_unsureLine 107 = .ok (.iconst 0, 1) ∧ decode cX7_unsureLine 108 = .ok (.bipush 99, 2) := by decide +kernel
theorem dX7_unsureLine_93 : decode cX7_unsureLine 93 = .ok (.invokevirtual 130, 3) := dAX7_unsureLine_7.1
theorem dX7_unsureLine_96 : decode cX7_unsureLine 96 = .ok (.iinc 3 1, 3) := dAX7_unsureLine_7.2.1
theorem dX7_unsureLine_99 : decode cX7_unsureLine 99 = .ok (.goto (-44), 3) := dAX7_unsureLine_7.2.2.1
theorem dX7_unsureLine_102 : decode cX7_unsureLine 102 = .ok (.aload_n 0, 1) := dAX7_unsureLine_7.2.2.2.1
theorem dX7_unsureLine_103 : decode cX7_unsureLine 103 = .ok (.invokevirtual 196, 3) := dAX7_unsureLine_7.2.2.2.2.1
theorem dX7_unsureLine_106 : decode cX7_unsureLine 106 = .ok (.aload_n 0, 1) := dAX7_unsureLine_7.2.2.2.2.2.1
theorem dX7_unsureLine_107 : decode cX7_unsureLine 107 = .ok (.iconst 0, 1) := dAX7_unsureLine_7.2.2.2.2.2.2.1
theorem dX7_unsureLine_108 : decode cX7_unsureLine 108 = .ok (.bipush 99, 2) := dAX7_unsureLine_7.2.2.2.2.2.2.2
set_option maxRecDepth 100000 in
theorem dAX7_unsureLine_8 : decode cX7_unsureLine 110 = .ok (.invokevirtual 171, 3) ∧ decode cX7_unsureLine 113 = .ok (.istore_n 3, 1) ∧ decode cX7_unsureLine 114 = .ok (.aload_n 0, 1) ∧ decode cX7_unsureLine 115 = .ok (.getfield 103, 3) ∧ decode cX7_unsureLine 118 = .ok (.ifCond .eq 4, 3) ∧ decode cX7_unsureLine 121 = .ok (.return_, 1) ∧ decode cX7_unsureLine 122 = .ok (.aload_n 0, 1) ∧ decode cX7_unsureLine 123 = .ok (.getfield 23, 3) := by decide +kernel
theorem dX7_unsureLine_110 : decode cX7_unsureLine 110 = .ok (.invokevirtual 171, 3) := dAX7_unsureLine_8.1
theorem dX7_unsureLine_113 : decode cX7_unsureLine 113 = .ok (.istore_n 3, 1) := dAX7_unsureLine_8.2.1
theorem dX7_unsureLine_114 : decode cX7_unsureLine 114 = .ok (.aload_n 0, 1) := dAX7_unsureLine_8.2.2.1
theorem dX7_unsureLine_115 : decode cX7_unsureLine 115 = .ok (.getfield 103, 3) := dAX7_unsureLine_8.2.2.2.1
theorem dX7_unsureLine_118 : decode cX7_unsureLine 118 = .ok (.ifCond .eq 4, 3) := dAX7_unsureLine_8.2.2.2.2.1
theorem dX7_unsureLine_121 : decode cX7_unsureLine 121 = .ok (.return_, 1) := dAX7_unsureLine_8.2.2.2.2.2.1
theorem dX7_unsureLine_122 : decode cX7_unsureLine 122 = .ok (.aload_n 0, 1) := dAX7_unsureLine_8.2.2.2.2.2.2.1
theorem dX7_unsureLine_123 : decode cX7_unsureLine 123 = .ok (.getfield 23, 3) := dAX7_unsureLine_8.2.2.2.2.2.2.2
set_option maxRecDepth 100000 in
theorem dAX7_unsureLine_9 : decode cX7_unsureLine 126 = .ok (.iload_n 1, 1) ∧ decode cX7_unsureLine 127 = .ok (.iload_n 2, 1) ∧ decode cX7_unsureLine 128 = .ok (.iastore, 1) ∧ decode cX7_unsureLine 129 = .ok (.aload_n 0, 1) ∧ decode cX7_unsureLine 130 = .ok (.getfield 23, 3) ∧ decode cX7_unsureLine 133 = .ok (.iload_n 1, 1) ∧ decode cX7_unsureLine 134 = .ok (.iconst 1, 1) ∧ decode cX7_unsureLine 135 = .ok (.iadd, 1) := by decide +kernel
theorem dX7_unsureLine_126 : decode cX7_unsureLine 126 = .ok (.iload_n 1, 1) := dAX7_unsureLine_9.1
theorem dX7_unsureLine_127 : decode cX7_unsureLine 127 = .ok (.iload_n 2, 1) := dAX7_unsureLine_9.2.1
theorem dX7_unsureLine_128 : decode cX7_unsureLine 128 = .ok (.iastore, 1) := dAX7_unsureLine_9.2.2.1
theorem dX7_unsureLine_129 : decode cX7_unsureLine 129 = .ok (.aload_n 0, 1) := dAX7_unsureLine_9.2.2.2.1
theorem dX7_unsureLine_130 : decode cX7_unsureLine 130 = .ok (.getfield 23, 3) := dAX7_unsureLine_9.2.2.2.2.1
theorem dX7_unsureLine_133 : decode cX7_unsureLine 133 = .ok (.iload_n 1, 1) := dAX7_unsureLine_9.2.2.2.2.2.1
theorem dX7_unsureLine_134 : decode cX7_unsureLine 134 = .ok (.iconst 1, 1) := dAX7_unsureLine_9.2.2.2.2.2.2.1
theorem dX7_unsureLine_135 : decode cX7_unsureLine 135 = .ok (.iadd, 1) := dAX7_unsureLine_9.2.2.2.2.2.2.2
set_option maxRecDepth 100000 in
theorem dAX7_unsureLine_10 : decode cX7_unsureLine 136 = .ok (.iload_n 3, 1) ∧ decode cX7_unsureLine 137 = .ok (.iastore, 1) ∧ decode cX7_unsureLine 138 = .ok (.aload_n 0, 1) ∧ decode cX7_unsureLine 139 = .ok (.getfield 23, 3) ∧ decode cX7_unsureLine 142 = .ok (.iconst 3, 1) ∧ decode cX7_unsureLine 143 = .ok (.dup2, 1) ∧ decode cX7_unsureLine 144 = .ok (.iaload, 1) ∧ decode cX7_unsureLine 145 = .ok (.iconst 1, 1) := by decide +kernel
theorem dX7_unsureLine_136 : decode cX7_unsureLine 136 = .ok (.iload_n 3, 1) := dAX7_unsureLine_10.1
theorem dX7_unsureLine_137 : decode cX7_unsureLine 137 = .ok (.iastore, 1) := dAX7_unsureLine_10.2.1
theorem dX7_unsureLine_138 : decode cX7_unsureLine 138 = .ok (.aload_n 0, 1) := dAX7_unsureLine_10.2.2.1
theorem dX7_unsureLine_139 : decode cX7_unsureLine 139 = .ok (.getfield 23, 3) := dAX7_unsureLine_10.2.2.2.1
theorem dX7_unsureLine_142 : decode cX7_unsureLine 142 = .ok (.iconst 3, 1) := dAX7_unsureLine_10.2.2.2.2.1
theorem dX7_unsureLine_143 : decode cX7_unsureLine 143 = .ok (.dup2, 1) := dAX7_unsureLine_10.2.2.2.2.2.1
theorem dX7_unsureLine_144 : decode cX7_unsureLine 144 = .ok (.iaload, 1) := dAX7_unsureLine_10.2.2.2.2.2.2.1
theorem dX7_unsureLine_145 : decode cX7_unsureLine 145 = .ok (.iconst 1, 1) := dAX7_unsureLine_10.2.2.2.2.2.2.2
set_option maxRecDepth 100000 in
theorem dAX7_unsureLine_11 : decode cX7_unsureLine 146 = .ok (.iadd, 1) ∧ decode cX7_unsureLine 147 = .ok (.iastore, 1) ∧ decode cX7_unsureLine 148 = .ok (.return_, 1) := by decide +kernel
theorem dX7_unsureLine_146 : decode cX7_unsureLine 146 = .ok (.iadd, 1) := dAX7_unsureLine_11.1
theorem dX7_unsureLine_147 : decode cX7_unsureLine 147 = .ok (.iastore, 1) := dAX7_unsureLine_11.2.1
theorem dX7_unsureLine_148 : decode cX7_unsureLine 148 = .ok (.return_, 1) := dAX7_unsureLine_11.2.2
set_option maxRecDepth 100000 in
theorem dAX7_weight_0 : decode cX7_weight 0 = .ok (.aload_n 0, 1) ∧ decode cX7_weight 1 = .ok (.invokevirtual 175, 3) ∧ decode cX7_weight 4 = .ok (.aload_n 0, 1) ∧ decode cX7_weight 5 = .ok (.iload_n 1, 1) ∧ decode cX7_weight 6 = .ok (.invokevirtual 242, 3) ∧ decode cX7_weight 9 = .ok (.ifCond .eq 33, 3) ∧ decode cX7_weight 12 = .ok (.aload_n 0, 1) ∧ decode cX7_weight 13 = .ok (.iload_n 2, 1) := by decide +kernel
theorem dX7_weight_0 : decode cX7_weight 0 = .ok (.aload_n 0, 1) := dAX7_weight_0.1
theorem dX7_weight_1 : decode cX7_weight 1 = .ok (.invokevirtual 175, 3) := dAX7_weight_0.2.1
theorem dX7_weight_4 : decode cX7_weight 4 = .ok (.aload_n 0, 1) := dAX7_weight_0.2.2.1
theorem dX7_weight_5 : decode cX7_weight 5 = .ok (.iload_n 1, 1) := dAX7_weight_0.2.2.2.1
theorem dX7_weight_6 : decode cX7_weight 6 = .ok (.invokevirtual 242, 3) := dAX7_weight_0.2.2.2.2.1
theorem dX7_weight_9 : decode cX7_weight 9 = .ok (.ifCond .eq 33, 3) := dAX7_weight_0.2.2.2.2.2.1
theorem dX7_weight_12 : decode cX7_weight 12 = .ok (.aload_n 0, 1) := dAX7_weight_0.2.2.2.2.2.2.1
theorem dX7_weight_13 : decode cX7_weight 13 = .ok (.iload_n 2, 1) := dAX7_weight_0.2.2.2.2.2.2.2
set_option maxRecDepth 100000 in
theorem dAX7_weight_1 : decode cX7_weight 14 = .ok (.invokevirtual 242, 3) ∧ decode cX7_weight 17 = .ok (.ifCond .eq 25, 3) ∧ decode cX7_weight 20 = .ok (.aload_n 0, 1) ∧ decode cX7_weight 21 = .ok (.getfield 20, 3) ∧ decode cX7_weight 24 = .ok (.bipush 9, 2) ∧ decode cX7_weight 26 = .ok (.iload_n 1, 1) ∧ decode cX7_weight 27 = .ok (.iadd, 1) ∧ decode cX7_weight 28 = .ok (.iaload, 1) := by decide +kernel
theorem dX7_weight_14 : decode cX7_weight 14 = .ok (.invokevirtual 242, 3) := dAX7_weight_1.1
theorem dX7_weight_17 : decode cX7_weight 17 = .ok (.ifCond .eq 25, 3) := dAX7_weight_1.2.1
theorem dX7_weight_20 : decode cX7_weight 20 = .ok (.aload_n 0, 1) := dAX7_weight_1.2.2.1
theorem dX7_weight_21 : decode cX7_weight 21 = .ok (.getfield 20, 3) := dAX7_weight_1.2.2.2.1
theorem dX7_weight_24 : decode cX7_weight 24 = .ok (.bipush 9, 2) := dAX7_weight_1.2.2.2.2.1
theorem dX7_weight_26 : decode cX7_weight 26 = .ok (.iload_n 1, 1) := dAX7_weight_1.2.2.2.2.2.1
theorem dX7_weight_27 : decode cX7_weight 27 = .ok (.iadd, 1) := dAX7_weight_1.2.2.2.2.2.2.1
theorem dX7_weight_28 : decode cX7_weight 28 = .ok (.iaload, 1) := dAX7_weight_1.2.2.2.2.2.2.2
set_option maxRecDepth 100000 in
theorem dAX7_weight_2 : decode cX7_weight 29 = .ok (.iconst 3, 1) ∧ decode cX7_weight 30 = .ok (.if_icmp .ne 12, 3) ∧ decode cX7_weight 33 = .ok (.aload_n 0, 1) ∧ decode cX7_weight 34 = .ok (.iload_n 1, 1) ∧ decode cX7_weight 35 = .ok (.iload_n 2, 1) ∧ decode cX7_weight 36 = .ok (.invokevirtual 251, 3) ∧ decode cX7_weight 39 = .ok (.ifCond .ne 9, 3) ∧ decode cX7_weight 42 = .ok (.aload_n 0, 1) := by decide +kernel
theorem dX7_weight_29 : decode cX7_weight 29 = .ok (.iconst 3, 1) := dAX7_weight_2.1
theorem dX7_weight_30 : decode cX7_weight 30 = .ok (.if_icmp .ne 12, 3) := dAX7_weight_2.2.1
theorem dX7_weight_33 : decode cX7_weight 33 = .ok (.aload_n 0, 1) := dAX7_weight_2.2.2.1
theorem dX7_weight_34 : decode cX7_weight 34 = .ok (.iload_n 1, 1) := dAX7_weight_2.2.2.2.1
theorem dX7_weight_35 : decode cX7_weight 35 = .ok (.iload_n 2, 1) := dAX7_weight_2.2.2.2.2.1
theorem dX7_weight_36 : decode cX7_weight 36 = .ok (.invokevirtual 251, 3) := dAX7_weight_2.2.2.2.2.2.1
theorem dX7_weight_39 : decode cX7_weight 39 = .ok (.ifCond .ne 9, 3) := dAX7_weight_2.2.2.2.2.2.2.1
theorem dX7_weight_42 : decode cX7_weight 42 = .ok (.aload_n 0, 1) := dAX7_weight_2.2.2.2.2.2.2.2
set_option maxRecDepth 100000 in
theorem dAX7_weight_3 : decode cX7_weight 43 = .ok (.iconst 1, 1) ∧ decode cX7_weight 44 = .ok (.invokevirtual 178, 3) ∧ decode cX7_weight 47 = .ok (.ireturn, 1) ∧ decode cX7_weight 48 = .ok (.aload_n 0, 1) ∧ decode cX7_weight 49 = .ok (.iload_n 1, 1) ∧ decode cX7_weight 50 = .ok (.iload_n 2, 1) ∧ decode cX7_weight 51 = .ok (.invokevirtual 251, 3) ∧ decode cX7_weight 54 = .ok (.ireturn, 1) := by decide +kernel
theorem dX7_weight_43 : decode cX7_weight 43 = .ok (.iconst 1, 1) := dAX7_weight_3.1
theorem dX7_weight_44 : decode cX7_weight 44 = .ok (.invokevirtual 178, 3) := dAX7_weight_3.2.1
theorem dX7_weight_47 : decode cX7_weight 47 = .ok (.ireturn, 1) := dAX7_weight_3.2.2.1
theorem dX7_weight_48 : decode cX7_weight 48 = .ok (.aload_n 0, 1) := dAX7_weight_3.2.2.2.1
theorem dX7_weight_49 : decode cX7_weight 49 = .ok (.iload_n 1, 1) := dAX7_weight_3.2.2.2.2.1
theorem dX7_weight_50 : decode cX7_weight 50 = .ok (.iload_n 2, 1) := dAX7_weight_3.2.2.2.2.2.1
theorem dX7_weight_51 : decode cX7_weight 51 = .ok (.invokevirtual 251, 3) := dAX7_weight_3.2.2.2.2.2.2.1
theorem dX7_weight_54 : decode cX7_weight 54 = .ok (.ireturn, 1) := dAX7_weight_3.2.2.2.2.2.2.2
set_option maxRecDepth 100000 in
theorem dAX7_weightOf_0 : decode cX7_weightOf 0 = .ok (.iconst 0, 1) ∧ decode cX7_weightOf 1 = .ok (.istore_n 3, 1) ∧ decode cX7_weightOf 2 = .ok (.iload_n 3, 1) ∧ decode cX7_weightOf 3 = .ok (.aload_n 0, 1) ∧ decode cX7_weightOf 4 = .ok (.getfield 20, 3) ∧ decode cX7_weightOf 7 = .ok (.bipush 27, 2) ∧ decode cX7_weightOf 9 = .ok (.iload_n 1, 1) ∧ decode cX7_weightOf 10 = .ok (.iadd, 1) := by decide +kernel
theorem dX7_weightOf_0 : decode cX7_weightOf 0 = .ok (.iconst 0, 1) := dAX7_weightOf_0.1
theorem dX7_weightOf_1 : decode cX7_weightOf 1 = .ok (.istore_n 3, 1) := dAX7_weightOf_0.2.1
theorem dX7_weightOf_2 : decode cX7_weightOf 2 = .ok (.iload_n 3, 1) := dAX7_weightOf_0.2.2.1
theorem dX7_weightOf_3 : decode cX7_weightOf 3 = .ok (.aload_n 0, 1) := dAX7_weightOf_0.2.2.2.1
theorem dX7_weightOf_4 : decode cX7_weightOf 4 = .ok (.getfield 20, 3) := dAX7_weightOf_0.2.2.2.2.1
theorem dX7_weightOf_7 : decode cX7_weightOf 7 = .ok (.bipush 27, 2) := dAX7_weightOf_0.2.2.2.2.2.1
theorem dX7_weightOf_9 : decode cX7_weightOf 9 = .ok (.iload_n 1, 1) := dAX7_weightOf_0.2.2.2.2.2.2.1
theorem dX7_weightOf_10 : decode cX7_weightOf 10 = .ok (.iadd, 1) := dAX7_weightOf_0.2.2.2.2.2.2.2
set_option maxRecDepth 100000 in
theorem dAX7_weightOf_1 : decode cX7_weightOf 11 = .ok (.iaload, 1) ∧ decode cX7_weightOf 12 = .ok (.if_icmp .ge 37, 3) ∧ decode cX7_weightOf 15 = .ok (.aload_n 0, 1) ∧ decode cX7_weightOf 16 = .ok (.getfield 26, 3) ∧ decode cX7_weightOf 19 = .ok (.iconst 4, 1) ∧ decode cX7_weightOf 20 = .ok (.iload_n 1, 1) ∧ decode cX7_weightOf 21 = .ok (.imul, 1) ∧ decode cX7_weightOf 22 = .ok (.iload_n 3, 1) := by decide +kernel
theorem dX7_weightOf_11 : decode cX7_weightOf 11 = .ok (.iaload, 1) := dAX7_weightOf_1.1
theorem dX7_weightOf_12 : decode cX7_weightOf 12 = .ok (.if_icmp .ge 37, 3) := dAX7_weightOf_1.2.1
theorem dX7_weightOf_15 : decode cX7_weightOf 15 = .ok (.aload_n 0, 1) := dAX7_weightOf_1.2.2.1
theorem dX7_weightOf_16 : decode cX7_weightOf 16 = .ok (.getfield 26, 3) := dAX7_weightOf_1.2.2.2.1
theorem dX7_weightOf_19 : decode cX7_weightOf 19 = .ok (.iconst 4, 1) := dAX7_weightOf_1.2.2.2.2.1
theorem dX7_weightOf_20 : decode cX7_weightOf 20 = .ok (.iload_n 1, 1) := dAX7_weightOf_1.2.2.2.2.2.1
theorem dX7_weightOf_21 : decode cX7_weightOf 21 = .ok (.imul, 1) := dAX7_weightOf_1.2.2.2.2.2.2.1
theorem dX7_weightOf_22 : decode cX7_weightOf 22 = .ok (.iload_n 3, 1) := dAX7_weightOf_1.2.2.2.2.2.2.2
set_option maxRecDepth 100000 in
theorem dAX7_weightOf_2 : decode cX7_weightOf 23 = .ok (.iadd, 1) ∧ decode cX7_weightOf 24 = .ok (.iaload, 1) ∧ decode cX7_weightOf 25 = .ok (.iload_n 2, 1) ∧ decode cX7_weightOf 26 = .ok (.if_icmp .ne 17, 3) ∧ decode cX7_weightOf 29 = .ok (.aload_n 0, 1) ∧ decode cX7_weightOf 30 = .ok (.getfield 20, 3) ∧ decode cX7_weightOf 33 = .ok (.bipush 45, 2) ∧ decode cX7_weightOf 35 = .ok (.iconst 4, 1) := by decide +kernel
theorem dX7_weightOf_23 : decode cX7_weightOf 23 = .ok (.iadd, 1) := dAX7_weightOf_2.1
theorem dX7_weightOf_24 : decode cX7_weightOf 24 = .ok (.iaload, 1) := dAX7_weightOf_2.2.1
theorem dX7_weightOf_25 : decode cX7_weightOf 25 = .ok (.iload_n 2, 1) := dAX7_weightOf_2.2.2.1
theorem dX7_weightOf_26 : decode cX7_weightOf 26 = .ok (.if_icmp .ne 17, 3) := dAX7_weightOf_2.2.2.2.1
theorem dX7_weightOf_29 : decode cX7_weightOf 29 = .ok (.aload_n 0, 1) := dAX7_weightOf_2.2.2.2.2.1
theorem dX7_weightOf_30 : decode cX7_weightOf 30 = .ok (.getfield 20, 3) := dAX7_weightOf_2.2.2.2.2.2.1
theorem dX7_weightOf_33 : decode cX7_weightOf 33 = .ok (.bipush 45, 2) := dAX7_weightOf_2.2.2.2.2.2.2.1
theorem dX7_weightOf_35 : decode cX7_weightOf 35 = .ok (.iconst 4, 1) := dAX7_weightOf_2.2.2.2.2.2.2.2
set_option maxRecDepth 100000 in
theorem dAX7_weightOf_3 : decode cX7_weightOf 36 = .ok (.iload_n 1, 1) ∧ decode cX7_weightOf 37 = .ok (.imul, 1) ∧ decode cX7_weightOf 38 = .ok (.iadd, 1) ∧ decode cX7_weightOf 39 = .ok (.iload_n 3, 1) ∧ decode cX7_weightOf 40 = .ok (.iadd, 1) ∧ decode cX7_weightOf 41 = .ok (.iaload, 1) ∧ decode cX7_weightOf 42 = .ok (.ireturn, 1) ∧ decode cX7_weightOf 43 = .ok (.iinc 3 1, 3) := by decide +kernel
theorem dX7_weightOf_36 : decode cX7_weightOf 36 = .ok (.iload_n 1, 1) := dAX7_weightOf_3.1
theorem dX7_weightOf_37 : decode cX7_weightOf 37 = .ok (.imul, 1) := dAX7_weightOf_3.2.1
theorem dX7_weightOf_38 : decode cX7_weightOf 38 = .ok (.iadd, 1) := dAX7_weightOf_3.2.2.1
theorem dX7_weightOf_39 : decode cX7_weightOf 39 = .ok (.iload_n 3, 1) := dAX7_weightOf_3.2.2.2.1
theorem dX7_weightOf_40 : decode cX7_weightOf 40 = .ok (.iadd, 1) := dAX7_weightOf_3.2.2.2.2.1
theorem dX7_weightOf_41 : decode cX7_weightOf 41 = .ok (.iaload, 1) := dAX7_weightOf_3.2.2.2.2.2.1
theorem dX7_weightOf_42 : decode cX7_weightOf 42 = .ok (.ireturn, 1) := dAX7_weightOf_3.2.2.2.2.2.2.1
theorem dX7_weightOf_43 : decode cX7_weightOf 43 = .ok (.iinc 3 1, 3) := dAX7_weightOf_3.2.2.2.2.2.2.2
set_option maxRecDepth 100000 in
theorem dAX7_weightOf_4 : decode cX7_weightOf 46 = .ok (.goto (-44), 3) ∧ decode cX7_weightOf 49 = .ok (.iconst 0, 1) ∧ decode cX7_weightOf 50 = .ok (.ireturn, 1) := by decide +kernel
theorem dX7_weightOf_46 : decode cX7_weightOf 46 = .ok (.goto (-44), 3) := dAX7_weightOf_4.1
theorem dX7_weightOf_49 : decode cX7_weightOf 49 = .ok (.iconst 0, 1) := dAX7_weightOf_4.2.1
theorem dX7_weightOf_50 : decode cX7_weightOf 50 = .ok (.ireturn, 1) := dAX7_weightOf_4.2.2
set_option maxRecDepth 100000 in
theorem dAX7_weightsOf_0 : decode cX7_weightsOf 0 = .ok (.iconst 0, 1) ∧ decode cX7_weightsOf 1 = .ok (.istore_n 2, 1) ∧ decode cX7_weightsOf 2 = .ok (.iconst 0, 1) ∧ decode cX7_weightsOf 3 = .ok (.istore_n 3, 1) ∧ decode cX7_weightsOf 4 = .ok (.iload_n 3, 1) ∧ decode cX7_weightsOf 5 = .ok (.aload_n 0, 1) ∧ decode cX7_weightsOf 6 = .ok (.getfield 20, 3) ∧ decode cX7_weightsOf 9 = .ok (.bipush 27, 2) := by decide +kernel
theorem dX7_weightsOf_0 : decode cX7_weightsOf 0 = .ok (.iconst 0, 1) := dAX7_weightsOf_0.1
theorem dX7_weightsOf_1 : decode cX7_weightsOf 1 = .ok (.istore_n 2, 1) := dAX7_weightsOf_0.2.1
theorem dX7_weightsOf_2 : decode cX7_weightsOf 2 = .ok (.iconst 0, 1) := dAX7_weightsOf_0.2.2.1
theorem dX7_weightsOf_3 : decode cX7_weightsOf 3 = .ok (.istore_n 3, 1) := dAX7_weightsOf_0.2.2.2.1
theorem dX7_weightsOf_4 : decode cX7_weightsOf 4 = .ok (.iload_n 3, 1) := dAX7_weightsOf_0.2.2.2.2.1
theorem dX7_weightsOf_5 : decode cX7_weightsOf 5 = .ok (.aload_n 0, 1) := dAX7_weightsOf_0.2.2.2.2.2.1
theorem dX7_weightsOf_6 : decode cX7_weightsOf 6 = .ok (.getfield 20, 3) := dAX7_weightsOf_0.2.2.2.2.2.2.1
theorem dX7_weightsOf_9 : decode cX7_weightsOf 9 = .ok (.bipush 27, 2) := dAX7_weightsOf_0.2.2.2.2.2.2.2
set_option maxRecDepth 100000 in
theorem dAX7_weightsOf_1 : decode cX7_weightsOf 11 = .ok (.iload_n 1, 1) ∧ decode cX7_weightsOf 12 = .ok (.iadd, 1) ∧ decode cX7_weightsOf 13 = .ok (.iaload, 1) ∧ decode cX7_weightsOf 14 = .ok (.if_icmp .ge 25, 3) ∧ decode cX7_weightsOf 17 = .ok (.iload_n 2, 1) ∧ decode cX7_weightsOf 18 = .ok (.aload_n 0, 1) ∧ decode cX7_weightsOf 19 = .ok (.getfield 20, 3) ∧ decode cX7_weightsOf 22 = .ok (.bipush 45, 2) := by decide +kernel
theorem dX7_weightsOf_11 : decode cX7_weightsOf 11 = .ok (.iload_n 1, 1) := dAX7_weightsOf_1.1
theorem dX7_weightsOf_12 : decode cX7_weightsOf 12 = .ok (.iadd, 1) := dAX7_weightsOf_1.2.1
theorem dX7_weightsOf_13 : decode cX7_weightsOf 13 = .ok (.iaload, 1) := dAX7_weightsOf_1.2.2.1
theorem dX7_weightsOf_14 : decode cX7_weightsOf 14 = .ok (.if_icmp .ge 25, 3) := dAX7_weightsOf_1.2.2.2.1
theorem dX7_weightsOf_17 : decode cX7_weightsOf 17 = .ok (.iload_n 2, 1) := dAX7_weightsOf_1.2.2.2.2.1
theorem dX7_weightsOf_18 : decode cX7_weightsOf 18 = .ok (.aload_n 0, 1) := dAX7_weightsOf_1.2.2.2.2.2.1
theorem dX7_weightsOf_19 : decode cX7_weightsOf 19 = .ok (.getfield 20, 3) := dAX7_weightsOf_1.2.2.2.2.2.2.1
theorem dX7_weightsOf_22 : decode cX7_weightsOf 22 = .ok (.bipush 45, 2) := dAX7_weightsOf_1.2.2.2.2.2.2.2
set_option maxRecDepth 100000 in
theorem dAX7_weightsOf_2 : decode cX7_weightsOf 24 = .ok (.iconst 4, 1) ∧ decode cX7_weightsOf 25 = .ok (.iload_n 1, 1) ∧ decode cX7_weightsOf 26 = .ok (.imul, 1) ∧ decode cX7_weightsOf 27 = .ok (.iadd, 1) ∧ decode cX7_weightsOf 28 = .ok (.iload_n 3, 1) ∧ decode cX7_weightsOf 29 = .ok (.iadd, 1) ∧ decode cX7_weightsOf 30 = .ok (.iaload, 1) ∧ decode cX7_weightsOf 31 = .ok (.iadd, 1) := by decide +kernel
theorem dX7_weightsOf_24 : decode cX7_weightsOf 24 = .ok (.iconst 4, 1) := dAX7_weightsOf_2.1
theorem dX7_weightsOf_25 : decode cX7_weightsOf 25 = .ok (.iload_n 1, 1) := dAX7_weightsOf_2.2.1
theorem dX7_weightsOf_26 : decode cX7_weightsOf 26 = .ok (.imul, 1) := dAX7_weightsOf_2.2.2.1
theorem dX7_weightsOf_27 : decode cX7_weightsOf 27 = .ok (.iadd, 1) := dAX7_weightsOf_2.2.2.2.1
theorem dX7_weightsOf_28 : decode cX7_weightsOf 28 = .ok (.iload_n 3, 1) := dAX7_weightsOf_2.2.2.2.2.1
theorem dX7_weightsOf_29 : decode cX7_weightsOf 29 = .ok (.iadd, 1) := dAX7_weightsOf_2.2.2.2.2.2.1
theorem dX7_weightsOf_30 : decode cX7_weightsOf 30 = .ok (.iaload, 1) := dAX7_weightsOf_2.2.2.2.2.2.2.1
theorem dX7_weightsOf_31 : decode cX7_weightsOf 31 = .ok (.iadd, 1) := dAX7_weightsOf_2.2.2.2.2.2.2.2
set_option maxRecDepth 100000 in
theorem dAX7_weightsOf_3 : decode cX7_weightsOf 32 = .ok (.istore_n 2, 1) ∧ decode cX7_weightsOf 33 = .ok (.iinc 3 1, 3) ∧ decode cX7_weightsOf 36 = .ok (.goto (-32), 3) ∧ decode cX7_weightsOf 39 = .ok (.iload_n 2, 1) ∧ decode cX7_weightsOf 40 = .ok (.ireturn, 1) := by decide +kernel
theorem dX7_weightsOf_32 : decode cX7_weightsOf 32 = .ok (.istore_n 2, 1) := dAX7_weightsOf_3.1
theorem dX7_weightsOf_33 : decode cX7_weightsOf 33 = .ok (.iinc 3 1, 3) := dAX7_weightsOf_3.2.1
theorem dX7_weightsOf_36 : decode cX7_weightsOf 36 = .ok (.goto (-32), 3) := dAX7_weightsOf_3.2.2.1
theorem dX7_weightsOf_39 : decode cX7_weightsOf 39 = .ok (.iload_n 2, 1) := dAX7_weightsOf_3.2.2.2.1
theorem dX7_weightsOf_40 : decode cX7_weightsOf 40 = .ok (.ireturn, 1) := dAX7_weightsOf_3.2.2.2.2
set_option maxRecDepth 100000 in
theorem dAX7_where_0 : decode cX7_where 0 = .ok (.aload_n 0, 1) ∧ decode cX7_where 1 = .ok (.iconst 0, 1) ∧ decode cX7_where 2 = .ok (.putfield 65, 3) ∧ decode cX7_where 5 = .ok (.aload_n 0, 1) ∧ decode cX7_where 6 = .ok (.getfield 68, 3) ∧ decode cX7_where 9 = .ok (.iconst 4, 1) ∧ decode cX7_where 10 = .ok (.if_icmp .ne 10, 3) ∧ decode cX7_where 13 = .ok (.aload_n 0, 1) := by decide +kernel
theorem dX7_where_0 : decode cX7_where 0 = .ok (.aload_n 0, 1) := dAX7_where_0.1
theorem dX7_where_1 : decode cX7_where 1 = .ok (.iconst 0, 1) := dAX7_where_0.2.1
theorem dX7_where_2 : decode cX7_where 2 = .ok (.putfield 65, 3) := dAX7_where_0.2.2.1
theorem dX7_where_5 : decode cX7_where 5 = .ok (.aload_n 0, 1) := dAX7_where_0.2.2.2.1
theorem dX7_where_6 : decode cX7_where 6 = .ok (.getfield 68, 3) := dAX7_where_0.2.2.2.2.1
theorem dX7_where_9 : decode cX7_where 9 = .ok (.iconst 4, 1) := dAX7_where_0.2.2.2.2.2.1
theorem dX7_where_10 : decode cX7_where 10 = .ok (.if_icmp .ne 10, 3) := dAX7_where_0.2.2.2.2.2.2.1
theorem dX7_where_13 : decode cX7_where 13 = .ok (.aload_n 0, 1) := dAX7_where_0.2.2.2.2.2.2.2
set_option maxRecDepth 100000 in
theorem dAX7_where_1 : decode cX7_where 14 = .ok (.getfield 13, 3) ∧ decode cX7_where 17 = .ok (.goto 4, 3) ∧ decode cX7_where 20 = .ok (.iconst (-1), 1) ∧ decode cX7_where 21 = .ok (.ireturn, 1) := by decide +kernel
theorem dX7_where_14 : decode cX7_where 14 = .ok (.getfield 13, 3) := dAX7_where_1.1
theorem dX7_where_17 : decode cX7_where 17 = .ok (.goto 4, 3) := dAX7_where_1.2.1
theorem dX7_where_20 : decode cX7_where 20 = .ok (.iconst (-1), 1) := dAX7_where_1.2.2.1
theorem dX7_where_21 : decode cX7_where 21 = .ok (.ireturn, 1) := dAX7_where_1.2.2.2
set_option maxRecDepth 100000 in
theorem dAX7_whole_0 : decode cX7_whole 0 = .ok (.aload_n 0, 1) ∧ decode cX7_whole 1 = .ok (.invokevirtual 175, 3) ∧ decode cX7_whole 4 = .ok (.aload_n 0, 1) ∧ decode cX7_whole 5 = .ok (.getfield 187, 3) ∧ decode cX7_whole 8 = .ok (.ifCond .eq 17, 3) ∧ decode cX7_whole 11 = .ok (.aload_n 0, 1) ∧ decode cX7_whole 12 = .ok (.aload_n 0, 1) ∧ decode cX7_whole 13 = .ok (.getfield 20, 3) := by decide +kernel
theorem dX7_whole_0 : decode cX7_whole 0 = .ok (.aload_n 0, 1) := dAX7_whole_0.1
theorem dX7_whole_1 : decode cX7_whole 1 = .ok (.invokevirtual 175, 3) := dAX7_whole_0.2.1
theorem dX7_whole_4 : decode cX7_whole 4 = .ok (.aload_n 0, 1) := dAX7_whole_0.2.2.1
theorem dX7_whole_5 : decode cX7_whole 5 = .ok (.getfield 187, 3) := dAX7_whole_0.2.2.2.1
theorem dX7_whole_8 : decode cX7_whole 8 = .ok (.ifCond .eq 17, 3) := dAX7_whole_0.2.2.2.2.1
theorem dX7_whole_11 : decode cX7_whole 11 = .ok (.aload_n 0, 1) := dAX7_whole_0.2.2.2.2.2.1
theorem dX7_whole_12 : decode cX7_whole 12 = .ok (.aload_n 0, 1) := dAX7_whole_0.2.2.2.2.2.2.1
theorem dX7_whole_13 : decode cX7_whole 13 = .ok (.getfield 20, 3) := dAX7_whole_0.2.2.2.2.2.2.2
set_option maxRecDepth 100000 in
theorem dAX7_whole_1 : decode cX7_whole 16 = .ok (.bipush 6, 2) ∧ decode cX7_whole 18 = .ok (.iaload, 1) ∧ decode cX7_whole 19 = .ok (.invokevirtual 290, 3) ∧ decode cX7_whole 22 = .ok (.goto 8, 3) ∧ decode cX7_whole 25 = .ok (.aload_n 0, 1) ∧ decode cX7_whole 26 = .ok (.iconst 1, 1) ∧ decode cX7_whole 27 = .ok (.invokevirtual 178, 3) ∧ decode cX7_whole 30 = .ok (.ireturn, 1) := by decide +kernel
theorem dX7_whole_16 : decode cX7_whole 16 = .ok (.bipush 6, 2) := dAX7_whole_1.1
theorem dX7_whole_18 : decode cX7_whole 18 = .ok (.iaload, 1) := dAX7_whole_1.2.1
theorem dX7_whole_19 : decode cX7_whole 19 = .ok (.invokevirtual 290, 3) := dAX7_whole_1.2.2.1
theorem dX7_whole_22 : decode cX7_whole 22 = .ok (.goto 8, 3) := dAX7_whole_1.2.2.2.1
theorem dX7_whole_25 : decode cX7_whole 25 = .ok (.aload_n 0, 1) := dAX7_whole_1.2.2.2.2.1
theorem dX7_whole_26 : decode cX7_whole 26 = .ok (.iconst 1, 1) := dAX7_whole_1.2.2.2.2.2.1
theorem dX7_whole_27 : decode cX7_whole 27 = .ok (.invokevirtual 178, 3) := dAX7_whole_1.2.2.2.2.2.2.1
theorem dX7_whole_30 : decode cX7_whole 30 = .ok (.ireturn, 1) := dAX7_whole_1.2.2.2.2.2.2.2
set_option maxRecDepth 100000 in
theorem dAX7_wholeOf_0 : decode cX7_wholeOf 0 = .ok (.aload_n 0, 1) ∧ decode cX7_wholeOf 1 = .ok (.getfield 20, 3) ∧ decode cX7_wholeOf 4 = .ok (.bipush 9, 2) ∧ decode cX7_wholeOf 6 = .ok (.iload_n 1, 1) ∧ decode cX7_wholeOf 7 = .ok (.iadd, 1) ∧ decode cX7_wholeOf 8 = .ok (.iaload, 1) ∧ decode cX7_wholeOf 9 = .ok (.ifCond .ne 7, 3) ∧ decode cX7_wholeOf 12 = .ok (.iconst 1, 1) := by decide +kernel
theorem dX7_wholeOf_0 : decode cX7_wholeOf 0 = .ok (.aload_n 0, 1) := dAX7_wholeOf_0.1
theorem dX7_wholeOf_1 : decode cX7_wholeOf 1 = .ok (.getfield 20, 3) := dAX7_wholeOf_0.2.1
theorem dX7_wholeOf_4 : decode cX7_wholeOf 4 = .ok (.bipush 9, 2) := dAX7_wholeOf_0.2.2.1
theorem dX7_wholeOf_6 : decode cX7_wholeOf 6 = .ok (.iload_n 1, 1) := dAX7_wholeOf_0.2.2.2.1
theorem dX7_wholeOf_7 : decode cX7_wholeOf 7 = .ok (.iadd, 1) := dAX7_wholeOf_0.2.2.2.2.1
theorem dX7_wholeOf_8 : decode cX7_wholeOf 8 = .ok (.iaload, 1) := dAX7_wholeOf_0.2.2.2.2.2.1
theorem dX7_wholeOf_9 : decode cX7_wholeOf 9 = .ok (.ifCond .ne 7, 3) := dAX7_wholeOf_0.2.2.2.2.2.2.1
theorem dX7_wholeOf_12 : decode cX7_wholeOf 12 = .ok (.iconst 1, 1) := dAX7_wholeOf_0.2.2.2.2.2.2.2
set_option maxRecDepth 100000 in
theorem dAX7_wholeOf_1 : decode cX7_wholeOf 13 = .ok (.goto 4, 3) ∧ decode cX7_wholeOf 16 = .ok (.iconst 0, 1) ∧ decode cX7_wholeOf 17 = .ok (.istore_n 2, 1) ∧ decode cX7_wholeOf 18 = .ok (.iconst 0, 1) ∧ decode cX7_wholeOf 19 = .ok (.istore_n 3, 1) ∧ decode cX7_wholeOf 20 = .ok (.iload_n 3, 1) ∧ decode cX7_wholeOf 21 = .ok (.aload_n 0, 1) ∧ decode cX7_wholeOf 22 = .ok (.getfield 20, 3) := by decide +kernel
theorem dX7_wholeOf_13 : decode cX7_wholeOf 13 = .ok (.goto 4, 3) := dAX7_wholeOf_1.1
theorem dX7_wholeOf_16 : decode cX7_wholeOf 16 = .ok (.iconst 0, 1) := dAX7_wholeOf_1.2.1
theorem dX7_wholeOf_17 : decode cX7_wholeOf 17 = .ok (.istore_n 2, 1) := dAX7_wholeOf_1.2.2.1
theorem dX7_wholeOf_18 : decode cX7_wholeOf 18 = .ok (.iconst 0, 1) := dAX7_wholeOf_1.2.2.2.1
theorem dX7_wholeOf_19 : decode cX7_wholeOf 19 = .ok (.istore_n 3, 1) := dAX7_wholeOf_1.2.2.2.2.1
theorem dX7_wholeOf_20 : decode cX7_wholeOf 20 = .ok (.iload_n 3, 1) := dAX7_wholeOf_1.2.2.2.2.2.1
theorem dX7_wholeOf_21 : decode cX7_wholeOf 21 = .ok (.aload_n 0, 1) := dAX7_wholeOf_1.2.2.2.2.2.2.1
theorem dX7_wholeOf_22 : decode cX7_wholeOf 22 = .ok (.getfield 20, 3) := dAX7_wholeOf_1.2.2.2.2.2.2.2
set_option maxRecDepth 100000 in
theorem dAX7_wholeOf_2 : decode cX7_wholeOf 25 = .ok (.bipush 27, 2) ∧ decode cX7_wholeOf 27 = .ok (.iload_n 1, 1) ∧ decode cX7_wholeOf 28 = .ok (.iadd, 1) ∧ decode cX7_wholeOf 29 = .ok (.iaload, 1) ∧ decode cX7_wholeOf 30 = .ok (.if_icmp .ge 26, 3) ∧ decode cX7_wholeOf 33 = .ok (.iload_n 2, 1) ∧ decode cX7_wholeOf 34 = .ok (.aload_n 0, 1) ∧ decode cX7_wholeOf 35 = .ok (.aload_n 0, 1) := by decide +kernel
theorem dX7_wholeOf_25 : decode cX7_wholeOf 25 = .ok (.bipush 27, 2) := dAX7_wholeOf_2.1
theorem dX7_wholeOf_27 : decode cX7_wholeOf 27 = .ok (.iload_n 1, 1) := dAX7_wholeOf_2.2.1
theorem dX7_wholeOf_28 : decode cX7_wholeOf 28 = .ok (.iadd, 1) := dAX7_wholeOf_2.2.2.1
theorem dX7_wholeOf_29 : decode cX7_wholeOf 29 = .ok (.iaload, 1) := dAX7_wholeOf_2.2.2.2.1
theorem dX7_wholeOf_30 : decode cX7_wholeOf 30 = .ok (.if_icmp .ge 26, 3) := dAX7_wholeOf_2.2.2.2.2.1
theorem dX7_wholeOf_33 : decode cX7_wholeOf 33 = .ok (.iload_n 2, 1) := dAX7_wholeOf_2.2.2.2.2.2.1
theorem dX7_wholeOf_34 : decode cX7_wholeOf 34 = .ok (.aload_n 0, 1) := dAX7_wholeOf_2.2.2.2.2.2.2.1
theorem dX7_wholeOf_35 : decode cX7_wholeOf 35 = .ok (.aload_n 0, 1) := dAX7_wholeOf_2.2.2.2.2.2.2.2
set_option maxRecDepth 100000 in
theorem dAX7_wholeOf_3 : decode cX7_wholeOf 36 = .ok (.getfield 32, 3) ∧ decode cX7_wholeOf 39 = .ok (.iconst 4, 1) ∧ decode cX7_wholeOf 40 = .ok (.iload_n 1, 1) ∧ decode cX7_wholeOf 41 = .ok (.imul, 1) ∧ decode cX7_wholeOf 42 = .ok (.iload_n 3, 1) ∧ decode cX7_wholeOf 43 = .ok (.iadd, 1) ∧ decode cX7_wholeOf 44 = .ok (.iaload, 1) ∧ decode cX7_wholeOf 45 = .ok (.invokevirtual 290, 3) := by decide +kernel
theorem dX7_wholeOf_36 : decode cX7_wholeOf 36 = .ok (.getfield 32, 3) := dAX7_wholeOf_3.1
theorem dX7_wholeOf_39 : decode cX7_wholeOf 39 = .ok (.iconst 4, 1) := dAX7_wholeOf_3.2.1
theorem dX7_wholeOf_40 : decode cX7_wholeOf 40 = .ok (.iload_n 1, 1) := dAX7_wholeOf_3.2.2.1
theorem dX7_wholeOf_41 : decode cX7_wholeOf 41 = .ok (.imul, 1) := dAX7_wholeOf_3.2.2.2.1
theorem dX7_wholeOf_42 : decode cX7_wholeOf 42 = .ok (.iload_n 3, 1) := dAX7_wholeOf_3.2.2.2.2.1
theorem dX7_wholeOf_43 : decode cX7_wholeOf 43 = .ok (.iadd, 1) := dAX7_wholeOf_3.2.2.2.2.2.1
theorem dX7_wholeOf_44 : decode cX7_wholeOf 44 = .ok (.iaload, 1) := dAX7_wholeOf_3.2.2.2.2.2.2.1
theorem dX7_wholeOf_45 : decode cX7_wholeOf 45 = .ok (.invokevirtual 290, 3) := dAX7_wholeOf_3.2.2.2.2.2.2.2
set_option maxRecDepth 100000 in
theorem dAX7_wholeOf_4 : decode cX7_wholeOf 48 = .ok (.iadd, 1) ∧ decode cX7_wholeOf 49 = .ok (.istore_n 2, 1) ∧ decode cX7_wholeOf 50 = .ok (.iinc 3 1, 3) ∧ decode cX7_wholeOf 53 = .ok (.goto (-33), 3) ∧ decode cX7_wholeOf 56 = .ok (.iload_n 2, 1) ∧ decode cX7_wholeOf 57 = .ok (.ireturn, 1) := by decide +kernel
theorem dX7_wholeOf_48 : decode cX7_wholeOf 48 = .ok (.iadd, 1) := dAX7_wholeOf_4.1
theorem dX7_wholeOf_49 : decode cX7_wholeOf 49 = .ok (.istore_n 2, 1) := dAX7_wholeOf_4.2.1
theorem dX7_wholeOf_50 : decode cX7_wholeOf 50 = .ok (.iinc 3 1, 3) := dAX7_wholeOf_4.2.2.1
theorem dX7_wholeOf_53 : decode cX7_wholeOf 53 = .ok (.goto (-33), 3) := dAX7_wholeOf_4.2.2.2.1
theorem dX7_wholeOf_56 : decode cX7_wholeOf 56 = .ok (.iload_n 2, 1) := dAX7_wholeOf_4.2.2.2.2.1
theorem dX7_wholeOf_57 : decode cX7_wholeOf 57 = .ok (.ireturn, 1) := dAX7_wholeOf_4.2.2.2.2.2
set_option maxRecDepth 100000 in
theorem dAX7_wholesOf_0 : decode cX7_wholesOf 0 = .ok (.iconst 0, 1) ∧ decode cX7_wholesOf 1 = .ok (.istore_n 2, 1) ∧ decode cX7_wholesOf 2 = .ok (.iconst 0, 1) ∧ decode cX7_wholesOf 3 = .ok (.istore_n 3, 1) ∧ decode cX7_wholesOf 4 = .ok (.iload_n 3, 1) ∧ decode cX7_wholesOf 5 = .ok (.aload_n 0, 1) ∧ decode cX7_wholesOf 6 = .ok (.getfield 20, 3) ∧ decode cX7_wholesOf 9 = .ok (.iconst 1, 1) := by decide +kernel
theorem dX7_wholesOf_0 : decode cX7_wholesOf 0 = .ok (.iconst 0, 1) := dAX7_wholesOf_0.1
theorem dX7_wholesOf_1 : decode cX7_wholesOf 1 = .ok (.istore_n 2, 1) := dAX7_wholesOf_0.2.1
theorem dX7_wholesOf_2 : decode cX7_wholesOf 2 = .ok (.iconst 0, 1) := dAX7_wholesOf_0.2.2.1
theorem dX7_wholesOf_3 : decode cX7_wholesOf 3 = .ok (.istore_n 3, 1) := dAX7_wholesOf_0.2.2.2.1
theorem dX7_wholesOf_4 : decode cX7_wholesOf 4 = .ok (.iload_n 3, 1) := dAX7_wholesOf_0.2.2.2.2.1
theorem dX7_wholesOf_5 : decode cX7_wholesOf 5 = .ok (.aload_n 0, 1) := dAX7_wholesOf_0.2.2.2.2.2.1
theorem dX7_wholesOf_6 : decode cX7_wholesOf 6 = .ok (.getfield 20, 3) := dAX7_wholesOf_0.2.2.2.2.2.2.1
theorem dX7_wholesOf_9 : decode cX7_wholesOf 9 = .ok (.iconst 1, 1) := dAX7_wholesOf_0.2.2.2.2.2.2.2
set_option maxRecDepth 100000 in
theorem dAX7_wholesOf_1 : decode cX7_wholesOf 10 = .ok (.iaload, 1) ∧ decode cX7_wholesOf 11 = .ok (.if_icmp .ge 57, 3) ∧ decode cX7_wholesOf 14 = .ok (.iconst 0, 1) ∧ decode cX7_wholesOf 15 = .ok (.istore 4, 2) ∧ decode cX7_wholesOf 17 = .ok (.iload 4, 2) ∧ decode cX7_wholesOf 19 = .ok (.aload_n 0, 1) ∧ decode cX7_wholesOf 20 = .ok (.getfield 20, 3) ∧ decode cX7_wholesOf 23 = .ok (.bipush 27, 2) := by decide +kernel
theorem dX7_wholesOf_10 : decode cX7_wholesOf 10 = .ok (.iaload, 1) := dAX7_wholesOf_1.1
theorem dX7_wholesOf_11 : decode cX7_wholesOf 11 = .ok (.if_icmp .ge 57, 3) := dAX7_wholesOf_1.2.1
theorem dX7_wholesOf_14 : decode cX7_wholesOf 14 = .ok (.iconst 0, 1) := dAX7_wholesOf_1.2.2.1
theorem dX7_wholesOf_15 : decode cX7_wholesOf 15 = .ok (.istore 4, 2) := dAX7_wholesOf_1.2.2.2.1
theorem dX7_wholesOf_17 : decode cX7_wholesOf 17 = .ok (.iload 4, 2) := dAX7_wholesOf_1.2.2.2.2.1
theorem dX7_wholesOf_19 : decode cX7_wholesOf 19 = .ok (.aload_n 0, 1) := dAX7_wholesOf_1.2.2.2.2.2.1
theorem dX7_wholesOf_20 : decode cX7_wholesOf 20 = .ok (.getfield 20, 3) := dAX7_wholesOf_1.2.2.2.2.2.2.1
theorem dX7_wholesOf_23 : decode cX7_wholesOf 23 = .ok (.bipush 27, 2) := dAX7_wholesOf_1.2.2.2.2.2.2.2
set_option maxRecDepth 100000 in
theorem dAX7_wholesOf_2 : decode cX7_wholesOf 25 = .ok (.iload_n 3, 1) ∧ decode cX7_wholesOf 26 = .ok (.iadd, 1) ∧ decode cX7_wholesOf 27 = .ok (.iaload, 1) ∧ decode cX7_wholesOf 28 = .ok (.if_icmp .ge 34, 3) ∧ decode cX7_wholesOf 31 = .ok (.iload_n 2, 1) ∧ decode cX7_wholesOf 32 = .ok (.aload_n 0, 1) ∧ decode cX7_wholesOf 33 = .ok (.getfield 32, 3) ∧ decode cX7_wholesOf 36 = .ok (.iconst 4, 1) := by decide +kernel
theorem dX7_wholesOf_25 : decode cX7_wholesOf 25 = .ok (.iload_n 3, 1) := dAX7_wholesOf_2.1
theorem dX7_wholesOf_26 : decode cX7_wholesOf 26 = .ok (.iadd, 1) := dAX7_wholesOf_2.2.1
theorem dX7_wholesOf_27 : decode cX7_wholesOf 27 = .ok (.iaload, 1) := dAX7_wholesOf_2.2.2.1
theorem dX7_wholesOf_28 : decode cX7_wholesOf 28 = .ok (.if_icmp .ge 34, 3) := dAX7_wholesOf_2.2.2.2.1
theorem dX7_wholesOf_31 : decode cX7_wholesOf 31 = .ok (.iload_n 2, 1) := dAX7_wholesOf_2.2.2.2.2.1
theorem dX7_wholesOf_32 : decode cX7_wholesOf 32 = .ok (.aload_n 0, 1) := dAX7_wholesOf_2.2.2.2.2.2.1
theorem dX7_wholesOf_33 : decode cX7_wholesOf 33 = .ok (.getfield 32, 3) := dAX7_wholesOf_2.2.2.2.2.2.2.1
theorem dX7_wholesOf_36 : decode cX7_wholesOf 36 = .ok (.iconst 4, 1) := dAX7_wholesOf_2.2.2.2.2.2.2.2
set_option maxRecDepth 100000 in
theorem dAX7_wholesOf_3 : decode cX7_wholesOf 37 = .ok (.iload_n 3, 1) ∧ decode cX7_wholesOf 38 = .ok (.imul, 1) ∧ decode cX7_wholesOf 39 = .ok (.iload 4, 2) ∧ decode cX7_wholesOf 41 = .ok (.iadd, 1) ∧ decode cX7_wholesOf 42 = .ok (.iaload, 1) ∧ decode cX7_wholesOf 43 = .ok (.iload_n 1, 1) ∧ decode cX7_wholesOf 44 = .ok (.if_icmp .ne 9, 3) ∧ decode cX7_wholesOf 47 = .ok (.iconst 1, 1) := by decide +kernel
theorem dX7_wholesOf_37 : decode cX7_wholesOf 37 = .ok (.iload_n 3, 1) := dAX7_wholesOf_3.1
theorem dX7_wholesOf_38 : decode cX7_wholesOf 38 = .ok (.imul, 1) := dAX7_wholesOf_3.2.1
theorem dX7_wholesOf_39 : decode cX7_wholesOf 39 = .ok (.iload 4, 2) := dAX7_wholesOf_3.2.2.1
theorem dX7_wholesOf_41 : decode cX7_wholesOf 41 = .ok (.iadd, 1) := dAX7_wholesOf_3.2.2.2.1
theorem dX7_wholesOf_42 : decode cX7_wholesOf 42 = .ok (.iaload, 1) := dAX7_wholesOf_3.2.2.2.2.1
theorem dX7_wholesOf_43 : decode cX7_wholesOf 43 = .ok (.iload_n 1, 1) := dAX7_wholesOf_3.2.2.2.2.2.1
theorem dX7_wholesOf_44 : decode cX7_wholesOf 44 = .ok (.if_icmp .ne 9, 3) := dAX7_wholesOf_3.2.2.2.2.2.2.1
theorem dX7_wholesOf_47 : decode cX7_wholesOf 47 = .ok (.iconst 1, 1) := dAX7_wholesOf_3.2.2.2.2.2.2.2
set_option maxRecDepth 100000 in
theorem dAX7_wholesOf_4 : decode cX7_wholesOf 48 = .ok (.iload_n 3, 1) ∧ decode cX7_wholesOf 49 = .ok (.ishl, 1) ∧ decode cX7_wholesOf 50 = .ok (.goto 4, 3) ∧ decode cX7_wholesOf 53 = .ok (.iconst 0, 1) ∧ decode cX7_wholesOf 54 = .ok (.ior, 1) ∧ decode cX7_wholesOf 55 = .ok (.istore_n 2, 1) ∧ decode cX7_wholesOf 56 = .ok (.iinc 4 1, 3) ∧ decode cX7_wholesOf 59 = .ok (.goto (-42), 3) := by decide +kernel
theorem dX7_wholesOf_48 : decode cX7_wholesOf 48 = .ok (.iload_n 3, 1) := dAX7_wholesOf_4.1
theorem dX7_wholesOf_49 : decode cX7_wholesOf 49 = .ok (.ishl, 1) := dAX7_wholesOf_4.2.1
theorem dX7_wholesOf_50 : decode cX7_wholesOf 50 = .ok (.goto 4, 3) := dAX7_wholesOf_4.2.2.1
theorem dX7_wholesOf_53 : decode cX7_wholesOf 53 = .ok (.iconst 0, 1) := dAX7_wholesOf_4.2.2.2.1
theorem dX7_wholesOf_54 : decode cX7_wholesOf 54 = .ok (.ior, 1) := dAX7_wholesOf_4.2.2.2.2.1
theorem dX7_wholesOf_55 : decode cX7_wholesOf 55 = .ok (.istore_n 2, 1) := dAX7_wholesOf_4.2.2.2.2.2.1
theorem dX7_wholesOf_56 : decode cX7_wholesOf 56 = .ok (.iinc 4 1, 3) := dAX7_wholesOf_4.2.2.2.2.2.2.1
theorem dX7_wholesOf_59 : decode cX7_wholesOf 59 = .ok (.goto (-42), 3) := dAX7_wholesOf_4.2.2.2.2.2.2.2
set_option maxRecDepth 100000 in
theorem dAX7_wholesOf_5 : decode cX7_wholesOf 62 = .ok (.iinc 3 1, 3) ∧ decode cX7_wholesOf 65 = .ok (.goto (-61), 3) ∧ decode cX7_wholesOf 68 = .ok (.iload_n 2, 1) ∧ decode cX7_wholesOf 69 = .ok (.ireturn, 1) := by decide +kernel
theorem dX7_wholesOf_62 : decode cX7_wholesOf 62 = .ok (.iinc 3 1, 3) := dAX7_wholesOf_5.1
theorem dX7_wholesOf_65 : decode cX7_wholesOf 65 = .ok (.goto (-61), 3) := dAX7_wholesOf_5.2.1
theorem dX7_wholesOf_68 : decode cX7_wholesOf 68 = .ok (.iload_n 2, 1) := dAX7_wholesOf_5.2.2.1
theorem dX7_wholesOf_69 : decode cX7_wholesOf 69 = .ok (.ireturn, 1) := dAX7_wholesOf_5.2.2.2
set_option maxRecDepth 100000 in
theorem dAX7_why_0 : decode cX7_why 0 = .ok (.aload_n 0, 1) ∧ decode cX7_why 1 = .ok (.getfield 187, 3) ∧ decode cX7_why 4 = .ok (.ifCond .ne 7, 3) ∧ decode cX7_why 7 = .ok (.iconst 1, 1) ∧ decode cX7_why 8 = .ok (.goto 12, 3) ∧ decode cX7_why 11 = .ok (.iload_n 1, 1) ∧ decode cX7_why 12 = .ok (.ifCond .eq 7, 3) ∧ decode cX7_why 15 = .ok (.iconst 0, 1) := by decide +kernel
theorem dX7_why_0 : decode cX7_why 0 = .ok (.aload_n 0, 1) := dAX7_why_0.1
theorem dX7_why_1 : decode cX7_why 1 = .ok (.getfield 187, 3) := dAX7_why_0.2.1
theorem dX7_why_4 : decode cX7_why 4 = .ok (.ifCond .ne 7, 3) := dAX7_why_0.2.2.1
theorem dX7_why_7 : decode cX7_why 7 = .ok (.iconst 1, 1) := dAX7_why_0.2.2.2.1
theorem dX7_why_8 : decode cX7_why 8 = .ok (.goto 12, 3) := dAX7_why_0.2.2.2.2.1
theorem dX7_why_11 : decode cX7_why 11 = .ok (.iload_n 1, 1) := dAX7_why_0.2.2.2.2.2.1
theorem dX7_why_12 : decode cX7_why 12 = .ok (.ifCond .eq 7, 3) := dAX7_why_0.2.2.2.2.2.2.1
theorem dX7_why_15 : decode cX7_why 15 = .ok (.iconst 0, 1) := dAX7_why_0.2.2.2.2.2.2.2
set_option maxRecDepth 100000 in
theorem dAX7_why_1 : decode cX7_why 16 = .ok (.goto 4, 3) ∧ decode cX7_why 19 = .ok (.iconst 2, 1) ∧ decode cX7_why 20 = .ok (.ireturn, 1) := by decide +kernel
theorem dX7_why_16 : decode cX7_why 16 = .ok (.goto 4, 3) := dAX7_why_1.1
theorem dX7_why_19 : decode cX7_why 19 = .ok (.iconst 2, 1) := dAX7_why_1.2.1
theorem dX7_why_20 : decode cX7_why 20 = .ok (.ireturn, 1) := dAX7_why_1.2.2
set_option maxRecDepth 100000 in
theorem dAX7_wordLine_0 : decode cX7_wordLine 0 = .ok (.aload_n 0, 1) ∧ decode cX7_wordLine 1 = .ok (.getfield 103, 3) ∧ decode cX7_wordLine 4 = .ok (.ifCond .eq 4, 3) ∧ decode cX7_wordLine 7 = .ok (.return_, 1) ∧ decode cX7_wordLine 8 = .ok (.aload_n 0, 1) ∧ decode cX7_wordLine 9 = .ok (.invokevirtual 228, 3) ∧ decode cX7_wordLine 12 = .ok (.aload_n 0, 1) ∧ decode cX7_wordLine 13 = .ok (.ldc 231, 2) := by decide +kernel
theorem dX7_wordLine_0 : decode cX7_wordLine 0 = .ok (.aload_n 0, 1) := dAX7_wordLine_0.1
theorem dX7_wordLine_1 : decode cX7_wordLine 1 = .ok (.getfield 103, 3) := dAX7_wordLine_0.2.1
theorem dX7_wordLine_4 : decode cX7_wordLine 4 = .ok (.ifCond .eq 4, 3) := dAX7_wordLine_0.2.2.1
theorem dX7_wordLine_7 : decode cX7_wordLine 7 = .ok (.return_, 1) := dAX7_wordLine_0.2.2.2.1
theorem dX7_wordLine_8 : decode cX7_wordLine 8 = .ok (.aload_n 0, 1) := dAX7_wordLine_0.2.2.2.2.1
theorem dX7_wordLine_9 : decode cX7_wordLine 9 = .ok (.invokevirtual 228, 3) := dAX7_wordLine_0.2.2.2.2.2.1
theorem dX7_wordLine_12 : decode cX7_wordLine 12 = .ok (.aload_n 0, 1) := dAX7_wordLine_0.2.2.2.2.2.2.1
theorem dX7_wordLine_13 : decode cX7_wordLine 13 = .ok (.ldc 231, 2) := dAX7_wordLine_0.2.2.2.2.2.2.2
set_option maxRecDepth 100000 in
theorem dAX7_wordLine_1 : decode cX7_wordLine 15 = .ok (.iconst 0, 1) ∧ decode cX7_wordLine 16 = .ok (.bipush 99, 2) ∧ decode cX7_wordLine 18 = .ok (.invokevirtual 224, 3) ∧ decode cX7_wordLine 21 = .ok (.istore_n 1, 1) ∧ decode cX7_wordLine 22 = .ok (.aload_n 0, 1) ∧ decode cX7_wordLine 23 = .ok (.getfield 103, 3) ∧ decode cX7_wordLine 26 = .ok (.ifCond .eq 4, 3) ∧ decode cX7_wordLine 29 = .ok (.return_, 1) := by decide +kernel
theorem dX7_wordLine_15 : decode cX7_wordLine 15 = .ok (.iconst 0, 1) := dAX7_wordLine_1.1
theorem dX7_wordLine_16 : decode cX7_wordLine 16 = .ok (.bipush 99, 2) := dAX7_wordLine_1.2.1
theorem dX7_wordLine_18 : decode cX7_wordLine 18 = .ok (.invokevirtual 224, 3) := dAX7_wordLine_1.2.2.1
theorem dX7_wordLine_21 : decode cX7_wordLine 21 = .ok (.istore_n 1, 1) := dAX7_wordLine_1.2.2.2.1
theorem dX7_wordLine_22 : decode cX7_wordLine 22 = .ok (.aload_n 0, 1) := dAX7_wordLine_1.2.2.2.2.1
theorem dX7_wordLine_23 : decode cX7_wordLine 23 = .ok (.getfield 103, 3) := dAX7_wordLine_1.2.2.2.2.2.1
theorem dX7_wordLine_26 : decode cX7_wordLine 26 = .ok (.ifCond .eq 4, 3) := dAX7_wordLine_1.2.2.2.2.2.2.1
theorem dX7_wordLine_29 : decode cX7_wordLine 29 = .ok (.return_, 1) := dAX7_wordLine_1.2.2.2.2.2.2.2
set_option maxRecDepth 100000 in
theorem dAX7_wordLine_2 : decode cX7_wordLine 30 = .ok (.aload_n 0, 1) ∧ decode cX7_wordLine 31 = .ok (.getfield 29, 3) ∧ decode cX7_wordLine 34 = .ok (.bipush 72, 2) ∧ decode cX7_wordLine 36 = .ok (.aload_n 0, 1) ∧ decode cX7_wordLine 37 = .ok (.getfield 23, 3) ∧ decode cX7_wordLine 40 = .ok (.iconst 1, 1) ∧ decode cX7_wordLine 41 = .ok (.iaload, 1) ∧ decode cX7_wordLine 42 = .ok (.iadd, 1) := by decide +kernel
theorem dX7_wordLine_30 : decode cX7_wordLine 30 = .ok (.aload_n 0, 1) := dAX7_wordLine_2.1
theorem dX7_wordLine_31 : decode cX7_wordLine 31 = .ok (.getfield 29, 3) := dAX7_wordLine_2.2.1
theorem dX7_wordLine_34 : decode cX7_wordLine 34 = .ok (.bipush 72, 2) := dAX7_wordLine_2.2.2.1
theorem dX7_wordLine_36 : decode cX7_wordLine 36 = .ok (.aload_n 0, 1) := dAX7_wordLine_2.2.2.2.1
theorem dX7_wordLine_37 : decode cX7_wordLine 37 = .ok (.getfield 23, 3) := dAX7_wordLine_2.2.2.2.2.1
theorem dX7_wordLine_40 : decode cX7_wordLine 40 = .ok (.iconst 1, 1) := dAX7_wordLine_2.2.2.2.2.2.1
theorem dX7_wordLine_41 : decode cX7_wordLine 41 = .ok (.iaload, 1) := dAX7_wordLine_2.2.2.2.2.2.2.1
theorem dX7_wordLine_42 : decode cX7_wordLine 42 = .ok (.iadd, 1) := dAX7_wordLine_2.2.2.2.2.2.2.2
set_option maxRecDepth 100000 in
theorem dAX7_wordLine_3 : decode cX7_wordLine 43 = .ok (.iload_n 1, 1) ∧ decode cX7_wordLine 44 = .ok (.iastore, 1) ∧ decode cX7_wordLine 45 = .ok (.aload_n 0, 1) ∧ decode cX7_wordLine 46 = .ok (.iconst 0, 1) ∧ decode cX7_wordLine 47 = .ok (.invokevirtual 233, 3) ∧ decode cX7_wordLine 50 = .ok (.aload_n 0, 1) ∧ decode cX7_wordLine 51 = .ok (.getfield 23, 3) ∧ decode cX7_wordLine 54 = .ok (.iconst 2, 1) := by decide +kernel
theorem dX7_wordLine_43 : decode cX7_wordLine 43 = .ok (.iload_n 1, 1) := dAX7_wordLine_3.1
theorem dX7_wordLine_44 : decode cX7_wordLine 44 = .ok (.iastore, 1) := dAX7_wordLine_3.2.1
theorem dX7_wordLine_45 : decode cX7_wordLine 45 = .ok (.aload_n 0, 1) := dAX7_wordLine_3.2.2.1
theorem dX7_wordLine_46 : decode cX7_wordLine 46 = .ok (.iconst 0, 1) := dAX7_wordLine_3.2.2.2.1
theorem dX7_wordLine_47 : decode cX7_wordLine 47 = .ok (.invokevirtual 233, 3) := dAX7_wordLine_3.2.2.2.2.1
theorem dX7_wordLine_50 : decode cX7_wordLine 50 = .ok (.aload_n 0, 1) := dAX7_wordLine_3.2.2.2.2.2.1
theorem dX7_wordLine_51 : decode cX7_wordLine 51 = .ok (.getfield 23, 3) := dAX7_wordLine_3.2.2.2.2.2.2.1
theorem dX7_wordLine_54 : decode cX7_wordLine 54 = .ok (.iconst 2, 1) := dAX7_wordLine_3.2.2.2.2.2.2.2
set_option maxRecDepth 100000 in
theorem dAX7_wordLine_4 : decode cX7_wordLine 55 = .ok (.dup2, 1) ∧ decode cX7_wordLine 56 = .ok (.iaload, 1) ∧ decode cX7_wordLine 57 = .ok (.iconst 1, 1) ∧ decode cX7_wordLine 58 = .ok (.iadd, 1) ∧ decode cX7_wordLine 59 = .ok (.iastore, 1) ∧ decode cX7_wordLine 60 = .ok (.return_, 1) := by decide +kernel
theorem dX7_wordLine_55 : decode cX7_wordLine 55 = .ok (.dup2, 1) := dAX7_wordLine_4.1
theorem dX7_wordLine_56 : decode cX7_wordLine 56 = .ok (.iaload, 1) := dAX7_wordLine_4.2.1
theorem dX7_wordLine_57 : decode cX7_wordLine 57 = .ok (.iconst 1, 1) := dAX7_wordLine_4.2.2.1
theorem dX7_wordLine_58 : decode cX7_wordLine 58 = .ok (.iadd, 1) := dAX7_wordLine_4.2.2.2.1
theorem dX7_wordLine_59 : decode cX7_wordLine 59 = .ok (.iastore, 1) := dAX7_wordLine_4.2.2.2.2.1
theorem dX7_wordLine_60 : decode cX7_wordLine 60 = .ok (.return_, 1) := dAX7_wordLine_4.2.2.2.2.2
set_option maxRecDepth 100000 in
theorem dAX7_wordsBelow_0 : decode cX7_wordsBelow 0 = .ok (.aload_n 0, 1) ∧ decode cX7_wordsBelow 1 = .ok (.getfield 20, 3) ∧ decode cX7_wordsBelow 4 = .ok (.bipush 9, 2) ∧ decode cX7_wordsBelow 6 = .ok (.iload_n 1, 1) ∧ decode cX7_wordsBelow 7 = .ok (.iadd, 1) ∧ decode cX7_wordsBelow 8 = .ok (.iaload, 1) ∧ decode cX7_wordsBelow 9 = .ok (.ifCond .ne 9, 3) ∧ decode cX7_wordsBelow 12 = .ok (.iconst 1, 1) := by decide +kernel
theorem dX7_wordsBelow_0 : decode cX7_wordsBelow 0 = .ok (.aload_n 0, 1) := dAX7_wordsBelow_0.1
theorem dX7_wordsBelow_1 : decode cX7_wordsBelow 1 = .ok (.getfield 20, 3) := dAX7_wordsBelow_0.2.1
theorem dX7_wordsBelow_4 : decode cX7_wordsBelow 4 = .ok (.bipush 9, 2) := dAX7_wordsBelow_0.2.2.1
theorem dX7_wordsBelow_6 : decode cX7_wordsBelow 6 = .ok (.iload_n 1, 1) := dAX7_wordsBelow_0.2.2.2.1
theorem dX7_wordsBelow_7 : decode cX7_wordsBelow 7 = .ok (.iadd, 1) := dAX7_wordsBelow_0.2.2.2.2.1
theorem dX7_wordsBelow_8 : decode cX7_wordsBelow 8 = .ok (.iaload, 1) := dAX7_wordsBelow_0.2.2.2.2.2.1
theorem dX7_wordsBelow_9 : decode cX7_wordsBelow 9 = .ok (.ifCond .ne 9, 3) := dAX7_wordsBelow_0.2.2.2.2.2.2.1
theorem dX7_wordsBelow_12 : decode cX7_wordsBelow 12 = .ok (.iconst 1, 1) := dAX7_wordsBelow_0.2.2.2.2.2.2.2
set_option maxRecDepth 100000 in
theorem dAX7_wordsBelow_1 : decode cX7_wordsBelow 13 = .ok (.iload_n 1, 1) ∧ decode cX7_wordsBelow 14 = .ok (.ishl, 1) ∧ decode cX7_wordsBelow 15 = .ok (.goto 4, 3) ∧ decode cX7_wordsBelow 18 = .ok (.iconst 0, 1) ∧ decode cX7_wordsBelow 19 = .ok (.istore_n 2, 1) ∧ decode cX7_wordsBelow 20 = .ok (.iconst 0, 1) ∧ decode cX7_wordsBelow 21 = .ok (.istore_n 3, 1) ∧ decode cX7_wordsBelow 22 = .ok (.iload_n 3, 1) := by decide +kernel
theorem dX7_wordsBelow_13 : decode cX7_wordsBelow 13 = .ok (.iload_n 1, 1) := dAX7_wordsBelow_1.1
theorem dX7_wordsBelow_14 : decode cX7_wordsBelow 14 = .ok (.ishl, 1) := dAX7_wordsBelow_1.2.1
theorem dX7_wordsBelow_15 : decode cX7_wordsBelow 15 = .ok (.goto 4, 3) := dAX7_wordsBelow_1.2.2.1
theorem dX7_wordsBelow_18 : decode cX7_wordsBelow 18 = .ok (.iconst 0, 1) := dAX7_wordsBelow_1.2.2.2.1
theorem dX7_wordsBelow_19 : decode cX7_wordsBelow 19 = .ok (.istore_n 2, 1) := dAX7_wordsBelow_1.2.2.2.2.1
theorem dX7_wordsBelow_20 : decode cX7_wordsBelow 20 = .ok (.iconst 0, 1) := dAX7_wordsBelow_1.2.2.2.2.2.1
theorem dX7_wordsBelow_21 : decode cX7_wordsBelow 21 = .ok (.istore_n 3, 1) := dAX7_wordsBelow_1.2.2.2.2.2.2.1
theorem dX7_wordsBelow_22 : decode cX7_wordsBelow 22 = .ok (.iload_n 3, 1) := dAX7_wordsBelow_1.2.2.2.2.2.2.2
set_option maxRecDepth 100000 in
theorem dAX7_wordsBelow_2 : decode cX7_wordsBelow 23 = .ok (.aload_n 0, 1) ∧ decode cX7_wordsBelow 24 = .ok (.getfield 20, 3) ∧ decode cX7_wordsBelow 27 = .ok (.bipush 27, 2) ∧ decode cX7_wordsBelow 29 = .ok (.iload_n 1, 1) ∧ decode cX7_wordsBelow 30 = .ok (.iadd, 1) ∧ decode cX7_wordsBelow 31 = .ok (.iaload, 1) ∧ decode cX7_wordsBelow 32 = .ok (.if_icmp .ge 26, 3) ∧ decode cX7_wordsBelow 35 = .ok (.iload_n 2, 1) := by decide +kernel
theorem dX7_wordsBelow_23 : decode cX7_wordsBelow 23 = .ok (.aload_n 0, 1) := dAX7_wordsBelow_2.1
theorem dX7_wordsBelow_24 : decode cX7_wordsBelow 24 = .ok (.getfield 20, 3) := dAX7_wordsBelow_2.2.1
theorem dX7_wordsBelow_27 : decode cX7_wordsBelow 27 = .ok (.bipush 27, 2) := dAX7_wordsBelow_2.2.2.1
theorem dX7_wordsBelow_29 : decode cX7_wordsBelow 29 = .ok (.iload_n 1, 1) := dAX7_wordsBelow_2.2.2.2.1
theorem dX7_wordsBelow_30 : decode cX7_wordsBelow 30 = .ok (.iadd, 1) := dAX7_wordsBelow_2.2.2.2.2.1
theorem dX7_wordsBelow_31 : decode cX7_wordsBelow 31 = .ok (.iaload, 1) := dAX7_wordsBelow_2.2.2.2.2.2.1
theorem dX7_wordsBelow_32 : decode cX7_wordsBelow 32 = .ok (.if_icmp .ge 26, 3) := dAX7_wordsBelow_2.2.2.2.2.2.2.1
theorem dX7_wordsBelow_35 : decode cX7_wordsBelow 35 = .ok (.iload_n 2, 1) := dAX7_wordsBelow_2.2.2.2.2.2.2.2
set_option maxRecDepth 100000 in
theorem dAX7_wordsBelow_3 : decode cX7_wordsBelow 36 = .ok (.aload_n 0, 1) ∧ decode cX7_wordsBelow 37 = .ok (.aload_n 0, 1) ∧ decode cX7_wordsBelow 38 = .ok (.getfield 32, 3) ∧ decode cX7_wordsBelow 41 = .ok (.iconst 4, 1) ∧ decode cX7_wordsBelow 42 = .ok (.iload_n 1, 1) ∧ decode cX7_wordsBelow 43 = .ok (.imul, 1) ∧ decode cX7_wordsBelow 44 = .ok (.iload_n 3, 1) ∧ decode cX7_wordsBelow 45 = .ok (.iadd, 1) := by decide +kernel
theorem dX7_wordsBelow_36 : decode cX7_wordsBelow 36 = .ok (.aload_n 0, 1) := dAX7_wordsBelow_3.1
theorem dX7_wordsBelow_37 : decode cX7_wordsBelow 37 = .ok (.aload_n 0, 1) := dAX7_wordsBelow_3.2.1
theorem dX7_wordsBelow_38 : decode cX7_wordsBelow 38 = .ok (.getfield 32, 3) := dAX7_wordsBelow_3.2.2.1
theorem dX7_wordsBelow_41 : decode cX7_wordsBelow 41 = .ok (.iconst 4, 1) := dAX7_wordsBelow_3.2.2.2.1
theorem dX7_wordsBelow_42 : decode cX7_wordsBelow 42 = .ok (.iload_n 1, 1) := dAX7_wordsBelow_3.2.2.2.2.1
theorem dX7_wordsBelow_43 : decode cX7_wordsBelow 43 = .ok (.imul, 1) := dAX7_wordsBelow_3.2.2.2.2.2.1
theorem dX7_wordsBelow_44 : decode cX7_wordsBelow 44 = .ok (.iload_n 3, 1) := dAX7_wordsBelow_3.2.2.2.2.2.2.1
theorem dX7_wordsBelow_45 : decode cX7_wordsBelow 45 = .ok (.iadd, 1) := dAX7_wordsBelow_3.2.2.2.2.2.2.2
set_option maxRecDepth 100000 in
theorem dAX7_wordsBelow_4 : decode cX7_wordsBelow 46 = .ok (.iaload, 1) ∧ decode cX7_wordsBelow 47 = .ok (.invokevirtual 277, 3) ∧ decode cX7_wordsBelow 50 = .ok (.ior, 1) ∧ decode cX7_wordsBelow 51 = .ok (.istore_n 2, 1) ∧ decode cX7_wordsBelow 52 = .ok (.iinc 3 1, 3) ∧ decode cX7_wordsBelow 55 = .ok (.goto (-33), 3) ∧ decode cX7_wordsBelow 58 = .ok (.iload_n 2, 1) ∧ decode cX7_wordsBelow 59 = .ok (.ireturn, 1) := by decide +kernel
theorem dX7_wordsBelow_46 : decode cX7_wordsBelow 46 = .ok (.iaload, 1) := dAX7_wordsBelow_4.1
theorem dX7_wordsBelow_47 : decode cX7_wordsBelow 47 = .ok (.invokevirtual 277, 3) := dAX7_wordsBelow_4.2.1
theorem dX7_wordsBelow_50 : decode cX7_wordsBelow 50 = .ok (.ior, 1) := dAX7_wordsBelow_4.2.2.1
theorem dX7_wordsBelow_51 : decode cX7_wordsBelow 51 = .ok (.istore_n 2, 1) := dAX7_wordsBelow_4.2.2.2.1
theorem dX7_wordsBelow_52 : decode cX7_wordsBelow 52 = .ok (.iinc 3 1, 3) := dAX7_wordsBelow_4.2.2.2.2.1
theorem dX7_wordsBelow_55 : decode cX7_wordsBelow 55 = .ok (.goto (-33), 3) := dAX7_wordsBelow_4.2.2.2.2.2.1
theorem dX7_wordsBelow_58 : decode cX7_wordsBelow 58 = .ok (.iload_n 2, 1) := dAX7_wordsBelow_4.2.2.2.2.2.2.1
theorem dX7_wordsBelow_59 : decode cX7_wordsBelow 59 = .ok (.ireturn, 1) := dAX7_wordsBelow_4.2.2.2.2.2.2.2
set_option maxRecDepth 100000 in
theorem dAX7_worth_0 : decode cX7_worth 0 = .ok (.aload_n 0, 1) ∧ decode cX7_worth 1 = .ok (.invokevirtual 175, 3) ∧ decode cX7_worth 4 = .ok (.aload_n 0, 1) ∧ decode cX7_worth 5 = .ok (.iload_n 1, 1) ∧ decode cX7_worth 6 = .ok (.invokevirtual 242, 3) ∧ decode cX7_worth 9 = .ok (.ifCond .eq 25, 3) ∧ decode cX7_worth 12 = .ok (.aload_n 0, 1) ∧ decode cX7_worth 13 = .ok (.aload_n 0, 1) := by decide +kernel
theorem dX7_worth_0 : decode cX7_worth 0 = .ok (.aload_n 0, 1) := dAX7_worth_0.1
theorem dX7_worth_1 : decode cX7_worth 1 = .ok (.invokevirtual 175, 3) := dAX7_worth_0.2.1
theorem dX7_worth_4 : decode cX7_worth 4 = .ok (.aload_n 0, 1) := dAX7_worth_0.2.2.1
theorem dX7_worth_5 : decode cX7_worth 5 = .ok (.iload_n 1, 1) := dAX7_worth_0.2.2.2.1
theorem dX7_worth_6 : decode cX7_worth 6 = .ok (.invokevirtual 242, 3) := dAX7_worth_0.2.2.2.2.1
theorem dX7_worth_9 : decode cX7_worth 9 = .ok (.ifCond .eq 25, 3) := dAX7_worth_0.2.2.2.2.2.1
theorem dX7_worth_12 : decode cX7_worth 12 = .ok (.aload_n 0, 1) := dAX7_worth_0.2.2.2.2.2.2.1
theorem dX7_worth_13 : decode cX7_worth 13 = .ok (.aload_n 0, 1) := dAX7_worth_0.2.2.2.2.2.2.2
set_option maxRecDepth 100000 in
theorem dAX7_worth_1 : decode cX7_worth 14 = .ok (.getfield 32, 3) ∧ decode cX7_worth 17 = .ok (.iload_n 1, 1) ∧ decode cX7_worth 18 = .ok (.invokevirtual 254, 3) ∧ decode cX7_worth 21 = .ok (.i2l, 1) ∧ decode cX7_worth 22 = .ok (.aload_n 0, 1) ∧ decode cX7_worth 23 = .ok (.getfield 44, 3) ∧ decode cX7_worth 26 = .ok (.i2l, 1) ∧ decode cX7_worth 27 = .ok (.iload_n 2, 1) := by decide +kernel
theorem dX7_worth_14 : decode cX7_worth 14 = .ok (.getfield 32, 3) := dAX7_worth_1.1
theorem dX7_worth_17 : decode cX7_worth 17 = .ok (.iload_n 1, 1) := dAX7_worth_1.2.1
theorem dX7_worth_18 : decode cX7_worth 18 = .ok (.invokevirtual 254, 3) := dAX7_worth_1.2.2.1
theorem dX7_worth_21 : decode cX7_worth 21 = .ok (.i2l, 1) := dAX7_worth_1.2.2.2.1
theorem dX7_worth_22 : decode cX7_worth 22 = .ok (.aload_n 0, 1) := dAX7_worth_1.2.2.2.2.1
theorem dX7_worth_23 : decode cX7_worth 23 = .ok (.getfield 44, 3) := dAX7_worth_1.2.2.2.2.2.1
theorem dX7_worth_26 : decode cX7_worth 26 = .ok (.i2l, 1) := dAX7_worth_1.2.2.2.2.2.2.1
theorem dX7_worth_27 : decode cX7_worth 27 = .ok (.iload_n 2, 1) := dAX7_worth_1.2.2.2.2.2.2.2
set_option maxRecDepth 100000 in
theorem dAX7_worth_2 : decode cX7_worth 28 = .ok (.invokestatic 283, 3) ∧ decode cX7_worth 31 = .ok (.goto 9, 3) ∧ decode cX7_worth 34 = .ok (.aload_n 0, 1) ∧ decode cX7_worth 35 = .ok (.iconst 1, 1) ∧ decode cX7_worth 36 = .ok (.invokevirtual 178, 3) ∧ decode cX7_worth 39 = .ok (.i2l, 1) ∧ decode cX7_worth 40 = .ok (.lreturn, 1) := by decide +kernel
theorem dX7_worth_28 : decode cX7_worth 28 = .ok (.invokestatic 283, 3) := dAX7_worth_2.1
theorem dX7_worth_31 : decode cX7_worth 31 = .ok (.goto 9, 3) := dAX7_worth_2.2.1
theorem dX7_worth_34 : decode cX7_worth 34 = .ok (.aload_n 0, 1) := dAX7_worth_2.2.2.1
theorem dX7_worth_35 : decode cX7_worth 35 = .ok (.iconst 1, 1) := dAX7_worth_2.2.2.2.1
theorem dX7_worth_36 : decode cX7_worth 36 = .ok (.invokevirtual 178, 3) := dAX7_worth_2.2.2.2.2.1
theorem dX7_worth_39 : decode cX7_worth 39 = .ok (.i2l, 1) := dAX7_worth_2.2.2.2.2.2.1
theorem dX7_worth_40 : decode cX7_worth 40 = .ok (.lreturn, 1) := dAX7_worth_2.2.2.2.2.2.2
set_option maxRecDepth 100000 in
theorem dAX7_worthAt_0 : decode cX7_worthAt 0 = .ok (.aload_n 0, 1) ∧ decode cX7_worthAt 1 = .ok (.getfield 20, 3) ∧ decode cX7_worthAt 4 = .ok (.bipush 9, 2) ∧ decode cX7_worthAt 6 = .ok (.iload_n 2, 1) ∧ decode cX7_worthAt 7 = .ok (.iadd, 1) ∧ decode cX7_worthAt 8 = .ok (.iaload, 1) ∧ decode cX7_worthAt 9 = .ok (.istore 4, 2) ∧ decode cX7_worthAt 11 = .ok (.iload 4, 2) := by decide +kernel
theorem dX7_worthAt_0 : decode cX7_worthAt 0 = .ok (.aload_n 0, 1) := dAX7_worthAt_0.1
theorem dX7_worthAt_1 : decode cX7_worthAt 1 = .ok (.getfield 20, 3) := dAX7_worthAt_0.2.1
theorem dX7_worthAt_4 : decode cX7_worthAt 4 = .ok (.bipush 9, 2) := dAX7_worthAt_0.2.2.1
theorem dX7_worthAt_6 : decode cX7_worthAt 6 = .ok (.iload_n 2, 1) := dAX7_worthAt_0.2.2.2.1
theorem dX7_worthAt_7 : decode cX7_worthAt 7 = .ok (.iadd, 1) := dAX7_worthAt_0.2.2.2.2.1
theorem dX7_worthAt_8 : decode cX7_worthAt 8 = .ok (.iaload, 1) := dAX7_worthAt_0.2.2.2.2.2.1
theorem dX7_worthAt_9 : decode cX7_worthAt 9 = .ok (.istore 4, 2) := dAX7_worthAt_0.2.2.2.2.2.2.1
theorem dX7_worthAt_11 : decode cX7_worthAt 11 = .ok (.iload 4, 2) := dAX7_worthAt_0.2.2.2.2.2.2.2
set_option maxRecDepth 100000 in
theorem dAX7_worthAt_1 : decode cX7_worthAt 13 = .ok (.ifCond .ne 15, 3) ∧ decode cX7_worthAt 16 = .ok (.aload_n 1, 1) ∧ decode cX7_worthAt 17 = .ok (.bipush 72, 2) ∧ decode cX7_worthAt 19 = .ok (.iload_n 2, 1) ∧ decode cX7_worthAt 20 = .ok (.iadd, 1) ∧ decode cX7_worthAt 21 = .ok (.iaload, 1) ∧ decode cX7_worthAt 22 = .ok (.aload_n 0, 1) ∧ decode cX7_worthAt 23 = .ok (.getfield 44, 3) := by decide +kernel
theorem dX7_worthAt_13 : decode cX7_worthAt 13 = .ok (.ifCond .ne 15, 3) := dAX7_worthAt_1.1
theorem dX7_worthAt_16 : decode cX7_worthAt 16 = .ok (.aload_n 1, 1) := dAX7_worthAt_1.2.1
theorem dX7_worthAt_17 : decode cX7_worthAt 17 = .ok (.bipush 72, 2) := dAX7_worthAt_1.2.2.1
theorem dX7_worthAt_19 : decode cX7_worthAt 19 = .ok (.iload_n 2, 1) := dAX7_worthAt_1.2.2.2.1
theorem dX7_worthAt_20 : decode cX7_worthAt 20 = .ok (.iadd, 1) := dAX7_worthAt_1.2.2.2.2.1
theorem dX7_worthAt_21 : decode cX7_worthAt 21 = .ok (.iaload, 1) := dAX7_worthAt_1.2.2.2.2.2.1
theorem dX7_worthAt_22 : decode cX7_worthAt 22 = .ok (.aload_n 0, 1) := dAX7_worthAt_1.2.2.2.2.2.2.1
theorem dX7_worthAt_23 : decode cX7_worthAt 23 = .ok (.getfield 44, 3) := dAX7_worthAt_1.2.2.2.2.2.2.2
set_option maxRecDepth 100000 in
theorem dAX7_worthAt_2 : decode cX7_worthAt 26 = .ok (.imul, 1) ∧ decode cX7_worthAt 27 = .ok (.ireturn, 1) ∧ decode cX7_worthAt 28 = .ok (.iload_n 3, 1) ∧ decode cX7_worthAt 29 = .ok (.aload_n 0, 1) ∧ decode cX7_worthAt 30 = .ok (.getfield 47, 3) ∧ decode cX7_worthAt 33 = .ok (.if_icmp .ne 11, 3) ∧ decode cX7_worthAt 36 = .ok (.bipush 50, 2) ∧ decode cX7_worthAt 38 = .ok (.aload_n 0, 1) := by decide +kernel
theorem dX7_worthAt_26 : decode cX7_worthAt 26 = .ok (.imul, 1) := dAX7_worthAt_2.1
theorem dX7_worthAt_27 : decode cX7_worthAt 27 = .ok (.ireturn, 1) := dAX7_worthAt_2.2.1
theorem dX7_worthAt_28 : decode cX7_worthAt 28 = .ok (.iload_n 3, 1) := dAX7_worthAt_2.2.2.1
theorem dX7_worthAt_29 : decode cX7_worthAt 29 = .ok (.aload_n 0, 1) := dAX7_worthAt_2.2.2.2.1
theorem dX7_worthAt_30 : decode cX7_worthAt 30 = .ok (.getfield 47, 3) := dAX7_worthAt_2.2.2.2.2.1
theorem dX7_worthAt_33 : decode cX7_worthAt 33 = .ok (.if_icmp .ne 11, 3) := dAX7_worthAt_2.2.2.2.2.2.1
theorem dX7_worthAt_36 : decode cX7_worthAt 36 = .ok (.bipush 50, 2) := dAX7_worthAt_2.2.2.2.2.2.2.1
theorem dX7_worthAt_38 : decode cX7_worthAt 38 = .ok (.aload_n 0, 1) := dAX7_worthAt_2.2.2.2.2.2.2.2
set_option maxRecDepth 100000 in
theorem dAX7_worthAt_3 : decode cX7_worthAt 39 = .ok (.getfield 44, 3) ∧ decode cX7_worthAt 42 = .ok (.imul, 1) ∧ decode cX7_worthAt 43 = .ok (.ireturn, 1) ∧ decode cX7_worthAt 44 = .ok (.iload 4, 2) ∧ decode cX7_worthAt 46 = .ok (.iconst 2, 1) ∧ decode cX7_worthAt 47 = .ok (.if_icmp .ne 8, 3) ∧ decode cX7_worthAt 50 = .ok (.ldc 245, 2) ∧ decode cX7_worthAt 52 = .ok (.goto 15, 3) := by decide +kernel
theorem dX7_worthAt_39 : decode cX7_worthAt 39 = .ok (.getfield 44, 3) := dAX7_worthAt_3.1
theorem dX7_worthAt_42 : decode cX7_worthAt 42 = .ok (.imul, 1) := dAX7_worthAt_3.2.1
theorem dX7_worthAt_43 : decode cX7_worthAt 43 = .ok (.ireturn, 1) := dAX7_worthAt_3.2.2.1
theorem dX7_worthAt_44 : decode cX7_worthAt 44 = .ok (.iload 4, 2) := dAX7_worthAt_3.2.2.2.1
theorem dX7_worthAt_46 : decode cX7_worthAt 46 = .ok (.iconst 2, 1) := dAX7_worthAt_3.2.2.2.2.1
theorem dX7_worthAt_47 : decode cX7_worthAt 47 = .ok (.if_icmp .ne 8, 3) := dAX7_worthAt_3.2.2.2.2.2.1
theorem dX7_worthAt_50 : decode cX7_worthAt 50 = .ok (.ldc 245, 2) := dAX7_worthAt_3.2.2.2.2.2.2.1
theorem dX7_worthAt_52 : decode cX7_worthAt 52 = .ok (.goto 15, 3) := dAX7_worthAt_3.2.2.2.2.2.2.2
set_option maxRecDepth 100000 in
theorem dAX7_worthAt_4 : decode cX7_worthAt 55 = .ok (.iload 4, 2) ∧ decode cX7_worthAt 57 = .ok (.iconst 1, 1) ∧ decode cX7_worthAt 58 = .ok (.if_icmp .ne 8, 3) ∧ decode cX7_worthAt 61 = .ok (.ldc 246, 2) ∧ decode cX7_worthAt 63 = .ok (.goto 4, 3) ∧ decode cX7_worthAt 66 = .ok (.iconst 0, 1) ∧ decode cX7_worthAt 67 = .ok (.istore 5, 2) ∧ decode cX7_worthAt 69 = .ok (.iconst 0, 1) := by decide +kernel
theorem dX7_worthAt_55 : decode cX7_worthAt 55 = .ok (.iload 4, 2) := dAX7_worthAt_4.1
theorem dX7_worthAt_57 : decode cX7_worthAt 57 = .ok (.iconst 1, 1) := dAX7_worthAt_4.2.1
theorem dX7_worthAt_58 : decode cX7_worthAt 58 = .ok (.if_icmp .ne 8, 3) := dAX7_worthAt_4.2.2.1
theorem dX7_worthAt_61 : decode cX7_worthAt 61 = .ok (.ldc 246, 2) := dAX7_worthAt_4.2.2.2.1
theorem dX7_worthAt_63 : decode cX7_worthAt 63 = .ok (.goto 4, 3) := dAX7_worthAt_4.2.2.2.2.1
theorem dX7_worthAt_66 : decode cX7_worthAt 66 = .ok (.iconst 0, 1) := dAX7_worthAt_4.2.2.2.2.2.1
theorem dX7_worthAt_67 : decode cX7_worthAt 67 = .ok (.istore 5, 2) := dAX7_worthAt_4.2.2.2.2.2.2.1
theorem dX7_worthAt_69 : decode cX7_worthAt 69 = .ok (.iconst 0, 1) := dAX7_worthAt_4.2.2.2.2.2.2.2
set_option maxRecDepth 100000 in
theorem dAX7_worthAt_5 : decode cX7_worthAt 70 = .ok (.istore 6, 2) ∧ decode cX7_worthAt 72 = .ok (.iload 6, 2) ∧ decode cX7_worthAt 74 = .ok (.aload_n 0, 1) ∧ decode cX7_worthAt 75 = .ok (.getfield 20, 3) ∧ decode cX7_worthAt 78 = .ok (.bipush 27, 2) ∧ decode cX7_worthAt 80 = .ok (.iload_n 2, 1) ∧ decode cX7_worthAt 81 = .ok (.iadd, 1) ∧ decode cX7_worthAt 82 = .ok (.iaload, 1) := by decide +kernel
theorem dX7_worthAt_70 : decode cX7_worthAt 70 = .ok (.istore 6, 2) := dAX7_worthAt_5.1
theorem dX7_worthAt_72 : decode cX7_worthAt 72 = .ok (.iload 6, 2) := dAX7_worthAt_5.2.1
theorem dX7_worthAt_74 : decode cX7_worthAt 74 = .ok (.aload_n 0, 1) := dAX7_worthAt_5.2.2.1
theorem dX7_worthAt_75 : decode cX7_worthAt 75 = .ok (.getfield 20, 3) := dAX7_worthAt_5.2.2.2.1
theorem dX7_worthAt_78 : decode cX7_worthAt 78 = .ok (.bipush 27, 2) := dAX7_worthAt_5.2.2.2.2.1
theorem dX7_worthAt_80 : decode cX7_worthAt 80 = .ok (.iload_n 2, 1) := dAX7_worthAt_5.2.2.2.2.2.1
theorem dX7_worthAt_81 : decode cX7_worthAt 81 = .ok (.iadd, 1) := dAX7_worthAt_5.2.2.2.2.2.2.1
theorem dX7_worthAt_82 : decode cX7_worthAt 82 = .ok (.iaload, 1) := dAX7_worthAt_5.2.2.2.2.2.2.2
set_option maxRecDepth 100000 in
theorem dAX7_worthAt_6 : decode cX7_worthAt 83 = .ok (.if_icmp .ge 96, 3) ∧ decode cX7_worthAt 86 = .ok (.aload_n 1, 1) ∧ decode cX7_worthAt 87 = .ok (.iconst 4, 1) ∧ decode cX7_worthAt 88 = .ok (.iload_n 2, 1) ∧ decode cX7_worthAt 89 = .ok (.imul, 1) ∧ decode cX7_worthAt 90 = .ok (.iload 6, 2) ∧ decode cX7_worthAt 92 = .ok (.iadd, 1) ∧ decode cX7_worthAt 93 = .ok (.iaload, 1) := by decide +kernel
theorem dX7_worthAt_83 : decode cX7_worthAt 83 = .ok (.if_icmp .ge 96, 3) := dAX7_worthAt_6.1
theorem dX7_worthAt_86 : decode cX7_worthAt 86 = .ok (.aload_n 1, 1) := dAX7_worthAt_6.2.1
theorem dX7_worthAt_87 : decode cX7_worthAt 87 = .ok (.iconst 4, 1) := dAX7_worthAt_6.2.2.1
theorem dX7_worthAt_88 : decode cX7_worthAt 88 = .ok (.iload_n 2, 1) := dAX7_worthAt_6.2.2.2.1
theorem dX7_worthAt_89 : decode cX7_worthAt 89 = .ok (.imul, 1) := dAX7_worthAt_6.2.2.2.2.1
theorem dX7_worthAt_90 : decode cX7_worthAt 90 = .ok (.iload 6, 2) := dAX7_worthAt_6.2.2.2.2.2.1
theorem dX7_worthAt_92 : decode cX7_worthAt 92 = .ok (.iadd, 1) := dAX7_worthAt_6.2.2.2.2.2.2.1
theorem dX7_worthAt_93 : decode cX7_worthAt 93 = .ok (.iaload, 1) := dAX7_worthAt_6.2.2.2.2.2.2.2
set_option maxRecDepth 100000 in
theorem dAX7_worthAt_7 : decode cX7_worthAt 94 = .ok (.istore 7, 2) ∧ decode cX7_worthAt 96 = .ok (.aload_n 0, 1) ∧ decode cX7_worthAt 97 = .ok (.aload_n 1, 1) ∧ decode cX7_worthAt 98 = .ok (.iload 7, 2) ∧ decode cX7_worthAt 100 = .ok (.iload_n 3, 1) ∧ decode cX7_worthAt 101 = .ok (.iconst 1, 1) ∧ decode cX7_worthAt 102 = .ok (.iadd, 1) ∧ decode cX7_worthAt 103 = .ok (.invokevirtual 247, 3) := by decide +kernel
theorem dX7_worthAt_94 : decode cX7_worthAt 94 = .ok (.istore 7, 2) := dAX7_worthAt_7.1
theorem dX7_worthAt_96 : decode cX7_worthAt 96 = .ok (.aload_n 0, 1) := dAX7_worthAt_7.2.1
theorem dX7_worthAt_97 : decode cX7_worthAt 97 = .ok (.aload_n 1, 1) := dAX7_worthAt_7.2.2.1
theorem dX7_worthAt_98 : decode cX7_worthAt 98 = .ok (.iload 7, 2) := dAX7_worthAt_7.2.2.2.1
theorem dX7_worthAt_100 : decode cX7_worthAt 100 = .ok (.iload_n 3, 1) := dAX7_worthAt_7.2.2.2.2.1
theorem dX7_worthAt_101 : decode cX7_worthAt 101 = .ok (.iconst 1, 1) := dAX7_worthAt_7.2.2.2.2.2.1
theorem dX7_worthAt_102 : decode cX7_worthAt 102 = .ok (.iadd, 1) := dAX7_worthAt_7.2.2.2.2.2.2.1
theorem dX7_worthAt_103 : decode cX7_worthAt 103 = .ok (.invokevirtual 247, 3) := dAX7_worthAt_7.2.2.2.2.2.2.2
set_option maxRecDepth 100000 in
theorem dAX7_worthAt_8 : decode cX7_worthAt 106 = .ok (.istore 8, 2) ∧ decode cX7_worthAt 108 = .ok (.iload 4, 2) ∧ decode cX7_worthAt 110 = .ok (.iconst 1, 1) ∧ decode cX7_worthAt 111 = .ok (.if_icmp .ne 22, 3) ∧ decode cX7_worthAt 114 = .ok (.iload 8, 2) ∧ decode cX7_worthAt 116 = .ok (.iload 5, 2) ∧ decode cX7_worthAt 118 = .ok (.if_icmp .le 8, 3) ∧ decode cX7_worthAt 121 = .ok (.iload 8, 2) := by decide +kernel
theorem dX7_worthAt_106 : decode cX7_worthAt 106 = .ok (.istore 8, 2) := dAX7_worthAt_8.1
theorem dX7_worthAt_108 : decode cX7_worthAt 108 = .ok (.iload 4, 2) := dAX7_worthAt_8.2.1
theorem dX7_worthAt_110 : decode cX7_worthAt 110 = .ok (.iconst 1, 1) := dAX7_worthAt_8.2.2.1
theorem dX7_worthAt_111 : decode cX7_worthAt 111 = .ok (.if_icmp .ne 22, 3) := dAX7_worthAt_8.2.2.2.1
theorem dX7_worthAt_114 : decode cX7_worthAt 114 = .ok (.iload 8, 2) := dAX7_worthAt_8.2.2.2.2.1
theorem dX7_worthAt_116 : decode cX7_worthAt 116 = .ok (.iload 5, 2) := dAX7_worthAt_8.2.2.2.2.2.1
theorem dX7_worthAt_118 : decode cX7_worthAt 118 = .ok (.if_icmp .le 8, 3) := dAX7_worthAt_8.2.2.2.2.2.2.1
theorem dX7_worthAt_121 : decode cX7_worthAt 121 = .ok (.iload 8, 2) := dAX7_worthAt_8.2.2.2.2.2.2.2
set_option maxRecDepth 100000 in
theorem dAX7_worthAt_9 : decode cX7_worthAt 123 = .ok (.goto 5, 3) ∧ decode cX7_worthAt 126 = .ok (.iload 5, 2) ∧ decode cX7_worthAt 128 = .ok (.istore 5, 2) ∧ decode cX7_worthAt 130 = .ok (.goto 43, 3) ∧ decode cX7_worthAt 133 = .ok (.iload 4, 2) ∧ decode cX7_worthAt 135 = .ok (.iconst 2, 1) ∧ decode cX7_worthAt 136 = .ok (.if_icmp .ne 22, 3) ∧ decode cX7_worthAt 139 = .ok (.iload 8, 2) := by decide +kernel
theorem dX7_worthAt_123 : decode cX7_worthAt 123 = .ok (.goto 5, 3) := dAX7_worthAt_9.1
theorem dX7_worthAt_126 : decode cX7_worthAt 126 = .ok (.iload 5, 2) := dAX7_worthAt_9.2.1
theorem dX7_worthAt_128 : decode cX7_worthAt 128 = .ok (.istore 5, 2) := dAX7_worthAt_9.2.2.1
theorem dX7_worthAt_130 : decode cX7_worthAt 130 = .ok (.goto 43, 3) := dAX7_worthAt_9.2.2.2.1
theorem dX7_worthAt_133 : decode cX7_worthAt 133 = .ok (.iload 4, 2) := dAX7_worthAt_9.2.2.2.2.1
theorem dX7_worthAt_135 : decode cX7_worthAt 135 = .ok (.iconst 2, 1) := dAX7_worthAt_9.2.2.2.2.2.1
theorem dX7_worthAt_136 : decode cX7_worthAt 136 = .ok (.if_icmp .ne 22, 3) := dAX7_worthAt_9.2.2.2.2.2.2.1
theorem dX7_worthAt_139 : decode cX7_worthAt 139 = .ok (.iload 8, 2) := dAX7_worthAt_9.2.2.2.2.2.2.2
set_option maxRecDepth 100000 in
theorem dAX7_worthAt_10 : decode cX7_worthAt 141 = .ok (.iload 5, 2) ∧ decode cX7_worthAt 143 = .ok (.if_icmp .ge 8, 3) ∧ decode cX7_worthAt 146 = .ok (.iload 8, 2) ∧ decode cX7_worthAt 148 = .ok (.goto 5, 3) ∧ decode cX7_worthAt 151 = .ok (.iload 5, 2) ∧ decode cX7_worthAt 153 = .ok (.istore 5, 2) ∧ decode cX7_worthAt 155 = .ok (.goto 18, 3) ∧ decode cX7_worthAt 158 = .ok (.iload 5, 2) := by decide +kernel
theorem dX7_worthAt_141 : decode cX7_worthAt 141 = .ok (.iload 5, 2) := dAX7_worthAt_10.1
theorem dX7_worthAt_143 : decode cX7_worthAt 143 = .ok (.if_icmp .ge 8, 3) := dAX7_worthAt_10.2.1
theorem dX7_worthAt_146 : decode cX7_worthAt 146 = .ok (.iload 8, 2) := dAX7_worthAt_10.2.2.1
theorem dX7_worthAt_148 : decode cX7_worthAt 148 = .ok (.goto 5, 3) := dAX7_worthAt_10.2.2.2.1
theorem dX7_worthAt_151 : decode cX7_worthAt 151 = .ok (.iload 5, 2) := dAX7_worthAt_10.2.2.2.2.1
theorem dX7_worthAt_153 : decode cX7_worthAt 153 = .ok (.istore 5, 2) := dAX7_worthAt_10.2.2.2.2.2.1
theorem dX7_worthAt_155 : decode cX7_worthAt 155 = .ok (.goto 18, 3) := dAX7_worthAt_10.2.2.2.2.2.2.1
theorem dX7_worthAt_158 : decode cX7_worthAt 158 = .ok (.iload 5, 2) := dAX7_worthAt_10.2.2.2.2.2.2.2
set_option maxRecDepth 100000 in
theorem dAX7_worthAt_11 : decode cX7_worthAt 160 = .ok (.iload 8, 2) ∧ decode cX7_worthAt 162 = .ok (.aload_n 0, 1) ∧ decode cX7_worthAt 163 = .ok (.iload_n 2, 1) ∧ decode cX7_worthAt 164 = .ok (.iload 7, 2) ∧ decode cX7_worthAt 166 = .ok (.invokevirtual 251, 3) ∧ decode cX7_worthAt 169 = .ok (.imul, 1) ∧ decode cX7_worthAt 170 = .ok (.iadd, 1) ∧ decode cX7_worthAt 171 = .ok (.istore 5, 2) := by decide +kernel
theorem dX7_worthAt_160 : decode cX7_worthAt 160 = .ok (.iload 8, 2) := dAX7_worthAt_11.1
theorem dX7_worthAt_162 : decode cX7_worthAt 162 = .ok (.aload_n 0, 1) := dAX7_worthAt_11.2.1
theorem dX7_worthAt_163 : decode cX7_worthAt 163 = .ok (.iload_n 2, 1) := dAX7_worthAt_11.2.2.1
theorem dX7_worthAt_164 : decode cX7_worthAt 164 = .ok (.iload 7, 2) := dAX7_worthAt_11.2.2.2.1
theorem dX7_worthAt_166 : decode cX7_worthAt 166 = .ok (.invokevirtual 251, 3) := dAX7_worthAt_11.2.2.2.2.1
theorem dX7_worthAt_169 : decode cX7_worthAt 169 = .ok (.imul, 1) := dAX7_worthAt_11.2.2.2.2.2.1
theorem dX7_worthAt_170 : decode cX7_worthAt 170 = .ok (.iadd, 1) := dAX7_worthAt_11.2.2.2.2.2.2.1
theorem dX7_worthAt_171 : decode cX7_worthAt 171 = .ok (.istore 5, 2) := dAX7_worthAt_11.2.2.2.2.2.2.2
set_option maxRecDepth 100000 in
theorem dAX7_worthAt_12 : decode cX7_worthAt 173 = .ok (.iinc 6 1, 3) ∧ decode cX7_worthAt 176 = .ok (.goto (-104), 3) ∧ decode cX7_worthAt 179 = .ok (.iload 4, 2) ∧ decode cX7_worthAt 181 = .ok (.iconst 3, 1) ∧ decode cX7_worthAt 182 = .ok (.if_icmp .ne 14, 3) ∧ decode cX7_worthAt 185 = .ok (.iload 5, 2) ∧ decode cX7_worthAt 187 = .ok (.aload_n 0, 1) ∧ decode cX7_worthAt 188 = .ok (.iload_n 2, 1) := by decide +kernel
theorem dX7_worthAt_173 : decode cX7_worthAt 173 = .ok (.iinc 6 1, 3) := dAX7_worthAt_12.1
theorem dX7_worthAt_176 : decode cX7_worthAt 176 = .ok (.goto (-104), 3) := dAX7_worthAt_12.2.1
theorem dX7_worthAt_179 : decode cX7_worthAt 179 = .ok (.iload 4, 2) := dAX7_worthAt_12.2.2.1
theorem dX7_worthAt_181 : decode cX7_worthAt 181 = .ok (.iconst 3, 1) := dAX7_worthAt_12.2.2.2.1
theorem dX7_worthAt_182 : decode cX7_worthAt 182 = .ok (.if_icmp .ne 14, 3) := dAX7_worthAt_12.2.2.2.2.1
theorem dX7_worthAt_185 : decode cX7_worthAt 185 = .ok (.iload 5, 2) := dAX7_worthAt_12.2.2.2.2.2.1
theorem dX7_worthAt_187 : decode cX7_worthAt 187 = .ok (.aload_n 0, 1) := dAX7_worthAt_12.2.2.2.2.2.2.1
theorem dX7_worthAt_188 : decode cX7_worthAt 188 = .ok (.iload_n 2, 1) := dAX7_worthAt_12.2.2.2.2.2.2.2
set_option maxRecDepth 100000 in
theorem dAX7_worthAt_13 : decode cX7_worthAt 189 = .ok (.invokevirtual 239, 3) ∧ decode cX7_worthAt 192 = .ok (.idiv, 1) ∧ decode cX7_worthAt 193 = .ok (.goto 5, 3) ∧ decode cX7_worthAt 196 = .ok (.iload 5, 2) ∧ decode cX7_worthAt 198 = .ok (.ireturn, 1) := by decide +kernel
theorem dX7_worthAt_189 : decode cX7_worthAt 189 = .ok (.invokevirtual 239, 3) := dAX7_worthAt_13.1
theorem dX7_worthAt_192 : decode cX7_worthAt 192 = .ok (.idiv, 1) := dAX7_worthAt_13.2.1
theorem dX7_worthAt_193 : decode cX7_worthAt 193 = .ok (.goto 5, 3) := dAX7_worthAt_13.2.2.1
theorem dX7_worthAt_196 : decode cX7_worthAt 196 = .ok (.iload 5, 2) := dAX7_worthAt_13.2.2.2.1
theorem dX7_worthAt_198 : decode cX7_worthAt 198 = .ok (.ireturn, 1) := dAX7_worthAt_13.2.2.2.2
set_option maxRecDepth 100000 in
theorem dAX7_worthOf_0 : decode cX7_worthOf 0 = .ok (.aload_n 0, 1) ∧ decode cX7_worthOf 1 = .ok (.aload_n 1, 1) ∧ decode cX7_worthOf 2 = .ok (.iload_n 2, 1) ∧ decode cX7_worthOf 3 = .ok (.iconst 0, 1) ∧ decode cX7_worthOf 4 = .ok (.invokevirtual 247, 3) ∧ decode cX7_worthOf 7 = .ok (.ireturn, 1) := by decide +kernel
theorem dX7_worthOf_0 : decode cX7_worthOf 0 = .ok (.aload_n 0, 1) := dAX7_worthOf_0.1
theorem dX7_worthOf_1 : decode cX7_worthOf 1 = .ok (.aload_n 1, 1) := dAX7_worthOf_0.2.1
theorem dX7_worthOf_2 : decode cX7_worthOf 2 = .ok (.iload_n 2, 1) := dAX7_worthOf_0.2.2.1
theorem dX7_worthOf_3 : decode cX7_worthOf 3 = .ok (.iconst 0, 1) := dAX7_worthOf_0.2.2.2.1
theorem dX7_worthOf_4 : decode cX7_worthOf 4 = .ok (.invokevirtual 247, 3) := dAX7_worthOf_0.2.2.2.2.1
theorem dX7_worthOf_7 : decode cX7_worthOf 7 = .ok (.ireturn, 1) := dAX7_worthOf_0.2.2.2.2.2
set_option maxRecDepth 100000 in
theorem dAX7_wrong_0 : decode cX7_wrong 0 = .ok (.aload_n 0, 1) ∧ decode cX7_wrong 1 = .ok (.getfield 103, 3) ∧ decode cX7_wrong 4 = .ok (.ifCond .eq 4, 3) ∧ decode cX7_wrong 7 = .ok (.return_, 1) ∧ decode cX7_wrong 8 = .ok (.aload_n 0, 1) ∧ decode cX7_wrong 9 = .ok (.iconst 1, 1) ∧ decode cX7_wrong 10 = .ok (.putfield 103, 3) ∧ decode cX7_wrong 13 = .ok (.aload_n 0, 1) := by decide +kernel
theorem dX7_wrong_0 : decode cX7_wrong 0 = .ok (.aload_n 0, 1) := dAX7_wrong_0.1
theorem dX7_wrong_1 : decode cX7_wrong 1 = .ok (.getfield 103, 3) := dAX7_wrong_0.2.1
theorem dX7_wrong_4 : decode cX7_wrong 4 = .ok (.ifCond .eq 4, 3) := dAX7_wrong_0.2.2.1
theorem dX7_wrong_7 : decode cX7_wrong 7 = .ok (.return_, 1) := dAX7_wrong_0.2.2.2.1
theorem dX7_wrong_8 : decode cX7_wrong 8 = .ok (.aload_n 0, 1) := dAX7_wrong_0.2.2.2.2.1
theorem dX7_wrong_9 : decode cX7_wrong 9 = .ok (.iconst 1, 1) := dAX7_wrong_0.2.2.2.2.2.1
theorem dX7_wrong_10 : decode cX7_wrong 10 = .ok (.putfield 103, 3) := dAX7_wrong_0.2.2.2.2.2.2.1
theorem dX7_wrong_13 : decode cX7_wrong 13 = .ok (.aload_n 0, 1) := dAX7_wrong_0.2.2.2.2.2.2.2
set_option maxRecDepth 100000 in
theorem dAX7_wrong_1 : decode cX7_wrong 14 = .ok (.iload_n 1, 1) ∧ decode cX7_wrong 15 = .ok (.putfield 107, 3) ∧ decode cX7_wrong 18 = .ok (.aload_n 0, 1) ∧ decode cX7_wrong 19 = .ok (.iload_n 2, 1) ∧ decode cX7_wrong 20 = .ok (.putfield 13, 3) ∧ decode cX7_wrong 23 = .ok (.return_, 1) := by decide +kernel
theorem dX7_wrong_14 : decode cX7_wrong 14 = .ok (.iload_n 1, 1) := dAX7_wrong_1.1
theorem dX7_wrong_15 : decode cX7_wrong 15 = .ok (.putfield 107, 3) := dAX7_wrong_1.2.1
theorem dX7_wrong_18 : decode cX7_wrong 18 = .ok (.aload_n 0, 1) := dAX7_wrong_1.2.2.1
theorem dX7_wrong_19 : decode cX7_wrong 19 = .ok (.iload_n 2, 1) := dAX7_wrong_1.2.2.2.1
theorem dX7_wrong_20 : decode cX7_wrong 20 = .ok (.putfield 13, 3) := dAX7_wrong_1.2.2.2.2.1
theorem dX7_wrong_23 : decode cX7_wrong 23 = .ok (.return_, 1) := dAX7_wrong_1.2.2.2.2.2
