set_option maxRecDepth 100000 in
theorem dAX6_ask_0 : decode cX6_ask 0 = .ok (.aload_n 0, 1) ∧ decode cX6_ask 1 = .ok (.invokevirtual 140, 3) ∧ decode cX6_ask 4 = .ok (.ifCond .eq 5, 3) ∧ decode cX6_ask 7 = .ok (.iconst (-1), 1) ∧ decode cX6_ask 8 = .ok (.ireturn, 1) ∧ decode cX6_ask 9 = .ok (.aload_n 0, 1) ∧ decode cX6_ask 10 = .ok (.invokevirtual 287, 3) ∧ decode cX6_ask 13 = .ok (.istore_n 1, 1) := by decide +kernel
theorem dX6_ask_0 : decode cX6_ask 0 = .ok (.aload_n 0, 1) := dAX6_ask_0.1
theorem dX6_ask_1 : decode cX6_ask 1 = .ok (.invokevirtual 140, 3) := dAX6_ask_0.2.1
theorem dX6_ask_4 : decode cX6_ask 4 = .ok (.ifCond .eq 5, 3) := dAX6_ask_0.2.2.1
theorem dX6_ask_7 : decode cX6_ask 7 = .ok (.iconst (-1), 1) := dAX6_ask_0.2.2.2.1
theorem dX6_ask_8 : decode cX6_ask 8 = .ok (.ireturn, 1) := dAX6_ask_0.2.2.2.2.1
theorem dX6_ask_9 : decode cX6_ask 9 = .ok (.aload_n 0, 1) := dAX6_ask_0.2.2.2.2.2.1
theorem dX6_ask_10 : decode cX6_ask 10 = .ok (.invokevirtual 287, 3) := dAX6_ask_0.2.2.2.2.2.2.1
theorem dX6_ask_13 : decode cX6_ask 13 = .ok (.istore_n 1, 1) := dAX6_ask_0.2.2.2.2.2.2.2
set_option maxRecDepth 100000 in
theorem dAX6_ask_1 : decode cX6_ask 14 = .ok (.aload_n 0, 1) ∧ decode cX6_ask 15 = .ok (.iload_n 1, 1) ∧ decode cX6_ask 16 = .ok (.invokevirtual 293, 3) ∧ decode cX6_ask 19 = .ok (.istore_n 2, 1) ∧ decode cX6_ask 20 = .ok (.iload_n 2, 1) ∧ decode cX6_ask 21 = .ok (.ifCond .ge 8, 3) ∧ decode cX6_ask 24 = .ok (.bipush (-2), 2) ∧ decode cX6_ask 26 = .ok (.goto 12, 3) := by decide +kernel
theorem dX6_ask_14 : decode cX6_ask 14 = .ok (.aload_n 0, 1) := dAX6_ask_1.1
theorem dX6_ask_15 : decode cX6_ask 15 = .ok (.iload_n 1, 1) := dAX6_ask_1.2.1
theorem dX6_ask_16 : decode cX6_ask 16 = .ok (.invokevirtual 293, 3) := dAX6_ask_1.2.2.1
theorem dX6_ask_19 : decode cX6_ask 19 = .ok (.istore_n 2, 1) := dAX6_ask_1.2.2.2.1
theorem dX6_ask_20 : decode cX6_ask 20 = .ok (.iload_n 2, 1) := dAX6_ask_1.2.2.2.2.1
theorem dX6_ask_21 : decode cX6_ask 21 = .ok (.ifCond .ge 8, 3) := dAX6_ask_1.2.2.2.2.2.1
theorem dX6_ask_24 : decode cX6_ask 24 = .ok (.bipush (-2), 2) := dAX6_ask_1.2.2.2.2.2.2.1
theorem dX6_ask_26 : decode cX6_ask 26 = .ok (.goto 12, 3) := dAX6_ask_1.2.2.2.2.2.2.2
set_option maxRecDepth 100000 in
theorem dAX6_ask_2 : decode cX6_ask 29 = .ok (.aload_n 0, 1) ∧ decode cX6_ask 30 = .ok (.getfield 19, 3) ∧ decode cX6_ask 33 = .ok (.getfield 296, 3) ∧ decode cX6_ask 36 = .ok (.iload_n 2, 1) ∧ decode cX6_ask 37 = .ok (.iaload, 1) ∧ decode cX6_ask 38 = .ok (.ireturn, 1) := by decide +kernel
theorem dX6_ask_29 : decode cX6_ask 29 = .ok (.aload_n 0, 1) := dAX6_ask_2.1
theorem dX6_ask_30 : decode cX6_ask 30 = .ok (.getfield 19, 3) := dAX6_ask_2.2.1
theorem dX6_ask_33 : decode cX6_ask 33 = .ok (.getfield 296, 3) := dAX6_ask_2.2.2.1
theorem dX6_ask_36 : decode cX6_ask 36 = .ok (.iload_n 2, 1) := dAX6_ask_2.2.2.2.1
theorem dX6_ask_37 : decode cX6_ask 37 = .ok (.iaload, 1) := dAX6_ask_2.2.2.2.2.1
theorem dX6_ask_38 : decode cX6_ask 38 = .ok (.ireturn, 1) := dAX6_ask_2.2.2.2.2.2
set_option maxRecDepth 100000 in
theorem dAX6_askBreaths_0 : decode cX6_askBreaths 0 = .ok (.aload_n 0, 1) ∧ decode cX6_askBreaths 1 = .ok (.iload_n 1, 1) ∧ decode cX6_askBreaths 2 = .ok (.iconst 0, 1) ∧ decode cX6_askBreaths 3 = .ok (.bipush 99, 2) ∧ decode cX6_askBreaths 5 = .ok (.invokevirtual 203, 3) ∧ decode cX6_askBreaths 8 = .ok (.ifCond .eq 5, 3) ∧ decode cX6_askBreaths 11 = .ok (.iconst (-1), 1) ∧ decode cX6_askBreaths 12 = .ok (.ireturn, 1) := by decide +kernel
theorem dX6_askBreaths_0 : decode cX6_askBreaths 0 = .ok (.aload_n 0, 1) := dAX6_askBreaths_0.1
theorem dX6_askBreaths_1 : decode cX6_askBreaths 1 = .ok (.iload_n 1, 1) := dAX6_askBreaths_0.2.1
theorem dX6_askBreaths_2 : decode cX6_askBreaths 2 = .ok (.iconst 0, 1) := dAX6_askBreaths_0.2.2.1
theorem dX6_askBreaths_3 : decode cX6_askBreaths 3 = .ok (.bipush 99, 2) := dAX6_askBreaths_0.2.2.2.1
theorem dX6_askBreaths_5 : decode cX6_askBreaths 5 = .ok (.invokevirtual 203, 3) := dAX6_askBreaths_0.2.2.2.2.1
theorem dX6_askBreaths_8 : decode cX6_askBreaths 8 = .ok (.ifCond .eq 5, 3) := dAX6_askBreaths_0.2.2.2.2.2.1
theorem dX6_askBreaths_11 : decode cX6_askBreaths 11 = .ok (.iconst (-1), 1) := dAX6_askBreaths_0.2.2.2.2.2.2.1
theorem dX6_askBreaths_12 : decode cX6_askBreaths 12 = .ok (.ireturn, 1) := dAX6_askBreaths_0.2.2.2.2.2.2.2
set_option maxRecDepth 100000 in
theorem dAX6_askBreaths_1 : decode cX6_askBreaths 13 = .ok (.aload_n 0, 1) ∧ decode cX6_askBreaths 14 = .ok (.getfield 47, 3) ∧ decode cX6_askBreaths 17 = .ok (.aload_n 0, 1) ∧ decode cX6_askBreaths 18 = .ok (.getfield 19, 3) ∧ decode cX6_askBreaths 21 = .ok (.aload_n 0, 1) ∧ decode cX6_askBreaths 22 = .ok (.getfield 26, 3) ∧ decode cX6_askBreaths 25 = .ok (.iload_n 1, 1) ∧ decode cX6_askBreaths 26 = .ok (.invokevirtual 207, 3) := by decide +kernel
theorem dX6_askBreaths_13 : decode cX6_askBreaths 13 = .ok (.aload_n 0, 1) := dAX6_askBreaths_1.1
theorem dX6_askBreaths_14 : decode cX6_askBreaths 14 = .ok (.getfield 47, 3) := dAX6_askBreaths_1.2.1
theorem dX6_askBreaths_17 : decode cX6_askBreaths 17 = .ok (.aload_n 0, 1) := dAX6_askBreaths_1.2.2.1
theorem dX6_askBreaths_18 : decode cX6_askBreaths 18 = .ok (.getfield 19, 3) := dAX6_askBreaths_1.2.2.2.1
theorem dX6_askBreaths_21 : decode cX6_askBreaths 21 = .ok (.aload_n 0, 1) := dAX6_askBreaths_1.2.2.2.2.1
theorem dX6_askBreaths_22 : decode cX6_askBreaths 22 = .ok (.getfield 26, 3) := dAX6_askBreaths_1.2.2.2.2.2.1
theorem dX6_askBreaths_25 : decode cX6_askBreaths 25 = .ok (.iload_n 1, 1) := dAX6_askBreaths_1.2.2.2.2.2.2.1
theorem dX6_askBreaths_26 : decode cX6_askBreaths 26 = .ok (.invokevirtual 207, 3) := dAX6_askBreaths_1.2.2.2.2.2.2.2
set_option maxRecDepth 100000 in
theorem dAX6_askBreaths_2 : decode cX6_askBreaths 29 = .ok (.pop, 1) ∧ decode cX6_askBreaths 30 = .ok (.aload_n 0, 1) ∧ decode cX6_askBreaths 31 = .ok (.getfield 47, 3) ∧ decode cX6_askBreaths 34 = .ok (.getfield 200, 3) ∧ decode cX6_askBreaths 37 = .ok (.ireturn, 1) := by decide +kernel
theorem dX6_askBreaths_29 : decode cX6_askBreaths 29 = .ok (.pop, 1) := dAX6_askBreaths_2.1
theorem dX6_askBreaths_30 : decode cX6_askBreaths 30 = .ok (.aload_n 0, 1) := dAX6_askBreaths_2.2.1
theorem dX6_askBreaths_31 : decode cX6_askBreaths 31 = .ok (.getfield 47, 3) := dAX6_askBreaths_2.2.2.1
theorem dX6_askBreaths_34 : decode cX6_askBreaths 34 = .ok (.getfield 200, 3) := dAX6_askBreaths_2.2.2.2.1
theorem dX6_askBreaths_37 : decode cX6_askBreaths 37 = .ok (.ireturn, 1) := dAX6_askBreaths_2.2.2.2.2
set_option maxRecDepth 100000 in
theorem dAX6_askLeaves_0 : decode cX6_askLeaves 0 = .ok (.aload_n 0, 1) ∧ decode cX6_askLeaves 1 = .ok (.invokevirtual 140, 3) ∧ decode cX6_askLeaves 4 = .ok (.ifCond .eq 5, 3) ∧ decode cX6_askLeaves 7 = .ok (.iconst (-1), 1) ∧ decode cX6_askLeaves 8 = .ok (.ireturn, 1) ∧ decode cX6_askLeaves 9 = .ok (.aload_n 0, 1) ∧ decode cX6_askLeaves 10 = .ok (.invokevirtual 287, 3) ∧ decode cX6_askLeaves 13 = .ok (.istore_n 1, 1) := by decide +kernel
theorem dX6_askLeaves_0 : decode cX6_askLeaves 0 = .ok (.aload_n 0, 1) := dAX6_askLeaves_0.1
theorem dX6_askLeaves_1 : decode cX6_askLeaves 1 = .ok (.invokevirtual 140, 3) := dAX6_askLeaves_0.2.1
theorem dX6_askLeaves_4 : decode cX6_askLeaves 4 = .ok (.ifCond .eq 5, 3) := dAX6_askLeaves_0.2.2.1
theorem dX6_askLeaves_7 : decode cX6_askLeaves 7 = .ok (.iconst (-1), 1) := dAX6_askLeaves_0.2.2.2.1
theorem dX6_askLeaves_8 : decode cX6_askLeaves 8 = .ok (.ireturn, 1) := dAX6_askLeaves_0.2.2.2.2.1
theorem dX6_askLeaves_9 : decode cX6_askLeaves 9 = .ok (.aload_n 0, 1) := dAX6_askLeaves_0.2.2.2.2.2.1
theorem dX6_askLeaves_10 : decode cX6_askLeaves 10 = .ok (.invokevirtual 287, 3) := dAX6_askLeaves_0.2.2.2.2.2.2.1
theorem dX6_askLeaves_13 : decode cX6_askLeaves 13 = .ok (.istore_n 1, 1) := dAX6_askLeaves_0.2.2.2.2.2.2.2
set_option maxRecDepth 100000 in
theorem dAX6_askLeaves_1 : decode cX6_askLeaves 14 = .ok (.aload_n 0, 1) ∧ decode cX6_askLeaves 15 = .ok (.iload_n 1, 1) ∧ decode cX6_askLeaves 16 = .ok (.invokevirtual 293, 3) ∧ decode cX6_askLeaves 19 = .ok (.istore_n 2, 1) ∧ decode cX6_askLeaves 20 = .ok (.iload_n 2, 1) ∧ decode cX6_askLeaves 21 = .ok (.ifCond .ge 8, 3) ∧ decode cX6_askLeaves 24 = .ok (.bipush (-2), 2) ∧ decode cX6_askLeaves 26 = .ok (.goto 9, 3) := by decide +kernel
theorem dX6_askLeaves_14 : decode cX6_askLeaves 14 = .ok (.aload_n 0, 1) := dAX6_askLeaves_1.1
theorem dX6_askLeaves_15 : decode cX6_askLeaves 15 = .ok (.iload_n 1, 1) := dAX6_askLeaves_1.2.1
theorem dX6_askLeaves_16 : decode cX6_askLeaves 16 = .ok (.invokevirtual 293, 3) := dAX6_askLeaves_1.2.2.1
theorem dX6_askLeaves_19 : decode cX6_askLeaves 19 = .ok (.istore_n 2, 1) := dAX6_askLeaves_1.2.2.2.1
theorem dX6_askLeaves_20 : decode cX6_askLeaves 20 = .ok (.iload_n 2, 1) := dAX6_askLeaves_1.2.2.2.2.1
theorem dX6_askLeaves_21 : decode cX6_askLeaves 21 = .ok (.ifCond .ge 8, 3) := dAX6_askLeaves_1.2.2.2.2.2.1
theorem dX6_askLeaves_24 : decode cX6_askLeaves 24 = .ok (.bipush (-2), 2) := dAX6_askLeaves_1.2.2.2.2.2.2.1
theorem dX6_askLeaves_26 : decode cX6_askLeaves 26 = .ok (.goto 9, 3) := dAX6_askLeaves_1.2.2.2.2.2.2.2
set_option maxRecDepth 100000 in
theorem dAX6_askLeaves_2 : decode cX6_askLeaves 29 = .ok (.aload_n 0, 1) ∧ decode cX6_askLeaves 30 = .ok (.iload_n 1, 1) ∧ decode cX6_askLeaves 31 = .ok (.iload_n 2, 1) ∧ decode cX6_askLeaves 32 = .ok (.invokevirtual 299, 3) ∧ decode cX6_askLeaves 35 = .ok (.ireturn, 1) := by decide +kernel
theorem dX6_askLeaves_29 : decode cX6_askLeaves 29 = .ok (.aload_n 0, 1) := dAX6_askLeaves_2.1
theorem dX6_askLeaves_30 : decode cX6_askLeaves 30 = .ok (.iload_n 1, 1) := dAX6_askLeaves_2.2.1
theorem dX6_askLeaves_31 : decode cX6_askLeaves 31 = .ok (.iload_n 2, 1) := dAX6_askLeaves_2.2.2.1
theorem dX6_askLeaves_32 : decode cX6_askLeaves 32 = .ok (.invokevirtual 299, 3) := dAX6_askLeaves_2.2.2.2.1
theorem dX6_askLeaves_35 : decode cX6_askLeaves 35 = .ok (.ireturn, 1) := dAX6_askLeaves_2.2.2.2.2
set_option maxRecDepth 100000 in
theorem dAX6_asks_0 : decode cX6_asks 0 = .ok (.aload_n 0, 1) ∧ decode cX6_asks 1 = .ok (.iload_n 1, 1) ∧ decode cX6_asks 2 = .ok (.iconst 0, 1) ∧ decode cX6_asks 3 = .ok (.bipush 99, 2) ∧ decode cX6_asks 5 = .ok (.invokevirtual 203, 3) ∧ decode cX6_asks 8 = .ok (.ifCond .eq 5, 3) ∧ decode cX6_asks 11 = .ok (.iconst (-1), 1) ∧ decode cX6_asks 12 = .ok (.ireturn, 1) := by decide +kernel
theorem dX6_asks_0 : decode cX6_asks 0 = .ok (.aload_n 0, 1) := dAX6_asks_0.1
theorem dX6_asks_1 : decode cX6_asks 1 = .ok (.iload_n 1, 1) := dAX6_asks_0.2.1
theorem dX6_asks_2 : decode cX6_asks 2 = .ok (.iconst 0, 1) := dAX6_asks_0.2.2.1
theorem dX6_asks_3 : decode cX6_asks 3 = .ok (.bipush 99, 2) := dAX6_asks_0.2.2.2.1
theorem dX6_asks_5 : decode cX6_asks 5 = .ok (.invokevirtual 203, 3) := dAX6_asks_0.2.2.2.2.1
theorem dX6_asks_8 : decode cX6_asks 8 = .ok (.ifCond .eq 5, 3) := dAX6_asks_0.2.2.2.2.2.1
theorem dX6_asks_11 : decode cX6_asks 11 = .ok (.iconst (-1), 1) := dAX6_asks_0.2.2.2.2.2.2.1
theorem dX6_asks_12 : decode cX6_asks 12 = .ok (.ireturn, 1) := dAX6_asks_0.2.2.2.2.2.2.2
set_option maxRecDepth 100000 in
theorem dAX6_asks_1 : decode cX6_asks 13 = .ok (.aload_n 0, 1) ∧ decode cX6_asks 14 = .ok (.getfield 47, 3) ∧ decode cX6_asks 17 = .ok (.aload_n 0, 1) ∧ decode cX6_asks 18 = .ok (.getfield 19, 3) ∧ decode cX6_asks 21 = .ok (.aload_n 0, 1) ∧ decode cX6_asks 22 = .ok (.getfield 26, 3) ∧ decode cX6_asks 25 = .ok (.iload_n 1, 1) ∧ decode cX6_asks 26 = .ok (.invokevirtual 207, 3) := by decide +kernel
theorem dX6_asks_13 : decode cX6_asks 13 = .ok (.aload_n 0, 1) := dAX6_asks_1.1
theorem dX6_asks_14 : decode cX6_asks 14 = .ok (.getfield 47, 3) := dAX6_asks_1.2.1
theorem dX6_asks_17 : decode cX6_asks 17 = .ok (.aload_n 0, 1) := dAX6_asks_1.2.2.1
theorem dX6_asks_18 : decode cX6_asks 18 = .ok (.getfield 19, 3) := dAX6_asks_1.2.2.2.1
theorem dX6_asks_21 : decode cX6_asks 21 = .ok (.aload_n 0, 1) := dAX6_asks_1.2.2.2.2.1
theorem dX6_asks_22 : decode cX6_asks 22 = .ok (.getfield 26, 3) := dAX6_asks_1.2.2.2.2.2.1
theorem dX6_asks_25 : decode cX6_asks 25 = .ok (.iload_n 1, 1) := dAX6_asks_1.2.2.2.2.2.2.1
theorem dX6_asks_26 : decode cX6_asks 26 = .ok (.invokevirtual 207, 3) := dAX6_asks_1.2.2.2.2.2.2.2
set_option maxRecDepth 100000 in
theorem dAX6_asks_2 : decode cX6_asks 29 = .ok (.ifCond .eq 7, 3) ∧ decode cX6_asks 32 = .ok (.iconst 1, 1) ∧ decode cX6_asks 33 = .ok (.goto 4, 3) ∧ decode cX6_asks 36 = .ok (.iconst 0, 1) ∧ decode cX6_asks 37 = .ok (.ireturn, 1) := by decide +kernel
theorem dX6_asks_29 : decode cX6_asks 29 = .ok (.ifCond .eq 7, 3) := dAX6_asks_2.1
theorem dX6_asks_32 : decode cX6_asks 32 = .ok (.iconst 1, 1) := dAX6_asks_2.2.1
theorem dX6_asks_33 : decode cX6_asks 33 = .ok (.goto 4, 3) := dAX6_asks_2.2.2.1
theorem dX6_asks_36 : decode cX6_asks 36 = .ok (.iconst 0, 1) := dAX6_asks_2.2.2.2.1
theorem dX6_asks_37 : decode cX6_asks 37 = .ok (.ireturn, 1) := dAX6_asks_2.2.2.2.2
set_option maxRecDepth 100000 in
theorem dAX6_back_0 : decode cX6_back 0 = .ok (.iload_n 1, 1) ∧ decode cX6_back 1 = .ok (.ifCond .lt 11, 3) ∧ decode cX6_back 4 = .ok (.iload_n 1, 1) ∧ decode cX6_back 5 = .ok (.aload_n 0, 1) ∧ decode cX6_back 6 = .ok (.getfield 97, 3) ∧ decode cX6_back 9 = .ok (.if_icmp .lt 10, 3) ∧ decode cX6_back 12 = .ok (.aload_n 0, 1) ∧ decode cX6_back 13 = .ok (.iconst 1, 1) := by decide +kernel
theorem dX6_back_0 : decode cX6_back 0 = .ok (.iload_n 1, 1) := dAX6_back_0.1
theorem dX6_back_1 : decode cX6_back 1 = .ok (.ifCond .lt 11, 3) := dAX6_back_0.2.1
theorem dX6_back_4 : decode cX6_back 4 = .ok (.iload_n 1, 1) := dAX6_back_0.2.2.1
theorem dX6_back_5 : decode cX6_back 5 = .ok (.aload_n 0, 1) := dAX6_back_0.2.2.2.1
theorem dX6_back_6 : decode cX6_back 6 = .ok (.getfield 97, 3) := dAX6_back_0.2.2.2.2.1
theorem dX6_back_9 : decode cX6_back 9 = .ok (.if_icmp .lt 10, 3) := dAX6_back_0.2.2.2.2.2.1
theorem dX6_back_12 : decode cX6_back 12 = .ok (.aload_n 0, 1) := dAX6_back_0.2.2.2.2.2.2.1
theorem dX6_back_13 : decode cX6_back 13 = .ok (.iconst 1, 1) := dAX6_back_0.2.2.2.2.2.2.2
set_option maxRecDepth 100000 in
theorem dAX6_back_1 : decode cX6_back 14 = .ok (.putfield 100, 3) ∧ decode cX6_back 17 = .ok (.iconst 0, 1) ∧ decode cX6_back 18 = .ok (.ireturn, 1) ∧ decode cX6_back 19 = .ok (.aload_n 0, 1) ∧ decode cX6_back 20 = .ok (.getfield 26, 3) ∧ decode cX6_back 23 = .ok (.aload_n 0, 1) ∧ decode cX6_back 24 = .ok (.getfield 33, 3) ∧ decode cX6_back 27 = .ok (.iload_n 1, 1) := by decide +kernel
theorem dX6_back_14 : decode cX6_back 14 = .ok (.putfield 100, 3) := dAX6_back_1.1
theorem dX6_back_17 : decode cX6_back 17 = .ok (.iconst 0, 1) := dAX6_back_1.2.1
theorem dX6_back_18 : decode cX6_back 18 = .ok (.ireturn, 1) := dAX6_back_1.2.2.1
theorem dX6_back_19 : decode cX6_back 19 = .ok (.aload_n 0, 1) := dAX6_back_1.2.2.2.1
theorem dX6_back_20 : decode cX6_back 20 = .ok (.getfield 26, 3) := dAX6_back_1.2.2.2.2.1
theorem dX6_back_23 : decode cX6_back 23 = .ok (.aload_n 0, 1) := dAX6_back_1.2.2.2.2.2.1
theorem dX6_back_24 : decode cX6_back 24 = .ok (.getfield 33, 3) := dAX6_back_1.2.2.2.2.2.2.1
theorem dX6_back_27 : decode cX6_back 27 = .ok (.iload_n 1, 1) := dAX6_back_1.2.2.2.2.2.2.2
set_option maxRecDepth 100000 in
theorem dAX6_back_2 : decode cX6_back 28 = .ok (.aaload, 1) ∧ decode cX6_back 29 = .ok (.invokevirtual 241, 3) ∧ decode cX6_back 32 = .ok (.aload_n 0, 1) ∧ decode cX6_back 33 = .ok (.getfield 40, 3) ∧ decode cX6_back 36 = .ok (.invokevirtual 94, 3) ∧ decode cX6_back 39 = .ok (.aload_n 0, 1) ∧ decode cX6_back 40 = .ok (.iconst 0, 1) ∧ decode cX6_back 41 = .ok (.putfield 100, 3) := by decide +kernel
theorem dX6_back_28 : decode cX6_back 28 = .ok (.aaload, 1) := dAX6_back_2.1
theorem dX6_back_29 : decode cX6_back 29 = .ok (.invokevirtual 241, 3) := dAX6_back_2.2.1
theorem dX6_back_32 : decode cX6_back 32 = .ok (.aload_n 0, 1) := dAX6_back_2.2.2.1
theorem dX6_back_33 : decode cX6_back 33 = .ok (.getfield 40, 3) := dAX6_back_2.2.2.2.1
theorem dX6_back_36 : decode cX6_back 36 = .ok (.invokevirtual 94, 3) := dAX6_back_2.2.2.2.2.1
theorem dX6_back_39 : decode cX6_back 39 = .ok (.aload_n 0, 1) := dAX6_back_2.2.2.2.2.2.1
theorem dX6_back_40 : decode cX6_back 40 = .ok (.iconst 0, 1) := dAX6_back_2.2.2.2.2.2.2.1
theorem dX6_back_41 : decode cX6_back 41 = .ok (.putfield 100, 3) := dAX6_back_2.2.2.2.2.2.2.2
set_option maxRecDepth 100000 in
theorem dAX6_back_3 : decode cX6_back 44 = .ok (.iconst 1, 1) ∧ decode cX6_back 45 = .ok (.ireturn, 1) := by decide +kernel
theorem dX6_back_44 : decode cX6_back 44 = .ok (.iconst 1, 1) := dAX6_back_3.1
theorem dX6_back_45 : decode cX6_back 45 = .ok (.ireturn, 1) := dAX6_back_3.2
set_option maxRecDepth 100000 in
theorem dAX6_best_0 : decode cX6_best 0 = .ok (.aload_n 0, 1) ∧ decode cX6_best 1 = .ok (.iload_n 1, 1) ∧ decode cX6_best 2 = .ok (.invokevirtual 106, 3) ∧ decode cX6_best 5 = .ok (.ifCond .eq 5, 3) ∧ decode cX6_best 8 = .ok (.iconst (-1), 1) ∧ decode cX6_best 9 = .ok (.ireturn, 1) ∧ decode cX6_best 10 = .ok (.aload_n 0, 1) ∧ decode cX6_best 11 = .ok (.getfield 54, 3) := by decide +kernel
theorem dX6_best_0 : decode cX6_best 0 = .ok (.aload_n 0, 1) := dAX6_best_0.1
theorem dX6_best_1 : decode cX6_best 1 = .ok (.iload_n 1, 1) := dAX6_best_0.2.1
theorem dX6_best_2 : decode cX6_best 2 = .ok (.invokevirtual 106, 3) := dAX6_best_0.2.2.1
theorem dX6_best_5 : decode cX6_best 5 = .ok (.ifCond .eq 5, 3) := dAX6_best_0.2.2.2.1
theorem dX6_best_8 : decode cX6_best 8 = .ok (.iconst (-1), 1) := dAX6_best_0.2.2.2.2.1
theorem dX6_best_9 : decode cX6_best 9 = .ok (.ireturn, 1) := dAX6_best_0.2.2.2.2.2.1
theorem dX6_best_10 : decode cX6_best 10 = .ok (.aload_n 0, 1) := dAX6_best_0.2.2.2.2.2.2.1
theorem dX6_best_11 : decode cX6_best 11 = .ok (.getfield 54, 3) := dAX6_best_0.2.2.2.2.2.2.2
set_option maxRecDepth 100000 in
theorem dAX6_best_1 : decode cX6_best 14 = .ok (.aload_n 0, 1) ∧ decode cX6_best 15 = .ok (.getfield 19, 3) ∧ decode cX6_best 18 = .ok (.aload_n 0, 1) ∧ decode cX6_best 19 = .ok (.getfield 26, 3) ∧ decode cX6_best 22 = .ok (.getfield 149, 3) ∧ decode cX6_best 25 = .ok (.invokevirtual 152, 3) ∧ decode cX6_best 28 = .ok (.pop, 1) ∧ decode cX6_best 29 = .ok (.aload_n 0, 1) := by decide +kernel
theorem dX6_best_14 : decode cX6_best 14 = .ok (.aload_n 0, 1) := dAX6_best_1.1
theorem dX6_best_15 : decode cX6_best 15 = .ok (.getfield 19, 3) := dAX6_best_1.2.1
theorem dX6_best_18 : decode cX6_best 18 = .ok (.aload_n 0, 1) := dAX6_best_1.2.2.1
theorem dX6_best_19 : decode cX6_best 19 = .ok (.getfield 26, 3) := dAX6_best_1.2.2.2.1
theorem dX6_best_22 : decode cX6_best 22 = .ok (.getfield 149, 3) := dAX6_best_1.2.2.2.2.1
theorem dX6_best_25 : decode cX6_best 25 = .ok (.invokevirtual 152, 3) := dAX6_best_1.2.2.2.2.2.1
theorem dX6_best_28 : decode cX6_best 28 = .ok (.pop, 1) := dAX6_best_1.2.2.2.2.2.2.1
theorem dX6_best_29 : decode cX6_best 29 = .ok (.aload_n 0, 1) := dAX6_best_1.2.2.2.2.2.2.2
set_option maxRecDepth 100000 in
theorem dAX6_best_2 : decode cX6_best 30 = .ok (.iload_n 1, 1) ∧ decode cX6_best 31 = .ok (.invokevirtual 166, 3) ∧ decode cX6_best 34 = .ok (.ireturn, 1) := by decide +kernel
theorem dX6_best_30 : decode cX6_best 30 = .ok (.iload_n 1, 1) := dAX6_best_2.1
theorem dX6_best_31 : decode cX6_best 31 = .ok (.invokevirtual 166, 3) := dAX6_best_2.2.1
theorem dX6_best_34 : decode cX6_best 34 = .ok (.ireturn, 1) := dAX6_best_2.2.2
set_option maxRecDepth 100000 in
theorem dAX6_bestPart_0 : decode cX6_bestPart 0 = .ok (.aload_n 0, 1) ∧ decode cX6_bestPart 1 = .ok (.getfield 19, 3) ∧ decode cX6_bestPart 4 = .ok (.getfield 109, 3) ∧ decode cX6_bestPart 7 = .ok (.iload_n 1, 1) ∧ decode cX6_bestPart 8 = .ok (.iaload, 1) ∧ decode cX6_bestPart 9 = .ok (.ifCond .eq 16, 3) ∧ decode cX6_bestPart 12 = .ok (.aload_n 0, 1) ∧ decode cX6_bestPart 13 = .ok (.getfield 19, 3) := by decide +kernel
theorem dX6_bestPart_0 : decode cX6_bestPart 0 = .ok (.aload_n 0, 1) := dAX6_bestPart_0.1
theorem dX6_bestPart_1 : decode cX6_bestPart 1 = .ok (.getfield 19, 3) := dAX6_bestPart_0.2.1
theorem dX6_bestPart_4 : decode cX6_bestPart 4 = .ok (.getfield 109, 3) := dAX6_bestPart_0.2.2.1
theorem dX6_bestPart_7 : decode cX6_bestPart 7 = .ok (.iload_n 1, 1) := dAX6_bestPart_0.2.2.2.1
theorem dX6_bestPart_8 : decode cX6_bestPart 8 = .ok (.iaload, 1) := dAX6_bestPart_0.2.2.2.2.1
theorem dX6_bestPart_9 : decode cX6_bestPart 9 = .ok (.ifCond .eq 16, 3) := dAX6_bestPart_0.2.2.2.2.2.1
theorem dX6_bestPart_12 : decode cX6_bestPart 12 = .ok (.aload_n 0, 1) := dAX6_bestPart_0.2.2.2.2.2.2.1
theorem dX6_bestPart_13 : decode cX6_bestPart 13 = .ok (.getfield 19, 3) := dAX6_bestPart_0.2.2.2.2.2.2.2
set_option maxRecDepth 100000 in
theorem dAX6_bestPart_1 : decode cX6_bestPart 16 = .ok (.getfield 109, 3) ∧ decode cX6_bestPart 19 = .ok (.iload_n 1, 1) ∧ decode cX6_bestPart 20 = .ok (.iaload, 1) ∧ decode cX6_bestPart 21 = .ok (.iconst 3, 1) ∧ decode cX6_bestPart 22 = .ok (.if_icmp .ne 6, 3) ∧ decode cX6_bestPart 25 = .ok (.bipush (-2), 2) ∧ decode cX6_bestPart 27 = .ok (.ireturn, 1) ∧ decode cX6_bestPart 28 = .ok (.iconst 0, 1) := by decide +kernel
theorem dX6_bestPart_16 : decode cX6_bestPart 16 = .ok (.getfield 109, 3) := dAX6_bestPart_1.1
theorem dX6_bestPart_19 : decode cX6_bestPart 19 = .ok (.iload_n 1, 1) := dAX6_bestPart_1.2.1
theorem dX6_bestPart_20 : decode cX6_bestPart 20 = .ok (.iaload, 1) := dAX6_bestPart_1.2.2.1
theorem dX6_bestPart_21 : decode cX6_bestPart 21 = .ok (.iconst 3, 1) := dAX6_bestPart_1.2.2.2.1
theorem dX6_bestPart_22 : decode cX6_bestPart 22 = .ok (.if_icmp .ne 6, 3) := dAX6_bestPart_1.2.2.2.2.1
theorem dX6_bestPart_25 : decode cX6_bestPart 25 = .ok (.bipush (-2), 2) := dAX6_bestPart_1.2.2.2.2.2.1
theorem dX6_bestPart_27 : decode cX6_bestPart 27 = .ok (.ireturn, 1) := dAX6_bestPart_1.2.2.2.2.2.2.1
theorem dX6_bestPart_28 : decode cX6_bestPart 28 = .ok (.iconst 0, 1) := dAX6_bestPart_1.2.2.2.2.2.2.2
set_option maxRecDepth 100000 in
theorem dAX6_bestPart_2 : decode cX6_bestPart 29 = .ok (.istore_n 2, 1) ∧ decode cX6_bestPart 30 = .ok (.iload_n 2, 1) ∧ decode cX6_bestPart 31 = .ok (.aload_n 0, 1) ∧ decode cX6_bestPart 32 = .ok (.getfield 19, 3) ∧ decode cX6_bestPart 35 = .ok (.getfield 113, 3) ∧ decode cX6_bestPart 38 = .ok (.iload_n 1, 1) ∧ decode cX6_bestPart 39 = .ok (.iaload, 1) ∧ decode cX6_bestPart 40 = .ok (.if_icmp .ge 46, 3) := by decide +kernel
theorem dX6_bestPart_29 : decode cX6_bestPart 29 = .ok (.istore_n 2, 1) := dAX6_bestPart_2.1
theorem dX6_bestPart_30 : decode cX6_bestPart 30 = .ok (.iload_n 2, 1) := dAX6_bestPart_2.2.1
theorem dX6_bestPart_31 : decode cX6_bestPart 31 = .ok (.aload_n 0, 1) := dAX6_bestPart_2.2.2.1
theorem dX6_bestPart_32 : decode cX6_bestPart 32 = .ok (.getfield 19, 3) := dAX6_bestPart_2.2.2.2.1
theorem dX6_bestPart_35 : decode cX6_bestPart 35 = .ok (.getfield 113, 3) := dAX6_bestPart_2.2.2.2.2.1
theorem dX6_bestPart_38 : decode cX6_bestPart 38 = .ok (.iload_n 1, 1) := dAX6_bestPart_2.2.2.2.2.2.1
theorem dX6_bestPart_39 : decode cX6_bestPart 39 = .ok (.iaload, 1) := dAX6_bestPart_2.2.2.2.2.2.2.1
theorem dX6_bestPart_40 : decode cX6_bestPart 40 = .ok (.if_icmp .ge 46, 3) := dAX6_bestPart_2.2.2.2.2.2.2.2
set_option maxRecDepth 100000 in
theorem dAX6_bestPart_3 : decode cX6_bestPart 43 = .ok (.aload_n 0, 1) ∧ decode cX6_bestPart 44 = .ok (.getfield 26, 3) ∧ decode cX6_bestPart 47 = .ok (.aload_n 0, 1) ∧ decode cX6_bestPart 48 = .ok (.getfield 19, 3) ∧ decode cX6_bestPart 51 = .ok (.iload_n 1, 1) ∧ decode cX6_bestPart 52 = .ok (.iload_n 2, 1) ∧ decode cX6_bestPart 53 = .ok (.invokevirtual 129, 3) ∧ decode cX6_bestPart 56 = .ok (.istore_n 3, 1) := by decide +kernel
theorem dX6_bestPart_43 : decode cX6_bestPart 43 = .ok (.aload_n 0, 1) := dAX6_bestPart_3.1
theorem dX6_bestPart_44 : decode cX6_bestPart 44 = .ok (.getfield 26, 3) := dAX6_bestPart_3.2.1
theorem dX6_bestPart_47 : decode cX6_bestPart 47 = .ok (.aload_n 0, 1) := dAX6_bestPart_3.2.2.1
theorem dX6_bestPart_48 : decode cX6_bestPart 48 = .ok (.getfield 19, 3) := dAX6_bestPart_3.2.2.2.1
theorem dX6_bestPart_51 : decode cX6_bestPart 51 = .ok (.iload_n 1, 1) := dAX6_bestPart_3.2.2.2.2.1
theorem dX6_bestPart_52 : decode cX6_bestPart 52 = .ok (.iload_n 2, 1) := dAX6_bestPart_3.2.2.2.2.2.1
theorem dX6_bestPart_53 : decode cX6_bestPart 53 = .ok (.invokevirtual 129, 3) := dAX6_bestPart_3.2.2.2.2.2.2.1
theorem dX6_bestPart_56 : decode cX6_bestPart 56 = .ok (.istore_n 3, 1) := dAX6_bestPart_3.2.2.2.2.2.2.2
set_option maxRecDepth 100000 in
theorem dAX6_bestPart_4 : decode cX6_bestPart 57 = .ok (.aload_n 0, 1) ∧ decode cX6_bestPart 58 = .ok (.getfield 54, 3) ∧ decode cX6_bestPart 61 = .ok (.getfield 156, 3) ∧ decode cX6_bestPart 64 = .ok (.iload_n 3, 1) ∧ decode cX6_bestPart 65 = .ok (.iaload, 1) ∧ decode cX6_bestPart 66 = .ok (.aload_n 0, 1) ∧ decode cX6_bestPart 67 = .ok (.getfield 54, 3) ∧ decode cX6_bestPart 70 = .ok (.getfield 156, 3) := by decide +kernel
theorem dX6_bestPart_57 : decode cX6_bestPart 57 = .ok (.aload_n 0, 1) := dAX6_bestPart_4.1
theorem dX6_bestPart_58 : decode cX6_bestPart 58 = .ok (.getfield 54, 3) := dAX6_bestPart_4.2.1
theorem dX6_bestPart_61 : decode cX6_bestPart 61 = .ok (.getfield 156, 3) := dAX6_bestPart_4.2.2.1
theorem dX6_bestPart_64 : decode cX6_bestPart 64 = .ok (.iload_n 3, 1) := dAX6_bestPart_4.2.2.2.1
theorem dX6_bestPart_65 : decode cX6_bestPart 65 = .ok (.iaload, 1) := dAX6_bestPart_4.2.2.2.2.1
theorem dX6_bestPart_66 : decode cX6_bestPart 66 = .ok (.aload_n 0, 1) := dAX6_bestPart_4.2.2.2.2.2.1
theorem dX6_bestPart_67 : decode cX6_bestPart 67 = .ok (.getfield 54, 3) := dAX6_bestPart_4.2.2.2.2.2.2.1
theorem dX6_bestPart_70 : decode cX6_bestPart 70 = .ok (.getfield 156, 3) := dAX6_bestPart_4.2.2.2.2.2.2.2
set_option maxRecDepth 100000 in
theorem dAX6_bestPart_5 : decode cX6_bestPart 73 = .ok (.iload_n 1, 1) ∧ decode cX6_bestPart 74 = .ok (.iaload, 1) ∧ decode cX6_bestPart 75 = .ok (.if_icmp .ne 5, 3) ∧ decode cX6_bestPart 78 = .ok (.iload_n 3, 1) ∧ decode cX6_bestPart 79 = .ok (.ireturn, 1) ∧ decode cX6_bestPart 80 = .ok (.iinc 2 1, 3) ∧ decode cX6_bestPart 83 = .ok (.goto (-53), 3) ∧ decode cX6_bestPart 86 = .ok (.bipush (-2), 2) := by decide +kernel
theorem dX6_bestPart_73 : decode cX6_bestPart 73 = .ok (.iload_n 1, 1) := dAX6_bestPart_5.1
theorem dX6_bestPart_74 : decode cX6_bestPart 74 = .ok (.iaload, 1) := dAX6_bestPart_5.2.1
theorem dX6_bestPart_75 : decode cX6_bestPart 75 = .ok (.if_icmp .ne 5, 3) := dAX6_bestPart_5.2.2.1
theorem dX6_bestPart_78 : decode cX6_bestPart 78 = .ok (.iload_n 3, 1) := dAX6_bestPart_5.2.2.2.1
theorem dX6_bestPart_79 : decode cX6_bestPart 79 = .ok (.ireturn, 1) := dAX6_bestPart_5.2.2.2.2.1
theorem dX6_bestPart_80 : decode cX6_bestPart 80 = .ok (.iinc 2 1, 3) := dAX6_bestPart_5.2.2.2.2.2.1
theorem dX6_bestPart_83 : decode cX6_bestPart 83 = .ok (.goto (-53), 3) := dAX6_bestPart_5.2.2.2.2.2.2.1
theorem dX6_bestPart_86 : decode cX6_bestPart 86 = .ok (.bipush (-2), 2) := dAX6_bestPart_5.2.2.2.2.2.2.2
theorem dX6_bestPart_88 : decode cX6_bestPart 88 = .ok (.ireturn, 1) := by decide +kernel
set_option maxRecDepth 100000 in
theorem dAX6_breathsInOrder_0 : decode cX6_breathsInOrder 0 = .ok (.aload_n 0, 1) ∧ decode cX6_breathsInOrder 1 = .ok (.getfield 30, 3) ∧ decode cX6_breathsInOrder 4 = .ok (.aload_n 0, 1) ∧ decode cX6_breathsInOrder 5 = .ok (.getfield 26, 3) ∧ decode cX6_breathsInOrder 8 = .ok (.invokevirtual 241, 3) ∧ decode cX6_breathsInOrder 11 = .ok (.aload_n 0, 1) ∧ decode cX6_breathsInOrder 12 = .ok (.getfield 30, 3) ∧ decode cX6_breathsInOrder 15 = .ok (.iload_n 1, 1) := by decide +kernel
theorem dX6_breathsInOrder_0 : decode cX6_breathsInOrder 0 = .ok (.aload_n 0, 1) := dAX6_breathsInOrder_0.1
theorem dX6_breathsInOrder_1 : decode cX6_breathsInOrder 1 = .ok (.getfield 30, 3) := dAX6_breathsInOrder_0.2.1
theorem dX6_breathsInOrder_4 : decode cX6_breathsInOrder 4 = .ok (.aload_n 0, 1) := dAX6_breathsInOrder_0.2.2.1
theorem dX6_breathsInOrder_5 : decode cX6_breathsInOrder 5 = .ok (.getfield 26, 3) := dAX6_breathsInOrder_0.2.2.2.1
theorem dX6_breathsInOrder_8 : decode cX6_breathsInOrder 8 = .ok (.invokevirtual 241, 3) := dAX6_breathsInOrder_0.2.2.2.2.1
theorem dX6_breathsInOrder_11 : decode cX6_breathsInOrder 11 = .ok (.aload_n 0, 1) := dAX6_breathsInOrder_0.2.2.2.2.2.1
theorem dX6_breathsInOrder_12 : decode cX6_breathsInOrder 12 = .ok (.getfield 30, 3) := dAX6_breathsInOrder_0.2.2.2.2.2.2.1
theorem dX6_breathsInOrder_15 : decode cX6_breathsInOrder 15 = .ok (.iload_n 1, 1) := dAX6_breathsInOrder_0.2.2.2.2.2.2.2
set_option maxRecDepth 100000 in
theorem dAX6_breathsInOrder_1 : decode cX6_breathsInOrder 16 = .ok (.aload_n 0, 1) ∧ decode cX6_breathsInOrder 17 = .ok (.getfield 19, 3) ∧ decode cX6_breathsInOrder 20 = .ok (.getfield 113, 3) ∧ decode cX6_breathsInOrder 23 = .ok (.iload_n 1, 1) ∧ decode cX6_breathsInOrder 24 = .ok (.iaload, 1) ∧ decode cX6_breathsInOrder 25 = .ok (.iload_n 2, 1) ∧ decode cX6_breathsInOrder 26 = .ok (.invokevirtual 260, 3) ∧ decode cX6_breathsInOrder 29 = .ok (.aload_n 0, 1) := by decide +kernel
theorem dX6_breathsInOrder_16 : decode cX6_breathsInOrder 16 = .ok (.aload_n 0, 1) := dAX6_breathsInOrder_1.1
theorem dX6_breathsInOrder_17 : decode cX6_breathsInOrder 17 = .ok (.getfield 19, 3) := dAX6_breathsInOrder_1.2.1
theorem dX6_breathsInOrder_20 : decode cX6_breathsInOrder 20 = .ok (.getfield 113, 3) := dAX6_breathsInOrder_1.2.2.1
theorem dX6_breathsInOrder_23 : decode cX6_breathsInOrder 23 = .ok (.iload_n 1, 1) := dAX6_breathsInOrder_1.2.2.2.1
theorem dX6_breathsInOrder_24 : decode cX6_breathsInOrder 24 = .ok (.iaload, 1) := dAX6_breathsInOrder_1.2.2.2.2.1
theorem dX6_breathsInOrder_25 : decode cX6_breathsInOrder 25 = .ok (.iload_n 2, 1) := dAX6_breathsInOrder_1.2.2.2.2.2.1
theorem dX6_breathsInOrder_26 : decode cX6_breathsInOrder 26 = .ok (.invokevirtual 260, 3) := dAX6_breathsInOrder_1.2.2.2.2.2.2.1
theorem dX6_breathsInOrder_29 : decode cX6_breathsInOrder 29 = .ok (.aload_n 0, 1) := dAX6_breathsInOrder_1.2.2.2.2.2.2.2
set_option maxRecDepth 100000 in
theorem dAX6_breathsInOrder_2 : decode cX6_breathsInOrder 30 = .ok (.getfield 47, 3) ∧ decode cX6_breathsInOrder 33 = .ok (.aload_n 0, 1) ∧ decode cX6_breathsInOrder 34 = .ok (.getfield 19, 3) ∧ decode cX6_breathsInOrder 37 = .ok (.aload_n 0, 1) ∧ decode cX6_breathsInOrder 38 = .ok (.getfield 30, 3) ∧ decode cX6_breathsInOrder 41 = .ok (.invokevirtual 177, 3) ∧ decode cX6_breathsInOrder 44 = .ok (.ireturn, 1) := by decide +kernel
theorem dX6_breathsInOrder_30 : decode cX6_breathsInOrder 30 = .ok (.getfield 47, 3) := dAX6_breathsInOrder_2.1
theorem dX6_breathsInOrder_33 : decode cX6_breathsInOrder 33 = .ok (.aload_n 0, 1) := dAX6_breathsInOrder_2.2.1
theorem dX6_breathsInOrder_34 : decode cX6_breathsInOrder 34 = .ok (.getfield 19, 3) := dAX6_breathsInOrder_2.2.2.1
theorem dX6_breathsInOrder_37 : decode cX6_breathsInOrder 37 = .ok (.aload_n 0, 1) := dAX6_breathsInOrder_2.2.2.2.1
theorem dX6_breathsInOrder_38 : decode cX6_breathsInOrder 38 = .ok (.getfield 30, 3) := dAX6_breathsInOrder_2.2.2.2.2.1
theorem dX6_breathsInOrder_41 : decode cX6_breathsInOrder 41 = .ok (.invokevirtual 177, 3) := dAX6_breathsInOrder_2.2.2.2.2.2.1
theorem dX6_breathsInOrder_44 : decode cX6_breathsInOrder 44 = .ok (.ireturn, 1) := dAX6_breathsInOrder_2.2.2.2.2.2.2
set_option maxRecDepth 100000 in
theorem dAX6_breathsWithFirst_0 : decode cX6_breathsWithFirst 0 = .ok (.aload_n 0, 1) ∧ decode cX6_breathsWithFirst 1 = .ok (.getfield 30, 3) ∧ decode cX6_breathsWithFirst 4 = .ok (.aload_n 0, 1) ∧ decode cX6_breathsWithFirst 5 = .ok (.getfield 26, 3) ∧ decode cX6_breathsWithFirst 8 = .ok (.invokevirtual 241, 3) ∧ decode cX6_breathsWithFirst 11 = .ok (.aload_n 0, 1) ∧ decode cX6_breathsWithFirst 12 = .ok (.getfield 30, 3) ∧ decode cX6_breathsWithFirst 15 = .ok (.iload_n 1, 1) := by decide +kernel
theorem dX6_breathsWithFirst_0 : decode cX6_breathsWithFirst 0 = .ok (.aload_n 0, 1) := dAX6_breathsWithFirst_0.1
theorem dX6_breathsWithFirst_1 : decode cX6_breathsWithFirst 1 = .ok (.getfield 30, 3) := dAX6_breathsWithFirst_0.2.1
theorem dX6_breathsWithFirst_4 : decode cX6_breathsWithFirst 4 = .ok (.aload_n 0, 1) := dAX6_breathsWithFirst_0.2.2.1
theorem dX6_breathsWithFirst_5 : decode cX6_breathsWithFirst 5 = .ok (.getfield 26, 3) := dAX6_breathsWithFirst_0.2.2.2.1
theorem dX6_breathsWithFirst_8 : decode cX6_breathsWithFirst 8 = .ok (.invokevirtual 241, 3) := dAX6_breathsWithFirst_0.2.2.2.2.1
theorem dX6_breathsWithFirst_11 : decode cX6_breathsWithFirst 11 = .ok (.aload_n 0, 1) := dAX6_breathsWithFirst_0.2.2.2.2.2.1
theorem dX6_breathsWithFirst_12 : decode cX6_breathsWithFirst 12 = .ok (.getfield 30, 3) := dAX6_breathsWithFirst_0.2.2.2.2.2.2.1
theorem dX6_breathsWithFirst_15 : decode cX6_breathsWithFirst 15 = .ok (.iload_n 1, 1) := dAX6_breathsWithFirst_0.2.2.2.2.2.2.2
set_option maxRecDepth 100000 in
theorem dAX6_breathsWithFirst_1 : decode cX6_breathsWithFirst 16 = .ok (.iload_n 2, 1) ∧ decode cX6_breathsWithFirst 17 = .ok (.invokevirtual 245, 3) ∧ decode cX6_breathsWithFirst 20 = .ok (.aload_n 0, 1) ∧ decode cX6_breathsWithFirst 21 = .ok (.getfield 47, 3) ∧ decode cX6_breathsWithFirst 24 = .ok (.aload_n 0, 1) ∧ decode cX6_breathsWithFirst 25 = .ok (.getfield 19, 3) ∧ decode cX6_breathsWithFirst 28 = .ok (.aload_n 0, 1) ∧ decode cX6_breathsWithFirst 29 = .ok (.getfield 30, 3) := by decide +kernel
theorem dX6_breathsWithFirst_16 : decode cX6_breathsWithFirst 16 = .ok (.iload_n 2, 1) := dAX6_breathsWithFirst_1.1
theorem dX6_breathsWithFirst_17 : decode cX6_breathsWithFirst 17 = .ok (.invokevirtual 245, 3) := dAX6_breathsWithFirst_1.2.1
theorem dX6_breathsWithFirst_20 : decode cX6_breathsWithFirst 20 = .ok (.aload_n 0, 1) := dAX6_breathsWithFirst_1.2.2.1
theorem dX6_breathsWithFirst_21 : decode cX6_breathsWithFirst 21 = .ok (.getfield 47, 3) := dAX6_breathsWithFirst_1.2.2.2.1
theorem dX6_breathsWithFirst_24 : decode cX6_breathsWithFirst 24 = .ok (.aload_n 0, 1) := dAX6_breathsWithFirst_1.2.2.2.2.1
theorem dX6_breathsWithFirst_25 : decode cX6_breathsWithFirst 25 = .ok (.getfield 19, 3) := dAX6_breathsWithFirst_1.2.2.2.2.2.1
theorem dX6_breathsWithFirst_28 : decode cX6_breathsWithFirst 28 = .ok (.aload_n 0, 1) := dAX6_breathsWithFirst_1.2.2.2.2.2.2.1
theorem dX6_breathsWithFirst_29 : decode cX6_breathsWithFirst 29 = .ok (.getfield 30, 3) := dAX6_breathsWithFirst_1.2.2.2.2.2.2.2
set_option maxRecDepth 100000 in
theorem dAX6_breathsWithFirst_2 : decode cX6_breathsWithFirst 32 = .ok (.invokevirtual 177, 3) ∧ decode cX6_breathsWithFirst 35 = .ok (.ireturn, 1) := by decide +kernel
theorem dX6_breathsWithFirst_32 : decode cX6_breathsWithFirst 32 = .ok (.invokevirtual 177, 3) := dAX6_breathsWithFirst_2.1
theorem dX6_breathsWithFirst_35 : decode cX6_breathsWithFirst 35 = .ok (.ireturn, 1) := dAX6_breathsWithFirst_2.2
set_option maxRecDepth 100000 in
theorem dAX6_could_0 : decode cX6_could 0 = .ok (.aload_n 0, 1) ∧ decode cX6_could 1 = .ok (.invokevirtual 140, 3) ∧ decode cX6_could 4 = .ok (.ifCond .eq 5, 3) ∧ decode cX6_could 7 = .ok (.iconst (-1), 1) ∧ decode cX6_could 8 = .ok (.ireturn, 1) ∧ decode cX6_could 9 = .ok (.aload_n 0, 1) ∧ decode cX6_could 10 = .ok (.invokevirtual 287, 3) ∧ decode cX6_could 13 = .ok (.istore_n 1, 1) := by decide +kernel
theorem dX6_could_0 : decode cX6_could 0 = .ok (.aload_n 0, 1) := dAX6_could_0.1
theorem dX6_could_1 : decode cX6_could 1 = .ok (.invokevirtual 140, 3) := dAX6_could_0.2.1
theorem dX6_could_4 : decode cX6_could 4 = .ok (.ifCond .eq 5, 3) := dAX6_could_0.2.2.1
theorem dX6_could_7 : decode cX6_could 7 = .ok (.iconst (-1), 1) := dAX6_could_0.2.2.2.1
theorem dX6_could_8 : decode cX6_could 8 = .ok (.ireturn, 1) := dAX6_could_0.2.2.2.2.1
theorem dX6_could_9 : decode cX6_could 9 = .ok (.aload_n 0, 1) := dAX6_could_0.2.2.2.2.2.1
theorem dX6_could_10 : decode cX6_could 10 = .ok (.invokevirtual 287, 3) := dAX6_could_0.2.2.2.2.2.2.1
theorem dX6_could_13 : decode cX6_could 13 = .ok (.istore_n 1, 1) := dAX6_could_0.2.2.2.2.2.2.2
set_option maxRecDepth 100000 in
theorem dAX6_could_1 : decode cX6_could 14 = .ok (.iconst 0, 1) ∧ decode cX6_could 15 = .ok (.istore_n 2, 1) ∧ decode cX6_could 16 = .ok (.iconst 0, 1) ∧ decode cX6_could 17 = .ok (.istore_n 3, 1) ∧ decode cX6_could 18 = .ok (.iload_n 3, 1) ∧ decode cX6_could 19 = .ok (.aload_n 0, 1) ∧ decode cX6_could 20 = .ok (.getfield 19, 3) ∧ decode cX6_could 23 = .ok (.invokevirtual 290, 3) := by decide +kernel
theorem dX6_could_14 : decode cX6_could 14 = .ok (.iconst 0, 1) := dAX6_could_1.1
theorem dX6_could_15 : decode cX6_could 15 = .ok (.istore_n 2, 1) := dAX6_could_1.2.1
theorem dX6_could_16 : decode cX6_could 16 = .ok (.iconst 0, 1) := dAX6_could_1.2.2.1
theorem dX6_could_17 : decode cX6_could 17 = .ok (.istore_n 3, 1) := dAX6_could_1.2.2.2.1
theorem dX6_could_18 : decode cX6_could 18 = .ok (.iload_n 3, 1) := dAX6_could_1.2.2.2.2.1
theorem dX6_could_19 : decode cX6_could 19 = .ok (.aload_n 0, 1) := dAX6_could_1.2.2.2.2.2.1
theorem dX6_could_20 : decode cX6_could 20 = .ok (.getfield 19, 3) := dAX6_could_1.2.2.2.2.2.2.1
theorem dX6_could_23 : decode cX6_could 23 = .ok (.invokevirtual 290, 3) := dAX6_could_1.2.2.2.2.2.2.2
set_option maxRecDepth 100000 in
theorem dAX6_could_2 : decode cX6_could 26 = .ok (.if_icmp .ge 22, 3) ∧ decode cX6_could 29 = .ok (.iload_n 1, 1) ∧ decode cX6_could 30 = .ok (.iload_n 3, 1) ∧ decode cX6_could 31 = .ok (.ishr, 1) ∧ decode cX6_could 32 = .ok (.iconst 1, 1) ∧ decode cX6_could 33 = .ok (.iand, 1) ∧ decode cX6_could 34 = .ok (.iconst 1, 1) ∧ decode cX6_could 35 = .ok (.if_icmp .ne 7, 3) := by decide +kernel
theorem dX6_could_26 : decode cX6_could 26 = .ok (.if_icmp .ge 22, 3) := dAX6_could_2.1
theorem dX6_could_29 : decode cX6_could 29 = .ok (.iload_n 1, 1) := dAX6_could_2.2.1
theorem dX6_could_30 : decode cX6_could 30 = .ok (.iload_n 3, 1) := dAX6_could_2.2.2.1
theorem dX6_could_31 : decode cX6_could 31 = .ok (.ishr, 1) := dAX6_could_2.2.2.2.1
theorem dX6_could_32 : decode cX6_could 32 = .ok (.iconst 1, 1) := dAX6_could_2.2.2.2.2.1
theorem dX6_could_33 : decode cX6_could 33 = .ok (.iand, 1) := dAX6_could_2.2.2.2.2.2.1
theorem dX6_could_34 : decode cX6_could 34 = .ok (.iconst 1, 1) := dAX6_could_2.2.2.2.2.2.2.1
theorem dX6_could_35 : decode cX6_could 35 = .ok (.if_icmp .ne 7, 3) := dAX6_could_2.2.2.2.2.2.2.2
set_option maxRecDepth 100000 in
theorem dAX6_could_3 : decode cX6_could 38 = .ok (.iload_n 2, 1) ∧ decode cX6_could 39 = .ok (.iload_n 3, 1) ∧ decode cX6_could 40 = .ok (.ior, 1) ∧ decode cX6_could 41 = .ok (.istore_n 2, 1) ∧ decode cX6_could 42 = .ok (.iinc 3 1, 3) ∧ decode cX6_could 45 = .ok (.goto (-27), 3) ∧ decode cX6_could 48 = .ok (.iload_n 2, 1) ∧ decode cX6_could 49 = .ok (.ireturn, 1) := by decide +kernel
theorem dX6_could_38 : decode cX6_could 38 = .ok (.iload_n 2, 1) := dAX6_could_3.1
theorem dX6_could_39 : decode cX6_could 39 = .ok (.iload_n 3, 1) := dAX6_could_3.2.1
theorem dX6_could_40 : decode cX6_could 40 = .ok (.ior, 1) := dAX6_could_3.2.2.1
theorem dX6_could_41 : decode cX6_could 41 = .ok (.istore_n 2, 1) := dAX6_could_3.2.2.2.1
theorem dX6_could_42 : decode cX6_could 42 = .ok (.iinc 3 1, 3) := dAX6_could_3.2.2.2.2.1
theorem dX6_could_45 : decode cX6_could 45 = .ok (.goto (-27), 3) := dAX6_could_3.2.2.2.2.2.1
theorem dX6_could_48 : decode cX6_could 48 = .ok (.iload_n 2, 1) := dAX6_could_3.2.2.2.2.2.2.1
theorem dX6_could_49 : decode cX6_could 49 = .ok (.ireturn, 1) := dAX6_could_3.2.2.2.2.2.2.2
set_option maxRecDepth 100000 in
theorem dAX6_court_0 : decode cX6_court 0 = .ok (.iload_n 1, 1) ∧ decode cX6_court 1 = .ok (.ifCond .lt 14, 3) ∧ decode cX6_court 4 = .ok (.iload_n 1, 1) ∧ decode cX6_court 5 = .ok (.aload_n 0, 1) ∧ decode cX6_court 6 = .ok (.getfield 10, 3) ∧ decode cX6_court 9 = .ok (.getfield 58, 3) ∧ decode cX6_court 12 = .ok (.if_icmp .le 9, 3) ∧ decode cX6_court 15 = .ok (.aload_n 0, 1) := by decide +kernel
theorem dX6_court_0 : decode cX6_court 0 = .ok (.iload_n 1, 1) := dAX6_court_0.1
theorem dX6_court_1 : decode cX6_court 1 = .ok (.ifCond .lt 14, 3) := dAX6_court_0.2.1
theorem dX6_court_4 : decode cX6_court 4 = .ok (.iload_n 1, 1) := dAX6_court_0.2.2.1
theorem dX6_court_5 : decode cX6_court 5 = .ok (.aload_n 0, 1) := dAX6_court_0.2.2.2.1
theorem dX6_court_6 : decode cX6_court 6 = .ok (.getfield 10, 3) := dAX6_court_0.2.2.2.2.1
theorem dX6_court_9 : decode cX6_court 9 = .ok (.getfield 58, 3) := dAX6_court_0.2.2.2.2.2.1
theorem dX6_court_12 : decode cX6_court 12 = .ok (.if_icmp .le 9, 3) := dAX6_court_0.2.2.2.2.2.2.1
theorem dX6_court_15 : decode cX6_court 15 = .ok (.aload_n 0, 1) := dAX6_court_0.2.2.2.2.2.2.2
set_option maxRecDepth 100000 in
theorem dAX6_court_1 : decode cX6_court 16 = .ok (.iconst 2, 1) ∧ decode cX6_court 17 = .ok (.invokevirtual 66, 3) ∧ decode cX6_court 20 = .ok (.ireturn, 1) ∧ decode cX6_court 21 = .ok (.aload_n 0, 1) ∧ decode cX6_court 22 = .ok (.getfield 10, 3) ∧ decode cX6_court 25 = .ok (.iload_n 1, 1) ∧ decode cX6_court 26 = .ok (.invokevirtual 70, 3) ∧ decode cX6_court 29 = .ok (.istore_n 2, 1) := by decide +kernel
theorem dX6_court_16 : decode cX6_court 16 = .ok (.iconst 2, 1) := dAX6_court_1.1
theorem dX6_court_17 : decode cX6_court 17 = .ok (.invokevirtual 66, 3) := dAX6_court_1.2.1
theorem dX6_court_20 : decode cX6_court 20 = .ok (.ireturn, 1) := dAX6_court_1.2.2.1
theorem dX6_court_21 : decode cX6_court 21 = .ok (.aload_n 0, 1) := dAX6_court_1.2.2.2.1
theorem dX6_court_22 : decode cX6_court 22 = .ok (.getfield 10, 3) := dAX6_court_1.2.2.2.2.1
theorem dX6_court_25 : decode cX6_court 25 = .ok (.iload_n 1, 1) := dAX6_court_1.2.2.2.2.2.1
theorem dX6_court_26 : decode cX6_court 26 = .ok (.invokevirtual 70, 3) := dAX6_court_1.2.2.2.2.2.2.1
theorem dX6_court_29 : decode cX6_court 29 = .ok (.istore_n 2, 1) := dAX6_court_1.2.2.2.2.2.2.2
set_option maxRecDepth 100000 in
theorem dAX6_court_2 : decode cX6_court 30 = .ok (.aload_n 0, 1) ∧ decode cX6_court 31 = .ok (.aload_n 0, 1) ∧ decode cX6_court 32 = .ok (.getfield 10, 3) ∧ decode cX6_court 35 = .ok (.getfield 74, 3) ∧ decode cX6_court 38 = .ok (.putfield 77, 3) ∧ decode cX6_court 41 = .ok (.aload_n 0, 1) ∧ decode cX6_court 42 = .ok (.aload_n 0, 1) ∧ decode cX6_court 43 = .ok (.getfield 10, 3) := by decide +kernel
theorem dX6_court_30 : decode cX6_court 30 = .ok (.aload_n 0, 1) := dAX6_court_2.1
theorem dX6_court_31 : decode cX6_court 31 = .ok (.aload_n 0, 1) := dAX6_court_2.2.1
theorem dX6_court_32 : decode cX6_court 32 = .ok (.getfield 10, 3) := dAX6_court_2.2.2.1
theorem dX6_court_35 : decode cX6_court 35 = .ok (.getfield 74, 3) := dAX6_court_2.2.2.2.1
theorem dX6_court_38 : decode cX6_court 38 = .ok (.putfield 77, 3) := dAX6_court_2.2.2.2.2.1
theorem dX6_court_41 : decode cX6_court 41 = .ok (.aload_n 0, 1) := dAX6_court_2.2.2.2.2.2.1
theorem dX6_court_42 : decode cX6_court 42 = .ok (.aload_n 0, 1) := dAX6_court_2.2.2.2.2.2.2.1
theorem dX6_court_43 : decode cX6_court 43 = .ok (.getfield 10, 3) := dAX6_court_2.2.2.2.2.2.2.2
set_option maxRecDepth 100000 in
theorem dAX6_court_3 : decode cX6_court 46 = .ok (.getfield 80, 3) ∧ decode cX6_court 49 = .ok (.putfield 83, 3) ∧ decode cX6_court 52 = .ok (.iload_n 2, 1) ∧ decode cX6_court 53 = .ok (.ifCond .ne 9, 3) ∧ decode cX6_court 56 = .ok (.aload_n 0, 1) ∧ decode cX6_court 57 = .ok (.iconst 4, 1) ∧ decode cX6_court 58 = .ok (.invokevirtual 66, 3) ∧ decode cX6_court 61 = .ok (.ireturn, 1) := by decide +kernel
theorem dX6_court_46 : decode cX6_court 46 = .ok (.getfield 80, 3) := dAX6_court_3.1
theorem dX6_court_49 : decode cX6_court 49 = .ok (.putfield 83, 3) := dAX6_court_3.2.1
theorem dX6_court_52 : decode cX6_court 52 = .ok (.iload_n 2, 1) := dAX6_court_3.2.2.1
theorem dX6_court_53 : decode cX6_court 53 = .ok (.ifCond .ne 9, 3) := dAX6_court_3.2.2.2.1
theorem dX6_court_56 : decode cX6_court 56 = .ok (.aload_n 0, 1) := dAX6_court_3.2.2.2.2.1
theorem dX6_court_57 : decode cX6_court 57 = .ok (.iconst 4, 1) := dAX6_court_3.2.2.2.2.2.1
theorem dX6_court_58 : decode cX6_court 58 = .ok (.invokevirtual 66, 3) := dAX6_court_3.2.2.2.2.2.2.1
theorem dX6_court_61 : decode cX6_court 61 = .ok (.ireturn, 1) := dAX6_court_3.2.2.2.2.2.2.2
set_option maxRecDepth 100000 in
theorem dAX6_court_4 : decode cX6_court 62 = .ok (.aload_n 0, 1) ∧ decode cX6_court 63 = .ok (.aload_n 0, 1) ∧ decode cX6_court 64 = .ok (.getfield 10, 3) ∧ decode cX6_court 67 = .ok (.aload_n 0, 1) ∧ decode cX6_court 68 = .ok (.getfield 19, 3) ∧ decode cX6_court 71 = .ok (.invokevirtual 86, 3) ∧ decode cX6_court 74 = .ok (.putfield 19, 3) ∧ decode cX6_court 77 = .ok (.aload_n 0, 1) := by decide +kernel
theorem dX6_court_62 : decode cX6_court 62 = .ok (.aload_n 0, 1) := dAX6_court_4.1
theorem dX6_court_63 : decode cX6_court 63 = .ok (.aload_n 0, 1) := dAX6_court_4.2.1
theorem dX6_court_64 : decode cX6_court 64 = .ok (.getfield 10, 3) := dAX6_court_4.2.2.1
theorem dX6_court_67 : decode cX6_court 67 = .ok (.aload_n 0, 1) := dAX6_court_4.2.2.2.1
theorem dX6_court_68 : decode cX6_court 68 = .ok (.getfield 19, 3) := dAX6_court_4.2.2.2.2.1
theorem dX6_court_71 : decode cX6_court 71 = .ok (.invokevirtual 86, 3) := dAX6_court_4.2.2.2.2.2.1
theorem dX6_court_74 : decode cX6_court 74 = .ok (.putfield 19, 3) := dAX6_court_4.2.2.2.2.2.2.1
theorem dX6_court_77 : decode cX6_court 77 = .ok (.aload_n 0, 1) := dAX6_court_4.2.2.2.2.2.2.2
set_option maxRecDepth 100000 in
theorem dAX6_court_5 : decode cX6_court 78 = .ok (.getfield 26, 3) ∧ decode cX6_court 81 = .ok (.aload_n 0, 1) ∧ decode cX6_court 82 = .ok (.getfield 19, 3) ∧ decode cX6_court 85 = .ok (.invokevirtual 90, 3) ∧ decode cX6_court 88 = .ok (.aload_n 0, 1) ∧ decode cX6_court 89 = .ok (.getfield 40, 3) ∧ decode cX6_court 92 = .ok (.invokevirtual 94, 3) ∧ decode cX6_court 95 = .ok (.aload_n 0, 1) := by decide +kernel
theorem dX6_court_78 : decode cX6_court 78 = .ok (.getfield 26, 3) := dAX6_court_5.1
theorem dX6_court_81 : decode cX6_court 81 = .ok (.aload_n 0, 1) := dAX6_court_5.2.1
theorem dX6_court_82 : decode cX6_court 82 = .ok (.getfield 19, 3) := dAX6_court_5.2.2.1
theorem dX6_court_85 : decode cX6_court 85 = .ok (.invokevirtual 90, 3) := dAX6_court_5.2.2.2.1
theorem dX6_court_88 : decode cX6_court 88 = .ok (.aload_n 0, 1) := dAX6_court_5.2.2.2.2.1
theorem dX6_court_89 : decode cX6_court 89 = .ok (.getfield 40, 3) := dAX6_court_5.2.2.2.2.2.1
theorem dX6_court_92 : decode cX6_court 92 = .ok (.invokevirtual 94, 3) := dAX6_court_5.2.2.2.2.2.2.1
theorem dX6_court_95 : decode cX6_court 95 = .ok (.aload_n 0, 1) := dAX6_court_5.2.2.2.2.2.2.2
set_option maxRecDepth 100000 in
theorem dAX6_court_6 : decode cX6_court 96 = .ok (.iconst 0, 1) ∧ decode cX6_court 97 = .ok (.putfield 97, 3) ∧ decode cX6_court 100 = .ok (.aload_n 0, 1) ∧ decode cX6_court 101 = .ok (.iconst 0, 1) ∧ decode cX6_court 102 = .ok (.putfield 100, 3) ∧ decode cX6_court 105 = .ok (.aload_n 0, 1) ∧ decode cX6_court 106 = .ok (.getfield 19, 3) ∧ decode cX6_court 109 = .ok (.getfield 103, 3) := by decide +kernel
theorem dX6_court_96 : decode cX6_court 96 = .ok (.iconst 0, 1) := dAX6_court_6.1
theorem dX6_court_97 : decode cX6_court 97 = .ok (.putfield 97, 3) := dAX6_court_6.2.1
theorem dX6_court_100 : decode cX6_court 100 = .ok (.aload_n 0, 1) := dAX6_court_6.2.2.1
theorem dX6_court_101 : decode cX6_court 101 = .ok (.iconst 0, 1) := dAX6_court_6.2.2.2.1
theorem dX6_court_102 : decode cX6_court 102 = .ok (.putfield 100, 3) := dAX6_court_6.2.2.2.2.1
theorem dX6_court_105 : decode cX6_court 105 = .ok (.aload_n 0, 1) := dAX6_court_6.2.2.2.2.2.1
theorem dX6_court_106 : decode cX6_court 106 = .ok (.getfield 19, 3) := dAX6_court_6.2.2.2.2.2.2.1
theorem dX6_court_109 : decode cX6_court 109 = .ok (.getfield 103, 3) := dAX6_court_6.2.2.2.2.2.2.2
theorem dX6_court_112 : decode cX6_court 112 = .ok (.ireturn, 1) := by decide +kernel
set_option maxRecDepth 100000 in
theorem dAX6_cutAt_0 : decode cX6_cutAt 0 = .ok (.aload_n 0, 1) ∧ decode cX6_cutAt 1 = .ok (.invokevirtual 140, 3) ∧ decode cX6_cutAt 4 = .ok (.ifCond .eq 5, 3) ∧ decode cX6_cutAt 7 = .ok (.iconst (-1), 1) ∧ decode cX6_cutAt 8 = .ok (.ireturn, 1) ∧ decode cX6_cutAt 9 = .ok (.aload_n 0, 1) ∧ decode cX6_cutAt 10 = .ok (.getfield 47, 3) ∧ decode cX6_cutAt 13 = .ok (.aload_n 0, 1) := by decide +kernel
theorem dX6_cutAt_0 : decode cX6_cutAt 0 = .ok (.aload_n 0, 1) := dAX6_cutAt_0.1
theorem dX6_cutAt_1 : decode cX6_cutAt 1 = .ok (.invokevirtual 140, 3) := dAX6_cutAt_0.2.1
theorem dX6_cutAt_4 : decode cX6_cutAt 4 = .ok (.ifCond .eq 5, 3) := dAX6_cutAt_0.2.2.1
theorem dX6_cutAt_7 : decode cX6_cutAt 7 = .ok (.iconst (-1), 1) := dAX6_cutAt_0.2.2.2.1
theorem dX6_cutAt_8 : decode cX6_cutAt 8 = .ok (.ireturn, 1) := dAX6_cutAt_0.2.2.2.2.1
theorem dX6_cutAt_9 : decode cX6_cutAt 9 = .ok (.aload_n 0, 1) := dAX6_cutAt_0.2.2.2.2.2.1
theorem dX6_cutAt_10 : decode cX6_cutAt 10 = .ok (.getfield 47, 3) := dAX6_cutAt_0.2.2.2.2.2.2.1
theorem dX6_cutAt_13 : decode cX6_cutAt 13 = .ok (.aload_n 0, 1) := dAX6_cutAt_0.2.2.2.2.2.2.2
set_option maxRecDepth 100000 in
theorem dAX6_cutAt_1 : decode cX6_cutAt 14 = .ok (.getfield 19, 3) ∧ decode cX6_cutAt 17 = .ok (.aload_n 0, 1) ∧ decode cX6_cutAt 18 = .ok (.getfield 26, 3) ∧ decode cX6_cutAt 21 = .ok (.invokevirtual 177, 3) ∧ decode cX6_cutAt 24 = .ok (.pop, 1) ∧ decode cX6_cutAt 25 = .ok (.iload_n 1, 1) ∧ decode cX6_cutAt 26 = .ok (.ifCond .lt 14, 3) ∧ decode cX6_cutAt 29 = .ok (.iload_n 1, 1) := by decide +kernel
theorem dX6_cutAt_14 : decode cX6_cutAt 14 = .ok (.getfield 19, 3) := dAX6_cutAt_1.1
theorem dX6_cutAt_17 : decode cX6_cutAt 17 = .ok (.aload_n 0, 1) := dAX6_cutAt_1.2.1
theorem dX6_cutAt_18 : decode cX6_cutAt 18 = .ok (.getfield 26, 3) := dAX6_cutAt_1.2.2.1
theorem dX6_cutAt_21 : decode cX6_cutAt 21 = .ok (.invokevirtual 177, 3) := dAX6_cutAt_1.2.2.2.1
theorem dX6_cutAt_24 : decode cX6_cutAt 24 = .ok (.pop, 1) := dAX6_cutAt_1.2.2.2.2.1
theorem dX6_cutAt_25 : decode cX6_cutAt 25 = .ok (.iload_n 1, 1) := dAX6_cutAt_1.2.2.2.2.2.1
theorem dX6_cutAt_26 : decode cX6_cutAt 26 = .ok (.ifCond .lt 14, 3) := dAX6_cutAt_1.2.2.2.2.2.2.1
theorem dX6_cutAt_29 : decode cX6_cutAt 29 = .ok (.iload_n 1, 1) := dAX6_cutAt_1.2.2.2.2.2.2.2
set_option maxRecDepth 100000 in
theorem dAX6_cutAt_2 : decode cX6_cutAt 30 = .ok (.aload_n 0, 1) ∧ decode cX6_cutAt 31 = .ok (.getfield 47, 3) ∧ decode cX6_cutAt 34 = .ok (.getfield 187, 3) ∧ decode cX6_cutAt 37 = .ok (.if_icmp .lt 9, 3) ∧ decode cX6_cutAt 40 = .ok (.aload_n 0, 1) ∧ decode cX6_cutAt 41 = .ok (.iconst 1, 1) ∧ decode cX6_cutAt 42 = .ok (.invokevirtual 66, 3) ∧ decode cX6_cutAt 45 = .ok (.ireturn, 1) := by decide +kernel
theorem dX6_cutAt_30 : decode cX6_cutAt 30 = .ok (.aload_n 0, 1) := dAX6_cutAt_2.1
theorem dX6_cutAt_31 : decode cX6_cutAt 31 = .ok (.getfield 47, 3) := dAX6_cutAt_2.2.1
theorem dX6_cutAt_34 : decode cX6_cutAt 34 = .ok (.getfield 187, 3) := dAX6_cutAt_2.2.2.1
theorem dX6_cutAt_37 : decode cX6_cutAt 37 = .ok (.if_icmp .lt 9, 3) := dAX6_cutAt_2.2.2.2.1
theorem dX6_cutAt_40 : decode cX6_cutAt 40 = .ok (.aload_n 0, 1) := dAX6_cutAt_2.2.2.2.2.1
theorem dX6_cutAt_41 : decode cX6_cutAt 41 = .ok (.iconst 1, 1) := dAX6_cutAt_2.2.2.2.2.2.1
theorem dX6_cutAt_42 : decode cX6_cutAt 42 = .ok (.invokevirtual 66, 3) := dAX6_cutAt_2.2.2.2.2.2.2.1
theorem dX6_cutAt_45 : decode cX6_cutAt 45 = .ok (.ireturn, 1) := dAX6_cutAt_2.2.2.2.2.2.2.2
set_option maxRecDepth 100000 in
theorem dAX6_cutAt_3 : decode cX6_cutAt 46 = .ok (.aload_n 0, 1) ∧ decode cX6_cutAt 47 = .ok (.getfield 47, 3) ∧ decode cX6_cutAt 50 = .ok (.iload_n 1, 1) ∧ decode cX6_cutAt 51 = .ok (.invokevirtual 190, 3) ∧ decode cX6_cutAt 54 = .ok (.ireturn, 1) := by decide +kernel
theorem dX6_cutAt_46 : decode cX6_cutAt 46 = .ok (.aload_n 0, 1) := dAX6_cutAt_3.1
theorem dX6_cutAt_47 : decode cX6_cutAt 47 = .ok (.getfield 47, 3) := dAX6_cutAt_3.2.1
theorem dX6_cutAt_50 : decode cX6_cutAt 50 = .ok (.iload_n 1, 1) := dAX6_cutAt_3.2.2.1
theorem dX6_cutAt_51 : decode cX6_cutAt 51 = .ok (.invokevirtual 190, 3) := dAX6_cutAt_3.2.2.2.1
theorem dX6_cutAt_54 : decode cX6_cutAt 54 = .ok (.ireturn, 1) := dAX6_cutAt_3.2.2.2.2
set_option maxRecDepth 100000 in
theorem dAX6_cuts_0 : decode cX6_cuts 0 = .ok (.aload_n 0, 1) ∧ decode cX6_cuts 1 = .ok (.invokevirtual 140, 3) ∧ decode cX6_cuts 4 = .ok (.ifCond .eq 5, 3) ∧ decode cX6_cuts 7 = .ok (.iconst (-1), 1) ∧ decode cX6_cuts 8 = .ok (.ireturn, 1) ∧ decode cX6_cuts 9 = .ok (.aload_n 0, 1) ∧ decode cX6_cuts 10 = .ok (.getfield 47, 3) ∧ decode cX6_cuts 13 = .ok (.aload_n 0, 1) := by decide +kernel
theorem dX6_cuts_0 : decode cX6_cuts 0 = .ok (.aload_n 0, 1) := dAX6_cuts_0.1
theorem dX6_cuts_1 : decode cX6_cuts 1 = .ok (.invokevirtual 140, 3) := dAX6_cuts_0.2.1
theorem dX6_cuts_4 : decode cX6_cuts 4 = .ok (.ifCond .eq 5, 3) := dAX6_cuts_0.2.2.1
theorem dX6_cuts_7 : decode cX6_cuts 7 = .ok (.iconst (-1), 1) := dAX6_cuts_0.2.2.2.1
theorem dX6_cuts_8 : decode cX6_cuts 8 = .ok (.ireturn, 1) := dAX6_cuts_0.2.2.2.2.1
theorem dX6_cuts_9 : decode cX6_cuts 9 = .ok (.aload_n 0, 1) := dAX6_cuts_0.2.2.2.2.2.1
theorem dX6_cuts_10 : decode cX6_cuts 10 = .ok (.getfield 47, 3) := dAX6_cuts_0.2.2.2.2.2.2.1
theorem dX6_cuts_13 : decode cX6_cuts 13 = .ok (.aload_n 0, 1) := dAX6_cuts_0.2.2.2.2.2.2.2
set_option maxRecDepth 100000 in
theorem dAX6_cuts_1 : decode cX6_cuts 14 = .ok (.getfield 19, 3) ∧ decode cX6_cuts 17 = .ok (.aload_n 0, 1) ∧ decode cX6_cuts 18 = .ok (.getfield 26, 3) ∧ decode cX6_cuts 21 = .ok (.invokevirtual 177, 3) ∧ decode cX6_cuts 24 = .ok (.pop, 1) ∧ decode cX6_cuts 25 = .ok (.aload_n 0, 1) ∧ decode cX6_cuts 26 = .ok (.getfield 47, 3) ∧ decode cX6_cuts 29 = .ok (.getfield 187, 3) := by decide +kernel
theorem dX6_cuts_14 : decode cX6_cuts 14 = .ok (.getfield 19, 3) := dAX6_cuts_1.1
theorem dX6_cuts_17 : decode cX6_cuts 17 = .ok (.aload_n 0, 1) := dAX6_cuts_1.2.1
theorem dX6_cuts_18 : decode cX6_cuts 18 = .ok (.getfield 26, 3) := dAX6_cuts_1.2.2.1
theorem dX6_cuts_21 : decode cX6_cuts 21 = .ok (.invokevirtual 177, 3) := dAX6_cuts_1.2.2.2.1
theorem dX6_cuts_24 : decode cX6_cuts 24 = .ok (.pop, 1) := dAX6_cuts_1.2.2.2.2.1
theorem dX6_cuts_25 : decode cX6_cuts 25 = .ok (.aload_n 0, 1) := dAX6_cuts_1.2.2.2.2.2.1
theorem dX6_cuts_26 : decode cX6_cuts 26 = .ok (.getfield 47, 3) := dAX6_cuts_1.2.2.2.2.2.2.1
theorem dX6_cuts_29 : decode cX6_cuts 29 = .ok (.getfield 187, 3) := dAX6_cuts_1.2.2.2.2.2.2.2
theorem dX6_cuts_32 : decode cX6_cuts 32 = .ok (.ireturn, 1) := by decide +kernel
set_option maxRecDepth 100000 in
theorem dAX6_disproof_0 : decode cX6_disproof 0 = .ok (.aload_n 0, 1) ∧ decode cX6_disproof 1 = .ok (.iload_n 1, 1) ∧ decode cX6_disproof 2 = .ok (.iconst 0, 1) ∧ decode cX6_disproof 3 = .ok (.bipush 100, 2) ∧ decode cX6_disproof 5 = .ok (.invokevirtual 203, 3) ∧ decode cX6_disproof 8 = .ok (.ifCond .eq 7, 3) ∧ decode cX6_disproof 11 = .ok (.iconst (-1), 1) ∧ decode cX6_disproof 12 = .ok (.goto 9, 3) := by decide +kernel
theorem dX6_disproof_0 : decode cX6_disproof 0 = .ok (.aload_n 0, 1) := dAX6_disproof_0.1
theorem dX6_disproof_1 : decode cX6_disproof 1 = .ok (.iload_n 1, 1) := dAX6_disproof_0.2.1
theorem dX6_disproof_2 : decode cX6_disproof 2 = .ok (.iconst 0, 1) := dAX6_disproof_0.2.2.1
theorem dX6_disproof_3 : decode cX6_disproof 3 = .ok (.bipush 100, 2) := dAX6_disproof_0.2.2.2.1
theorem dX6_disproof_5 : decode cX6_disproof 5 = .ok (.invokevirtual 203, 3) := dAX6_disproof_0.2.2.2.2.1
theorem dX6_disproof_8 : decode cX6_disproof 8 = .ok (.ifCond .eq 7, 3) := dAX6_disproof_0.2.2.2.2.2.1
theorem dX6_disproof_11 : decode cX6_disproof 11 = .ok (.iconst (-1), 1) := dAX6_disproof_0.2.2.2.2.2.2.1
theorem dX6_disproof_12 : decode cX6_disproof 12 = .ok (.goto 9, 3) := dAX6_disproof_0.2.2.2.2.2.2.2
set_option maxRecDepth 100000 in
theorem dAX6_disproof_1 : decode cX6_disproof 15 = .ok (.aload_n 0, 1) ∧ decode cX6_disproof 16 = .ok (.iconst 1, 1) ∧ decode cX6_disproof 17 = .ok (.iload_n 1, 1) ∧ decode cX6_disproof 18 = .ok (.invokevirtual 221, 3) ∧ decode cX6_disproof 21 = .ok (.ireturn, 1) := by decide +kernel
theorem dX6_disproof_15 : decode cX6_disproof 15 = .ok (.aload_n 0, 1) := dAX6_disproof_1.1
theorem dX6_disproof_16 : decode cX6_disproof 16 = .ok (.iconst 1, 1) := dAX6_disproof_1.2.1
theorem dX6_disproof_17 : decode cX6_disproof 17 = .ok (.iload_n 1, 1) := dAX6_disproof_1.2.2.1
theorem dX6_disproof_18 : decode cX6_disproof 18 = .ok (.invokevirtual 221, 3) := dAX6_disproof_1.2.2.2.1
theorem dX6_disproof_21 : decode cX6_disproof 21 = .ok (.ireturn, 1) := dAX6_disproof_1.2.2.2.2
set_option maxRecDepth 100000 in
theorem dAX6_drawOrders_0 : decode cX6_drawOrders 0 = .ok (.iload_n 1, 1) ∧ decode cX6_drawOrders 1 = .ok (.istore_n 2, 1) ∧ decode cX6_drawOrders 2 = .ok (.iconst 0, 1) ∧ decode cX6_drawOrders 3 = .ok (.istore_n 3, 1) ∧ decode cX6_drawOrders 4 = .ok (.iload_n 3, 1) ∧ decode cX6_drawOrders 5 = .ok (.aload_n 0, 1) ∧ decode cX6_drawOrders 6 = .ok (.getfield 19, 3) ∧ decode cX6_drawOrders 9 = .ok (.getfield 103, 3) := by decide +kernel
theorem dX6_drawOrders_0 : decode cX6_drawOrders 0 = .ok (.iload_n 1, 1) := dAX6_drawOrders_0.1
theorem dX6_drawOrders_1 : decode cX6_drawOrders 1 = .ok (.istore_n 2, 1) := dAX6_drawOrders_0.2.1
theorem dX6_drawOrders_2 : decode cX6_drawOrders 2 = .ok (.iconst 0, 1) := dAX6_drawOrders_0.2.2.1
theorem dX6_drawOrders_3 : decode cX6_drawOrders 3 = .ok (.istore_n 3, 1) := dAX6_drawOrders_0.2.2.2.1
theorem dX6_drawOrders_4 : decode cX6_drawOrders 4 = .ok (.iload_n 3, 1) := dAX6_drawOrders_0.2.2.2.2.1
theorem dX6_drawOrders_5 : decode cX6_drawOrders 5 = .ok (.aload_n 0, 1) := dAX6_drawOrders_0.2.2.2.2.2.1
theorem dX6_drawOrders_6 : decode cX6_drawOrders 6 = .ok (.getfield 19, 3) := dAX6_drawOrders_0.2.2.2.2.2.2.1
theorem dX6_drawOrders_9 : decode cX6_drawOrders 9 = .ok (.getfield 103, 3) := dAX6_drawOrders_0.2.2.2.2.2.2.2
set_option maxRecDepth 100000 in
theorem dAX6_drawOrders_1 : decode cX6_drawOrders 12 = .ok (.if_icmp .ge 55, 3) ∧ decode cX6_drawOrders 15 = .ok (.aload_n 0, 1) ∧ decode cX6_drawOrders 16 = .ok (.getfield 19, 3) ∧ decode cX6_drawOrders 19 = .ok (.getfield 113, 3) ∧ decode cX6_drawOrders 22 = .ok (.iload_n 3, 1) ∧ decode cX6_drawOrders 23 = .ok (.iaload, 1) ∧ decode cX6_drawOrders 24 = .ok (.istore 4, 2) ∧ decode cX6_drawOrders 26 = .ok (.iload 4, 2) := by decide +kernel
theorem dX6_drawOrders_12 : decode cX6_drawOrders 12 = .ok (.if_icmp .ge 55, 3) := dAX6_drawOrders_1.1
theorem dX6_drawOrders_15 : decode cX6_drawOrders 15 = .ok (.aload_n 0, 1) := dAX6_drawOrders_1.2.1
theorem dX6_drawOrders_16 : decode cX6_drawOrders 16 = .ok (.getfield 19, 3) := dAX6_drawOrders_1.2.2.1
theorem dX6_drawOrders_19 : decode cX6_drawOrders 19 = .ok (.getfield 113, 3) := dAX6_drawOrders_1.2.2.2.1
theorem dX6_drawOrders_22 : decode cX6_drawOrders 22 = .ok (.iload_n 3, 1) := dAX6_drawOrders_1.2.2.2.2.1
theorem dX6_drawOrders_23 : decode cX6_drawOrders 23 = .ok (.iaload, 1) := dAX6_drawOrders_1.2.2.2.2.2.1
theorem dX6_drawOrders_24 : decode cX6_drawOrders 24 = .ok (.istore 4, 2) := dAX6_drawOrders_1.2.2.2.2.2.2.1
theorem dX6_drawOrders_26 : decode cX6_drawOrders 26 = .ok (.iload 4, 2) := dAX6_drawOrders_1.2.2.2.2.2.2.2
set_option maxRecDepth 100000 in
theorem dAX6_drawOrders_2 : decode cX6_drawOrders 28 = .ok (.ifCond .le 33, 3) ∧ decode cX6_drawOrders 31 = .ok (.bipush 75, 2) ∧ decode cX6_drawOrders 33 = .ok (.iload_n 2, 1) ∧ decode cX6_drawOrders 34 = .ok (.imul, 1) ∧ decode cX6_drawOrders 35 = .ok (.bipush 74, 2) ∧ decode cX6_drawOrders 37 = .ok (.iadd, 1) ∧ decode cX6_drawOrders 38 = .ok (.ldc_w 341, 3) ∧ decode cX6_drawOrders 41 = .ok (.irem, 1) := by decide +kernel
theorem dX6_drawOrders_28 : decode cX6_drawOrders 28 = .ok (.ifCond .le 33, 3) := dAX6_drawOrders_2.1
theorem dX6_drawOrders_31 : decode cX6_drawOrders 31 = .ok (.bipush 75, 2) := dAX6_drawOrders_2.2.1
theorem dX6_drawOrders_33 : decode cX6_drawOrders 33 = .ok (.iload_n 2, 1) := dAX6_drawOrders_2.2.2.1
theorem dX6_drawOrders_34 : decode cX6_drawOrders 34 = .ok (.imul, 1) := dAX6_drawOrders_2.2.2.2.1
theorem dX6_drawOrders_35 : decode cX6_drawOrders 35 = .ok (.bipush 74, 2) := dAX6_drawOrders_2.2.2.2.2.1
theorem dX6_drawOrders_37 : decode cX6_drawOrders 37 = .ok (.iadd, 1) := dAX6_drawOrders_2.2.2.2.2.2.1
theorem dX6_drawOrders_38 : decode cX6_drawOrders 38 = .ok (.ldc_w 341, 3) := dAX6_drawOrders_2.2.2.2.2.2.2.1
theorem dX6_drawOrders_41 : decode cX6_drawOrders 41 = .ok (.irem, 1) := dAX6_drawOrders_2.2.2.2.2.2.2.2
set_option maxRecDepth 100000 in
theorem dAX6_drawOrders_3 : decode cX6_drawOrders 42 = .ok (.istore_n 2, 1) ∧ decode cX6_drawOrders 43 = .ok (.aload_n 0, 1) ∧ decode cX6_drawOrders 44 = .ok (.getfield 30, 3) ∧ decode cX6_drawOrders 47 = .ok (.aload_n 0, 1) ∧ decode cX6_drawOrders 48 = .ok (.getfield 26, 3) ∧ decode cX6_drawOrders 51 = .ok (.iload_n 3, 1) ∧ decode cX6_drawOrders 52 = .ok (.iload 4, 2) ∧ decode cX6_drawOrders 54 = .ok (.iload_n 2, 1) := by decide +kernel
theorem dX6_drawOrders_42 : decode cX6_drawOrders 42 = .ok (.istore_n 2, 1) := dAX6_drawOrders_3.1
theorem dX6_drawOrders_43 : decode cX6_drawOrders 43 = .ok (.aload_n 0, 1) := dAX6_drawOrders_3.2.1
theorem dX6_drawOrders_44 : decode cX6_drawOrders 44 = .ok (.getfield 30, 3) := dAX6_drawOrders_3.2.2.1
theorem dX6_drawOrders_47 : decode cX6_drawOrders 47 = .ok (.aload_n 0, 1) := dAX6_drawOrders_3.2.2.2.1
theorem dX6_drawOrders_48 : decode cX6_drawOrders 48 = .ok (.getfield 26, 3) := dAX6_drawOrders_3.2.2.2.2.1
theorem dX6_drawOrders_51 : decode cX6_drawOrders 51 = .ok (.iload_n 3, 1) := dAX6_drawOrders_3.2.2.2.2.2.1
theorem dX6_drawOrders_52 : decode cX6_drawOrders 52 = .ok (.iload 4, 2) := dAX6_drawOrders_3.2.2.2.2.2.2.1
theorem dX6_drawOrders_54 : decode cX6_drawOrders 54 = .ok (.iload_n 2, 1) := dAX6_drawOrders_3.2.2.2.2.2.2.2
set_option maxRecDepth 100000 in
theorem dAX6_drawOrders_4 : decode cX6_drawOrders 55 = .ok (.iload 4, 2) ∧ decode cX6_drawOrders 57 = .ok (.irem, 1) ∧ decode cX6_drawOrders 58 = .ok (.invokevirtual 342, 3) ∧ decode cX6_drawOrders 61 = .ok (.iinc 3 1, 3) ∧ decode cX6_drawOrders 64 = .ok (.goto (-60), 3) ∧ decode cX6_drawOrders 67 = .ok (.iload_n 2, 1) ∧ decode cX6_drawOrders 68 = .ok (.ireturn, 1) := by decide +kernel
theorem dX6_drawOrders_55 : decode cX6_drawOrders 55 = .ok (.iload 4, 2) := dAX6_drawOrders_4.1
theorem dX6_drawOrders_57 : decode cX6_drawOrders 57 = .ok (.irem, 1) := dAX6_drawOrders_4.2.1
theorem dX6_drawOrders_58 : decode cX6_drawOrders 58 = .ok (.invokevirtual 342, 3) := dAX6_drawOrders_4.2.2.1
theorem dX6_drawOrders_61 : decode cX6_drawOrders 61 = .ok (.iinc 3 1, 3) := dAX6_drawOrders_4.2.2.2.1
theorem dX6_drawOrders_64 : decode cX6_drawOrders 64 = .ok (.goto (-60), 3) := dAX6_drawOrders_4.2.2.2.2.1
theorem dX6_drawOrders_67 : decode cX6_drawOrders 67 = .ok (.iload_n 2, 1) := dAX6_drawOrders_4.2.2.2.2.2.1
theorem dX6_drawOrders_68 : decode cX6_drawOrders 68 = .ok (.ireturn, 1) := dAX6_drawOrders_4.2.2.2.2.2.2
set_option maxRecDepth 100000 in
theorem dAX6_drawn_0 : decode cX6_drawn 0 = .ok (.aload_n 0, 1) ∧ decode cX6_drawn 1 = .ok (.iload_n 1, 1) ∧ decode cX6_drawn 2 = .ok (.iload_n 2, 1) ∧ decode cX6_drawn 3 = .ok (.invokevirtual 334, 3) ∧ decode cX6_drawn 6 = .ok (.ifCond .eq 5, 3) ∧ decode cX6_drawn 9 = .ok (.iconst (-1), 1) ∧ decode cX6_drawn 10 = .ok (.ireturn, 1) ∧ decode cX6_drawn 11 = .ok (.aload_n 0, 1) := by decide +kernel
theorem dX6_drawn_0 : decode cX6_drawn 0 = .ok (.aload_n 0, 1) := dAX6_drawn_0.1
theorem dX6_drawn_1 : decode cX6_drawn 1 = .ok (.iload_n 1, 1) := dAX6_drawn_0.2.1
theorem dX6_drawn_2 : decode cX6_drawn 2 = .ok (.iload_n 2, 1) := dAX6_drawn_0.2.2.1
theorem dX6_drawn_3 : decode cX6_drawn 3 = .ok (.invokevirtual 334, 3) := dAX6_drawn_0.2.2.2.1
theorem dX6_drawn_6 : decode cX6_drawn 6 = .ok (.ifCond .eq 5, 3) := dAX6_drawn_0.2.2.2.2.1
theorem dX6_drawn_9 : decode cX6_drawn 9 = .ok (.iconst (-1), 1) := dAX6_drawn_0.2.2.2.2.2.1
theorem dX6_drawn_10 : decode cX6_drawn 10 = .ok (.ireturn, 1) := dAX6_drawn_0.2.2.2.2.2.2.1
theorem dX6_drawn_11 : decode cX6_drawn 11 = .ok (.aload_n 0, 1) := dAX6_drawn_0.2.2.2.2.2.2.2
set_option maxRecDepth 100000 in
theorem dAX6_drawn_1 : decode cX6_drawn 12 = .ok (.getfield 30, 3) ∧ decode cX6_drawn 15 = .ok (.aload_n 0, 1) ∧ decode cX6_drawn 16 = .ok (.getfield 26, 3) ∧ decode cX6_drawn 19 = .ok (.invokevirtual 241, 3) ∧ decode cX6_drawn 22 = .ok (.iload_n 1, 1) ∧ decode cX6_drawn 23 = .ok (.istore_n 3, 1) ∧ decode cX6_drawn 24 = .ok (.iconst 0, 1) ∧ decode cX6_drawn 25 = .ok (.istore 4, 2) := by decide +kernel
theorem dX6_drawn_12 : decode cX6_drawn 12 = .ok (.getfield 30, 3) := dAX6_drawn_1.1
theorem dX6_drawn_15 : decode cX6_drawn 15 = .ok (.aload_n 0, 1) := dAX6_drawn_1.2.1
theorem dX6_drawn_16 : decode cX6_drawn 16 = .ok (.getfield 26, 3) := dAX6_drawn_1.2.2.1
theorem dX6_drawn_19 : decode cX6_drawn 19 = .ok (.invokevirtual 241, 3) := dAX6_drawn_1.2.2.2.1
theorem dX6_drawn_22 : decode cX6_drawn 22 = .ok (.iload_n 1, 1) := dAX6_drawn_1.2.2.2.2.1
theorem dX6_drawn_23 : decode cX6_drawn 23 = .ok (.istore_n 3, 1) := dAX6_drawn_1.2.2.2.2.2.1
theorem dX6_drawn_24 : decode cX6_drawn 24 = .ok (.iconst 0, 1) := dAX6_drawn_1.2.2.2.2.2.2.1
theorem dX6_drawn_25 : decode cX6_drawn 25 = .ok (.istore 4, 2) := dAX6_drawn_1.2.2.2.2.2.2.2
set_option maxRecDepth 100000 in
theorem dAX6_drawn_2 : decode cX6_drawn 27 = .ok (.iload 4, 2) ∧ decode cX6_drawn 29 = .ok (.iload_n 2, 1) ∧ decode cX6_drawn 30 = .ok (.if_icmp .ge 15, 3) ∧ decode cX6_drawn 33 = .ok (.aload_n 0, 1) ∧ decode cX6_drawn 34 = .ok (.iload_n 3, 1) ∧ decode cX6_drawn 35 = .ok (.invokevirtual 337, 3) ∧ decode cX6_drawn 38 = .ok (.istore_n 3, 1) ∧ decode cX6_drawn 39 = .ok (.iinc 4 1, 3) := by decide +kernel
theorem dX6_drawn_27 : decode cX6_drawn 27 = .ok (.iload 4, 2) := dAX6_drawn_2.1
theorem dX6_drawn_29 : decode cX6_drawn 29 = .ok (.iload_n 2, 1) := dAX6_drawn_2.2.1
theorem dX6_drawn_30 : decode cX6_drawn 30 = .ok (.if_icmp .ge 15, 3) := dAX6_drawn_2.2.2.1
theorem dX6_drawn_33 : decode cX6_drawn 33 = .ok (.aload_n 0, 1) := dAX6_drawn_2.2.2.2.1
theorem dX6_drawn_34 : decode cX6_drawn 34 = .ok (.iload_n 3, 1) := dAX6_drawn_2.2.2.2.2.1
theorem dX6_drawn_35 : decode cX6_drawn 35 = .ok (.invokevirtual 337, 3) := dAX6_drawn_2.2.2.2.2.2.1
theorem dX6_drawn_38 : decode cX6_drawn 38 = .ok (.istore_n 3, 1) := dAX6_drawn_2.2.2.2.2.2.2.1
theorem dX6_drawn_39 : decode cX6_drawn 39 = .ok (.iinc 4 1, 3) := dAX6_drawn_2.2.2.2.2.2.2.2
set_option maxRecDepth 100000 in
theorem dAX6_drawn_3 : decode cX6_drawn 42 = .ok (.goto (-15), 3) ∧ decode cX6_drawn 45 = .ok (.aload_n 0, 1) ∧ decode cX6_drawn 46 = .ok (.getfield 47, 3) ∧ decode cX6_drawn 49 = .ok (.aload_n 0, 1) ∧ decode cX6_drawn 50 = .ok (.getfield 19, 3) ∧ decode cX6_drawn 53 = .ok (.aload_n 0, 1) ∧ decode cX6_drawn 54 = .ok (.getfield 30, 3) ∧ decode cX6_drawn 57 = .ok (.invokevirtual 177, 3) := by decide +kernel
theorem dX6_drawn_42 : decode cX6_drawn 42 = .ok (.goto (-15), 3) := dAX6_drawn_3.1
theorem dX6_drawn_45 : decode cX6_drawn 45 = .ok (.aload_n 0, 1) := dAX6_drawn_3.2.1
theorem dX6_drawn_46 : decode cX6_drawn 46 = .ok (.getfield 47, 3) := dAX6_drawn_3.2.2.1
theorem dX6_drawn_49 : decode cX6_drawn 49 = .ok (.aload_n 0, 1) := dAX6_drawn_3.2.2.2.1
theorem dX6_drawn_50 : decode cX6_drawn 50 = .ok (.getfield 19, 3) := dAX6_drawn_3.2.2.2.2.1
theorem dX6_drawn_53 : decode cX6_drawn 53 = .ok (.aload_n 0, 1) := dAX6_drawn_3.2.2.2.2.2.1
theorem dX6_drawn_54 : decode cX6_drawn 54 = .ok (.getfield 30, 3) := dAX6_drawn_3.2.2.2.2.2.2.1
theorem dX6_drawn_57 : decode cX6_drawn 57 = .ok (.invokevirtual 177, 3) := dAX6_drawn_3.2.2.2.2.2.2.2
theorem dX6_drawn_60 : decode cX6_drawn 60 = .ok (.ireturn, 1) := by decide +kernel
set_option maxRecDepth 100000 in
theorem dAX6_drawnLeast_0 : decode cX6_drawnLeast 0 = .ok (.aload_n 0, 1) ∧ decode cX6_drawnLeast 1 = .ok (.iload_n 1, 1) ∧ decode cX6_drawnLeast 2 = .ok (.iload_n 2, 1) ∧ decode cX6_drawnLeast 3 = .ok (.invokevirtual 334, 3) ∧ decode cX6_drawnLeast 6 = .ok (.ifCond .eq 5, 3) ∧ decode cX6_drawnLeast 9 = .ok (.iconst (-1), 1) ∧ decode cX6_drawnLeast 10 = .ok (.ireturn, 1) ∧ decode cX6_drawnLeast 11 = .ok (.aload_n 0, 1) := by decide +kernel
theorem dX6_drawnLeast_0 : decode cX6_drawnLeast 0 = .ok (.aload_n 0, 1) := dAX6_drawnLeast_0.1
theorem dX6_drawnLeast_1 : decode cX6_drawnLeast 1 = .ok (.iload_n 1, 1) := dAX6_drawnLeast_0.2.1
theorem dX6_drawnLeast_2 : decode cX6_drawnLeast 2 = .ok (.iload_n 2, 1) := dAX6_drawnLeast_0.2.2.1
theorem dX6_drawnLeast_3 : decode cX6_drawnLeast 3 = .ok (.invokevirtual 334, 3) := dAX6_drawnLeast_0.2.2.2.1
theorem dX6_drawnLeast_6 : decode cX6_drawnLeast 6 = .ok (.ifCond .eq 5, 3) := dAX6_drawnLeast_0.2.2.2.2.1
theorem dX6_drawnLeast_9 : decode cX6_drawnLeast 9 = .ok (.iconst (-1), 1) := dAX6_drawnLeast_0.2.2.2.2.2.1
theorem dX6_drawnLeast_10 : decode cX6_drawnLeast 10 = .ok (.ireturn, 1) := dAX6_drawnLeast_0.2.2.2.2.2.2.1
theorem dX6_drawnLeast_11 : decode cX6_drawnLeast 11 = .ok (.aload_n 0, 1) := dAX6_drawnLeast_0.2.2.2.2.2.2.2
set_option maxRecDepth 100000 in
theorem dAX6_drawnLeast_1 : decode cX6_drawnLeast 12 = .ok (.getfield 30, 3) ∧ decode cX6_drawnLeast 15 = .ok (.aload_n 0, 1) ∧ decode cX6_drawnLeast 16 = .ok (.getfield 26, 3) ∧ decode cX6_drawnLeast 19 = .ok (.invokevirtual 241, 3) ∧ decode cX6_drawnLeast 22 = .ok (.iload_n 1, 1) ∧ decode cX6_drawnLeast 23 = .ok (.istore_n 3, 1) ∧ decode cX6_drawnLeast 24 = .ok (.iconst 0, 1) ∧ decode cX6_drawnLeast 25 = .ok (.istore 4, 2) := by decide +kernel
theorem dX6_drawnLeast_12 : decode cX6_drawnLeast 12 = .ok (.getfield 30, 3) := dAX6_drawnLeast_1.1
theorem dX6_drawnLeast_15 : decode cX6_drawnLeast 15 = .ok (.aload_n 0, 1) := dAX6_drawnLeast_1.2.1
theorem dX6_drawnLeast_16 : decode cX6_drawnLeast 16 = .ok (.getfield 26, 3) := dAX6_drawnLeast_1.2.2.1
theorem dX6_drawnLeast_19 : decode cX6_drawnLeast 19 = .ok (.invokevirtual 241, 3) := dAX6_drawnLeast_1.2.2.2.1
theorem dX6_drawnLeast_22 : decode cX6_drawnLeast 22 = .ok (.iload_n 1, 1) := dAX6_drawnLeast_1.2.2.2.2.1
theorem dX6_drawnLeast_23 : decode cX6_drawnLeast 23 = .ok (.istore_n 3, 1) := dAX6_drawnLeast_1.2.2.2.2.2.1
theorem dX6_drawnLeast_24 : decode cX6_drawnLeast 24 = .ok (.iconst 0, 1) := dAX6_drawnLeast_1.2.2.2.2.2.2.1
theorem dX6_drawnLeast_25 : decode cX6_drawnLeast 25 = .ok (.istore 4, 2) := dAX6_drawnLeast_1.2.2.2.2.2.2.2
set_option maxRecDepth 100000 in
theorem dAX6_drawnLeast_2 : decode cX6_drawnLeast 27 = .ok (.iconst 0, 1) ∧ decode cX6_drawnLeast 28 = .ok (.istore 5, 2) ∧ decode cX6_drawnLeast 30 = .ok (.iload 5, 2) ∧ decode cX6_drawnLeast 32 = .ok (.iload_n 2, 1) ∧ decode cX6_drawnLeast 33 = .ok (.if_icmp .ge 48, 3) ∧ decode cX6_drawnLeast 36 = .ok (.aload_n 0, 1) ∧ decode cX6_drawnLeast 37 = .ok (.iload_n 3, 1) ∧ decode cX6_drawnLeast 38 = .ok (.invokevirtual 337, 3) := by decide +kernel
theorem dX6_drawnLeast_27 : decode cX6_drawnLeast 27 = .ok (.iconst 0, 1) := dAX6_drawnLeast_2.1
theorem dX6_drawnLeast_28 : decode cX6_drawnLeast 28 = .ok (.istore 5, 2) := dAX6_drawnLeast_2.2.1
theorem dX6_drawnLeast_30 : decode cX6_drawnLeast 30 = .ok (.iload 5, 2) := dAX6_drawnLeast_2.2.2.1
theorem dX6_drawnLeast_32 : decode cX6_drawnLeast 32 = .ok (.iload_n 2, 1) := dAX6_drawnLeast_2.2.2.2.1
theorem dX6_drawnLeast_33 : decode cX6_drawnLeast 33 = .ok (.if_icmp .ge 48, 3) := dAX6_drawnLeast_2.2.2.2.2.1
theorem dX6_drawnLeast_36 : decode cX6_drawnLeast 36 = .ok (.aload_n 0, 1) := dAX6_drawnLeast_2.2.2.2.2.2.1
theorem dX6_drawnLeast_37 : decode cX6_drawnLeast 37 = .ok (.iload_n 3, 1) := dAX6_drawnLeast_2.2.2.2.2.2.2.1
theorem dX6_drawnLeast_38 : decode cX6_drawnLeast 38 = .ok (.invokevirtual 337, 3) := dAX6_drawnLeast_2.2.2.2.2.2.2.2
set_option maxRecDepth 100000 in
theorem dAX6_drawnLeast_3 : decode cX6_drawnLeast 41 = .ok (.istore_n 3, 1) ∧ decode cX6_drawnLeast 42 = .ok (.aload_n 0, 1) ∧ decode cX6_drawnLeast 43 = .ok (.getfield 47, 3) ∧ decode cX6_drawnLeast 46 = .ok (.aload_n 0, 1) ∧ decode cX6_drawnLeast 47 = .ok (.getfield 19, 3) ∧ decode cX6_drawnLeast 50 = .ok (.aload_n 0, 1) ∧ decode cX6_drawnLeast 51 = .ok (.getfield 30, 3) ∧ decode cX6_drawnLeast 54 = .ok (.invokevirtual 177, 3) := by decide +kernel
theorem dX6_drawnLeast_41 : decode cX6_drawnLeast 41 = .ok (.istore_n 3, 1) := dAX6_drawnLeast_3.1
theorem dX6_drawnLeast_42 : decode cX6_drawnLeast 42 = .ok (.aload_n 0, 1) := dAX6_drawnLeast_3.2.1
theorem dX6_drawnLeast_43 : decode cX6_drawnLeast 43 = .ok (.getfield 47, 3) := dAX6_drawnLeast_3.2.2.1
theorem dX6_drawnLeast_46 : decode cX6_drawnLeast 46 = .ok (.aload_n 0, 1) := dAX6_drawnLeast_3.2.2.2.1
theorem dX6_drawnLeast_47 : decode cX6_drawnLeast 47 = .ok (.getfield 19, 3) := dAX6_drawnLeast_3.2.2.2.2.1
theorem dX6_drawnLeast_50 : decode cX6_drawnLeast 50 = .ok (.aload_n 0, 1) := dAX6_drawnLeast_3.2.2.2.2.2.1
theorem dX6_drawnLeast_51 : decode cX6_drawnLeast 51 = .ok (.getfield 30, 3) := dAX6_drawnLeast_3.2.2.2.2.2.2.1
theorem dX6_drawnLeast_54 : decode cX6_drawnLeast 54 = .ok (.invokevirtual 177, 3) := dAX6_drawnLeast_3.2.2.2.2.2.2.2
set_option maxRecDepth 100000 in
theorem dAX6_drawnLeast_4 : decode cX6_drawnLeast 57 = .ok (.istore 6, 2) ∧ decode cX6_drawnLeast 59 = .ok (.iload 5, 2) ∧ decode cX6_drawnLeast 61 = .ok (.ifCond .eq 10, 3) ∧ decode cX6_drawnLeast 64 = .ok (.iload 6, 2) ∧ decode cX6_drawnLeast 66 = .ok (.iload 4, 2) ∧ decode cX6_drawnLeast 68 = .ok (.if_icmp .ge 7, 3) ∧ decode cX6_drawnLeast 71 = .ok (.iload 6, 2) ∧ decode cX6_drawnLeast 73 = .ok (.istore 4, 2) := by decide +kernel
theorem dX6_drawnLeast_57 : decode cX6_drawnLeast 57 = .ok (.istore 6, 2) := dAX6_drawnLeast_4.1
theorem dX6_drawnLeast_59 : decode cX6_drawnLeast 59 = .ok (.iload 5, 2) := dAX6_drawnLeast_4.2.1
theorem dX6_drawnLeast_61 : decode cX6_drawnLeast 61 = .ok (.ifCond .eq 10, 3) := dAX6_drawnLeast_4.2.2.1
theorem dX6_drawnLeast_64 : decode cX6_drawnLeast 64 = .ok (.iload 6, 2) := dAX6_drawnLeast_4.2.2.2.1
theorem dX6_drawnLeast_66 : decode cX6_drawnLeast 66 = .ok (.iload 4, 2) := dAX6_drawnLeast_4.2.2.2.2.1
theorem dX6_drawnLeast_68 : decode cX6_drawnLeast 68 = .ok (.if_icmp .ge 7, 3) := dAX6_drawnLeast_4.2.2.2.2.2.1
theorem dX6_drawnLeast_71 : decode cX6_drawnLeast 71 = .ok (.iload 6, 2) := dAX6_drawnLeast_4.2.2.2.2.2.2.1
theorem dX6_drawnLeast_73 : decode cX6_drawnLeast 73 = .ok (.istore 4, 2) := dAX6_drawnLeast_4.2.2.2.2.2.2.2
set_option maxRecDepth 100000 in
theorem dAX6_drawnLeast_5 : decode cX6_drawnLeast 75 = .ok (.iinc 5 1, 3) ∧ decode cX6_drawnLeast 78 = .ok (.goto (-48), 3) ∧ decode cX6_drawnLeast 81 = .ok (.iload 4, 2) ∧ decode cX6_drawnLeast 83 = .ok (.ireturn, 1) := by decide +kernel
theorem dX6_drawnLeast_75 : decode cX6_drawnLeast 75 = .ok (.iinc 5 1, 3) := dAX6_drawnLeast_5.1
theorem dX6_drawnLeast_78 : decode cX6_drawnLeast 78 = .ok (.goto (-48), 3) := dAX6_drawnLeast_5.2.1
theorem dX6_drawnLeast_81 : decode cX6_drawnLeast 81 = .ok (.iload 4, 2) := dAX6_drawnLeast_5.2.2.1
theorem dX6_drawnLeast_83 : decode cX6_drawnLeast 83 = .ok (.ireturn, 1) := dAX6_drawnLeast_5.2.2.2
set_option maxRecDepth 100000 in
theorem dAX6_fault_0 : decode cX6_fault 0 = .ok (.aload_n 0, 1) ∧ decode cX6_fault 1 = .ok (.getfield 77, 3) ∧ decode cX6_fault 4 = .ok (.ireturn, 1) := by decide +kernel
theorem dX6_fault_0 : decode cX6_fault 0 = .ok (.aload_n 0, 1) := dAX6_fault_0.1
theorem dX6_fault_1 : decode cX6_fault 1 = .ok (.getfield 77, 3) := dAX6_fault_0.2.1
theorem dX6_fault_4 : decode cX6_fault 4 = .ok (.ireturn, 1) := dAX6_fault_0.2.2
set_option maxRecDepth 100000 in
theorem dAX6_feed_0 : decode cX6_feed 0 = .ok (.aload_n 0, 1) ∧ decode cX6_feed 1 = .ok (.getfield 10, 3) ∧ decode cX6_feed 4 = .ok (.getfield 58, 3) ∧ decode cX6_feed 7 = .ok (.sipush 880, 3) ∧ decode cX6_feed 10 = .ok (.if_icmp .le 5, 3) ∧ decode cX6_feed 13 = .ok (.iconst (-1), 1) ∧ decode cX6_feed 14 = .ok (.ireturn, 1) ∧ decode cX6_feed 15 = .ok (.aload_n 0, 1) := by decide +kernel
theorem dX6_feed_0 : decode cX6_feed 0 = .ok (.aload_n 0, 1) := dAX6_feed_0.1
theorem dX6_feed_1 : decode cX6_feed 1 = .ok (.getfield 10, 3) := dAX6_feed_0.2.1
theorem dX6_feed_4 : decode cX6_feed 4 = .ok (.getfield 58, 3) := dAX6_feed_0.2.2.1
theorem dX6_feed_7 : decode cX6_feed 7 = .ok (.sipush 880, 3) := dAX6_feed_0.2.2.2.1
theorem dX6_feed_10 : decode cX6_feed 10 = .ok (.if_icmp .le 5, 3) := dAX6_feed_0.2.2.2.2.1
theorem dX6_feed_13 : decode cX6_feed 13 = .ok (.iconst (-1), 1) := dAX6_feed_0.2.2.2.2.2.1
theorem dX6_feed_14 : decode cX6_feed 14 = .ok (.ireturn, 1) := dAX6_feed_0.2.2.2.2.2.2.1
theorem dX6_feed_15 : decode cX6_feed 15 = .ok (.aload_n 0, 1) := dAX6_feed_0.2.2.2.2.2.2.2
set_option maxRecDepth 100000 in
theorem dAX6_feed_1 : decode cX6_feed 16 = .ok (.getfield 10, 3) ∧ decode cX6_feed 19 = .ok (.iload_n 1, 1) ∧ decode cX6_feed 20 = .ok (.invokevirtual 62, 3) ∧ decode cX6_feed 23 = .ok (.aload_n 0, 1) ∧ decode cX6_feed 24 = .ok (.getfield 10, 3) ∧ decode cX6_feed 27 = .ok (.iload_n 2, 1) ∧ decode cX6_feed 28 = .ok (.invokevirtual 62, 3) ∧ decode cX6_feed 31 = .ok (.aload_n 0, 1) := by decide +kernel
theorem dX6_feed_16 : decode cX6_feed 16 = .ok (.getfield 10, 3) := dAX6_feed_1.1
theorem dX6_feed_19 : decode cX6_feed 19 = .ok (.iload_n 1, 1) := dAX6_feed_1.2.1
theorem dX6_feed_20 : decode cX6_feed 20 = .ok (.invokevirtual 62, 3) := dAX6_feed_1.2.2.1
theorem dX6_feed_23 : decode cX6_feed 23 = .ok (.aload_n 0, 1) := dAX6_feed_1.2.2.2.1
theorem dX6_feed_24 : decode cX6_feed 24 = .ok (.getfield 10, 3) := dAX6_feed_1.2.2.2.2.1
theorem dX6_feed_27 : decode cX6_feed 27 = .ok (.iload_n 2, 1) := dAX6_feed_1.2.2.2.2.2.1
theorem dX6_feed_28 : decode cX6_feed 28 = .ok (.invokevirtual 62, 3) := dAX6_feed_1.2.2.2.2.2.2.1
theorem dX6_feed_31 : decode cX6_feed 31 = .ok (.aload_n 0, 1) := dAX6_feed_1.2.2.2.2.2.2.2
set_option maxRecDepth 100000 in
theorem dAX6_feed_2 : decode cX6_feed 32 = .ok (.getfield 10, 3) ∧ decode cX6_feed 35 = .ok (.iload_n 3, 1) ∧ decode cX6_feed 36 = .ok (.invokevirtual 62, 3) ∧ decode cX6_feed 39 = .ok (.aload_n 0, 1) ∧ decode cX6_feed 40 = .ok (.getfield 10, 3) ∧ decode cX6_feed 43 = .ok (.iload 4, 2) ∧ decode cX6_feed 45 = .ok (.invokevirtual 62, 3) ∧ decode cX6_feed 48 = .ok (.aload_n 0, 1) := by decide +kernel
theorem dX6_feed_32 : decode cX6_feed 32 = .ok (.getfield 10, 3) := dAX6_feed_2.1
theorem dX6_feed_35 : decode cX6_feed 35 = .ok (.iload_n 3, 1) := dAX6_feed_2.2.1
theorem dX6_feed_36 : decode cX6_feed 36 = .ok (.invokevirtual 62, 3) := dAX6_feed_2.2.2.1
theorem dX6_feed_39 : decode cX6_feed 39 = .ok (.aload_n 0, 1) := dAX6_feed_2.2.2.2.1
theorem dX6_feed_40 : decode cX6_feed 40 = .ok (.getfield 10, 3) := dAX6_feed_2.2.2.2.2.1
theorem dX6_feed_43 : decode cX6_feed 43 = .ok (.iload 4, 2) := dAX6_feed_2.2.2.2.2.2.1
theorem dX6_feed_45 : decode cX6_feed 45 = .ok (.invokevirtual 62, 3) := dAX6_feed_2.2.2.2.2.2.2.1
theorem dX6_feed_48 : decode cX6_feed 48 = .ok (.aload_n 0, 1) := dAX6_feed_2.2.2.2.2.2.2.2
set_option maxRecDepth 100000 in
theorem dAX6_feed_3 : decode cX6_feed 49 = .ok (.getfield 10, 3) ∧ decode cX6_feed 52 = .ok (.iload 5, 2) ∧ decode cX6_feed 54 = .ok (.invokevirtual 62, 3) ∧ decode cX6_feed 57 = .ok (.aload_n 0, 1) ∧ decode cX6_feed 58 = .ok (.getfield 10, 3) ∧ decode cX6_feed 61 = .ok (.getfield 58, 3) ∧ decode cX6_feed 64 = .ok (.ireturn, 1) := by decide +kernel
theorem dX6_feed_49 : decode cX6_feed 49 = .ok (.getfield 10, 3) := dAX6_feed_3.1
theorem dX6_feed_52 : decode cX6_feed 52 = .ok (.iload 5, 2) := dAX6_feed_3.2.1
theorem dX6_feed_54 : decode cX6_feed 54 = .ok (.invokevirtual 62, 3) := dAX6_feed_3.2.2.1
theorem dX6_feed_57 : decode cX6_feed 57 = .ok (.aload_n 0, 1) := dAX6_feed_3.2.2.2.1
theorem dX6_feed_58 : decode cX6_feed 58 = .ok (.getfield 10, 3) := dAX6_feed_3.2.2.2.2.1
theorem dX6_feed_61 : decode cX6_feed 61 = .ok (.getfield 58, 3) := dAX6_feed_3.2.2.2.2.2.1
theorem dX6_feed_64 : decode cX6_feed 64 = .ok (.ireturn, 1) := dAX6_feed_3.2.2.2.2.2.2
set_option maxRecDepth 100000 in
theorem dAX6_fewestWords_0 : decode cX6_fewestWords 0 = .ok (.aload_n 0, 1) ∧ decode cX6_fewestWords 1 = .ok (.getfield 19, 3) ∧ decode cX6_fewestWords 4 = .ok (.getfield 119, 3) ∧ decode cX6_fewestWords 7 = .ok (.aload_n 0, 1) ∧ decode cX6_fewestWords 8 = .ok (.getfield 19, 3) ∧ decode cX6_fewestWords 11 = .ok (.getfield 144, 3) ∧ decode cX6_fewestWords 14 = .ok (.iaload, 1) ∧ decode cX6_fewestWords 15 = .ok (.istore_n 3, 1) := by decide +kernel
theorem dX6_fewestWords_0 : decode cX6_fewestWords 0 = .ok (.aload_n 0, 1) := dAX6_fewestWords_0.1
theorem dX6_fewestWords_1 : decode cX6_fewestWords 1 = .ok (.getfield 19, 3) := dAX6_fewestWords_0.2.1
theorem dX6_fewestWords_4 : decode cX6_fewestWords 4 = .ok (.getfield 119, 3) := dAX6_fewestWords_0.2.2.1
theorem dX6_fewestWords_7 : decode cX6_fewestWords 7 = .ok (.aload_n 0, 1) := dAX6_fewestWords_0.2.2.2.1
theorem dX6_fewestWords_8 : decode cX6_fewestWords 8 = .ok (.getfield 19, 3) := dAX6_fewestWords_0.2.2.2.2.1
theorem dX6_fewestWords_11 : decode cX6_fewestWords 11 = .ok (.getfield 144, 3) := dAX6_fewestWords_0.2.2.2.2.2.1
theorem dX6_fewestWords_14 : decode cX6_fewestWords 14 = .ok (.iaload, 1) := dAX6_fewestWords_0.2.2.2.2.2.2.1
theorem dX6_fewestWords_15 : decode cX6_fewestWords 15 = .ok (.istore_n 3, 1) := dAX6_fewestWords_0.2.2.2.2.2.2.2
set_option maxRecDepth 100000 in
theorem dAX6_fewestWords_1 : decode cX6_fewestWords 16 = .ok (.aload_n 0, 1) ∧ decode cX6_fewestWords 17 = .ok (.iload_n 3, 1) ∧ decode cX6_fewestWords 18 = .ok (.iload_n 1, 1) ∧ decode cX6_fewestWords 19 = .ok (.iload_n 2, 1) ∧ decode cX6_fewestWords 20 = .ok (.invokevirtual 224, 3) ∧ decode cX6_fewestWords 23 = .ok (.ifCond .ne 6, 3) ∧ decode cX6_fewestWords 26 = .ok (.bipush (-2), 2) ∧ decode cX6_fewestWords 28 = .ok (.ireturn, 1) := by decide +kernel
theorem dX6_fewestWords_16 : decode cX6_fewestWords 16 = .ok (.aload_n 0, 1) := dAX6_fewestWords_1.1
theorem dX6_fewestWords_17 : decode cX6_fewestWords 17 = .ok (.iload_n 3, 1) := dAX6_fewestWords_1.2.1
theorem dX6_fewestWords_18 : decode cX6_fewestWords 18 = .ok (.iload_n 1, 1) := dAX6_fewestWords_1.2.2.1
theorem dX6_fewestWords_19 : decode cX6_fewestWords 19 = .ok (.iload_n 2, 1) := dAX6_fewestWords_1.2.2.2.1
theorem dX6_fewestWords_20 : decode cX6_fewestWords 20 = .ok (.invokevirtual 224, 3) := dAX6_fewestWords_1.2.2.2.2.1
theorem dX6_fewestWords_23 : decode cX6_fewestWords 23 = .ok (.ifCond .ne 6, 3) := dAX6_fewestWords_1.2.2.2.2.2.1
theorem dX6_fewestWords_26 : decode cX6_fewestWords 26 = .ok (.bipush (-2), 2) := dAX6_fewestWords_1.2.2.2.2.2.2.1
theorem dX6_fewestWords_28 : decode cX6_fewestWords 28 = .ok (.ireturn, 1) := dAX6_fewestWords_1.2.2.2.2.2.2.2
set_option maxRecDepth 100000 in
theorem dAX6_fewestWords_2 : decode cX6_fewestWords 29 = .ok (.iload_n 3, 1) ∧ decode cX6_fewestWords 30 = .ok (.invokestatic 227, 3) ∧ decode cX6_fewestWords 33 = .ok (.istore 4, 2) ∧ decode cX6_fewestWords 35 = .ok (.iconst 1, 1) ∧ decode cX6_fewestWords 36 = .ok (.iload 4, 2) ∧ decode cX6_fewestWords 38 = .ok (.ishl, 1) ∧ decode cX6_fewestWords 39 = .ok (.istore 5, 2) ∧ decode cX6_fewestWords 41 = .ok (.iconst 0, 1) := by decide +kernel
theorem dX6_fewestWords_29 : decode cX6_fewestWords 29 = .ok (.iload_n 3, 1) := dAX6_fewestWords_2.1
theorem dX6_fewestWords_30 : decode cX6_fewestWords 30 = .ok (.invokestatic 227, 3) := dAX6_fewestWords_2.2.1
theorem dX6_fewestWords_33 : decode cX6_fewestWords 33 = .ok (.istore 4, 2) := dAX6_fewestWords_2.2.2.1
theorem dX6_fewestWords_35 : decode cX6_fewestWords 35 = .ok (.iconst 1, 1) := dAX6_fewestWords_2.2.2.2.1
theorem dX6_fewestWords_36 : decode cX6_fewestWords 36 = .ok (.iload 4, 2) := dAX6_fewestWords_2.2.2.2.2.1
theorem dX6_fewestWords_38 : decode cX6_fewestWords 38 = .ok (.ishl, 1) := dAX6_fewestWords_2.2.2.2.2.2.1
theorem dX6_fewestWords_39 : decode cX6_fewestWords 39 = .ok (.istore 5, 2) := dAX6_fewestWords_2.2.2.2.2.2.2.1
theorem dX6_fewestWords_41 : decode cX6_fewestWords 41 = .ok (.iconst 0, 1) := dAX6_fewestWords_2.2.2.2.2.2.2.2
set_option maxRecDepth 100000 in
theorem dAX6_fewestWords_3 : decode cX6_fewestWords 42 = .ok (.istore 6, 2) ∧ decode cX6_fewestWords 44 = .ok (.iload 6, 2) ∧ decode cX6_fewestWords 46 = .ok (.iload 4, 2) ∧ decode cX6_fewestWords 48 = .ok (.if_icmp .ge 60, 3) ∧ decode cX6_fewestWords 51 = .ok (.iconst 0, 1) ∧ decode cX6_fewestWords 52 = .ok (.istore 7, 2) ∧ decode cX6_fewestWords 54 = .ok (.iconst 0, 1) ∧ decode cX6_fewestWords 55 = .ok (.istore 8, 2) := by decide +kernel
theorem dX6_fewestWords_42 : decode cX6_fewestWords 42 = .ok (.istore 6, 2) := dAX6_fewestWords_3.1
theorem dX6_fewestWords_44 : decode cX6_fewestWords 44 = .ok (.iload 6, 2) := dAX6_fewestWords_3.2.1
theorem dX6_fewestWords_46 : decode cX6_fewestWords 46 = .ok (.iload 4, 2) := dAX6_fewestWords_3.2.2.1
theorem dX6_fewestWords_48 : decode cX6_fewestWords 48 = .ok (.if_icmp .ge 60, 3) := dAX6_fewestWords_3.2.2.2.1
theorem dX6_fewestWords_51 : decode cX6_fewestWords 51 = .ok (.iconst 0, 1) := dAX6_fewestWords_3.2.2.2.2.1
theorem dX6_fewestWords_52 : decode cX6_fewestWords 52 = .ok (.istore 7, 2) := dAX6_fewestWords_3.2.2.2.2.2.1
theorem dX6_fewestWords_54 : decode cX6_fewestWords 54 = .ok (.iconst 0, 1) := dAX6_fewestWords_3.2.2.2.2.2.2.1
theorem dX6_fewestWords_55 : decode cX6_fewestWords 55 = .ok (.istore 8, 2) := dAX6_fewestWords_3.2.2.2.2.2.2.2
set_option maxRecDepth 100000 in
theorem dAX6_fewestWords_4 : decode cX6_fewestWords 57 = .ok (.iload 8, 2) ∧ decode cX6_fewestWords 59 = .ok (.iload 5, 2) ∧ decode cX6_fewestWords 61 = .ok (.if_icmp .ge 41, 3) ∧ decode cX6_fewestWords 64 = .ok (.iload 7, 2) ∧ decode cX6_fewestWords 66 = .ok (.invokestatic 227, 3) ∧ decode cX6_fewestWords 69 = .ok (.iload 6, 2) ∧ decode cX6_fewestWords 71 = .ok (.if_icmp .ne 17, 3) ∧ decode cX6_fewestWords 74 = .ok (.aload_n 0, 1) := by decide +kernel
theorem dX6_fewestWords_57 : decode cX6_fewestWords 57 = .ok (.iload 8, 2) := dAX6_fewestWords_4.1
theorem dX6_fewestWords_59 : decode cX6_fewestWords 59 = .ok (.iload 5, 2) := dAX6_fewestWords_4.2.1
theorem dX6_fewestWords_61 : decode cX6_fewestWords 61 = .ok (.if_icmp .ge 41, 3) := dAX6_fewestWords_4.2.2.1
theorem dX6_fewestWords_64 : decode cX6_fewestWords 64 = .ok (.iload 7, 2) := dAX6_fewestWords_4.2.2.2.1
theorem dX6_fewestWords_66 : decode cX6_fewestWords 66 = .ok (.invokestatic 227, 3) := dAX6_fewestWords_4.2.2.2.2.1
theorem dX6_fewestWords_69 : decode cX6_fewestWords 69 = .ok (.iload 6, 2) := dAX6_fewestWords_4.2.2.2.2.2.1
theorem dX6_fewestWords_71 : decode cX6_fewestWords 71 = .ok (.if_icmp .ne 17, 3) := dAX6_fewestWords_4.2.2.2.2.2.2.1
theorem dX6_fewestWords_74 : decode cX6_fewestWords 74 = .ok (.aload_n 0, 1) := dAX6_fewestWords_4.2.2.2.2.2.2.2
set_option maxRecDepth 100000 in
theorem dAX6_fewestWords_5 : decode cX6_fewestWords 75 = .ok (.iload 7, 2) ∧ decode cX6_fewestWords 77 = .ok (.iload_n 1, 1) ∧ decode cX6_fewestWords 78 = .ok (.iload_n 2, 1) ∧ decode cX6_fewestWords 79 = .ok (.invokevirtual 224, 3) ∧ decode cX6_fewestWords 82 = .ok (.ifCond .eq 6, 3) ∧ decode cX6_fewestWords 85 = .ok (.iload 7, 2) ∧ decode cX6_fewestWords 87 = .ok (.ireturn, 1) ∧ decode cX6_fewestWords 88 = .ok (.iload 7, 2) := by decide +kernel
theorem dX6_fewestWords_75 : decode cX6_fewestWords 75 = .ok (.iload 7, 2) := dAX6_fewestWords_5.1
theorem dX6_fewestWords_77 : decode cX6_fewestWords 77 = .ok (.iload_n 1, 1) := dAX6_fewestWords_5.2.1
theorem dX6_fewestWords_78 : decode cX6_fewestWords 78 = .ok (.iload_n 2, 1) := dAX6_fewestWords_5.2.2.1
theorem dX6_fewestWords_79 : decode cX6_fewestWords 79 = .ok (.invokevirtual 224, 3) := dAX6_fewestWords_5.2.2.2.1
theorem dX6_fewestWords_82 : decode cX6_fewestWords 82 = .ok (.ifCond .eq 6, 3) := dAX6_fewestWords_5.2.2.2.2.1
theorem dX6_fewestWords_85 : decode cX6_fewestWords 85 = .ok (.iload 7, 2) := dAX6_fewestWords_5.2.2.2.2.2.1
theorem dX6_fewestWords_87 : decode cX6_fewestWords 87 = .ok (.ireturn, 1) := dAX6_fewestWords_5.2.2.2.2.2.2.1
theorem dX6_fewestWords_88 : decode cX6_fewestWords 88 = .ok (.iload 7, 2) := dAX6_fewestWords_5.2.2.2.2.2.2.2
set_option maxRecDepth 100000 in
theorem dAX6_fewestWords_6 : decode cX6_fewestWords 90 = .ok (.iload_n 3, 1) ∧ decode cX6_fewestWords 91 = .ok (.isub, 1) ∧ decode cX6_fewestWords 92 = .ok (.iload_n 3, 1) ∧ decode cX6_fewestWords 93 = .ok (.iand, 1) ∧ decode cX6_fewestWords 94 = .ok (.istore 7, 2) ∧ decode cX6_fewestWords 96 = .ok (.iinc 8 1, 3) ∧ decode cX6_fewestWords 99 = .ok (.goto (-42), 3) ∧ decode cX6_fewestWords 102 = .ok (.iinc 6 1, 3) := by decide +kernel
theorem dX6_fewestWords_90 : decode cX6_fewestWords 90 = .ok (.iload_n 3, 1) := dAX6_fewestWords_6.1
theorem dX6_fewestWords_91 : decode cX6_fewestWords 91 = .ok (.isub, 1) := dAX6_fewestWords_6.2.1
theorem dX6_fewestWords_92 : decode cX6_fewestWords 92 = .ok (.iload_n 3, 1) := dAX6_fewestWords_6.2.2.1
theorem dX6_fewestWords_93 : decode cX6_fewestWords 93 = .ok (.iand, 1) := dAX6_fewestWords_6.2.2.2.1
theorem dX6_fewestWords_94 : decode cX6_fewestWords 94 = .ok (.istore 7, 2) := dAX6_fewestWords_6.2.2.2.2.1
theorem dX6_fewestWords_96 : decode cX6_fewestWords 96 = .ok (.iinc 8 1, 3) := dAX6_fewestWords_6.2.2.2.2.2.1
theorem dX6_fewestWords_99 : decode cX6_fewestWords 99 = .ok (.goto (-42), 3) := dAX6_fewestWords_6.2.2.2.2.2.2.1
theorem dX6_fewestWords_102 : decode cX6_fewestWords 102 = .ok (.iinc 6 1, 3) := dAX6_fewestWords_6.2.2.2.2.2.2.2
set_option maxRecDepth 100000 in
theorem dAX6_fewestWords_7 : decode cX6_fewestWords 105 = .ok (.goto (-61), 3) ∧ decode cX6_fewestWords 108 = .ok (.iload_n 3, 1) ∧ decode cX6_fewestWords 109 = .ok (.ireturn, 1) := by decide +kernel
theorem dX6_fewestWords_105 : decode cX6_fewestWords 105 = .ok (.goto (-61), 3) := dAX6_fewestWords_7.1
theorem dX6_fewestWords_108 : decode cX6_fewestWords 108 = .ok (.iload_n 3, 1) := dAX6_fewestWords_7.2.1
theorem dX6_fewestWords_109 : decode cX6_fewestWords 109 = .ok (.ireturn, 1) := dAX6_fewestWords_7.2.2
set_option maxRecDepth 100000 in
theorem dAX6_first_0 : decode cX6_first 0 = .ok (.aload_n 0, 1) ∧ decode cX6_first 1 = .ok (.iload_n 1, 1) ∧ decode cX6_first 2 = .ok (.invokevirtual 106, 3) ∧ decode cX6_first 5 = .ok (.ifCond .eq 5, 3) ∧ decode cX6_first 8 = .ok (.iconst (-1), 1) ∧ decode cX6_first 9 = .ok (.ireturn, 1) ∧ decode cX6_first 10 = .ok (.aload_n 0, 1) ∧ decode cX6_first 11 = .ok (.iload_n 1, 1) := by decide +kernel
theorem dX6_first_0 : decode cX6_first 0 = .ok (.aload_n 0, 1) := dAX6_first_0.1
theorem dX6_first_1 : decode cX6_first 1 = .ok (.iload_n 1, 1) := dAX6_first_0.2.1
theorem dX6_first_2 : decode cX6_first 2 = .ok (.invokevirtual 106, 3) := dAX6_first_0.2.2.1
theorem dX6_first_5 : decode cX6_first 5 = .ok (.ifCond .eq 5, 3) := dAX6_first_0.2.2.2.1
theorem dX6_first_8 : decode cX6_first 8 = .ok (.iconst (-1), 1) := dAX6_first_0.2.2.2.2.1
theorem dX6_first_9 : decode cX6_first 9 = .ok (.ireturn, 1) := dAX6_first_0.2.2.2.2.2.1
theorem dX6_first_10 : decode cX6_first 10 = .ok (.aload_n 0, 1) := dAX6_first_0.2.2.2.2.2.2.1
theorem dX6_first_11 : decode cX6_first 11 = .ok (.iload_n 1, 1) := dAX6_first_0.2.2.2.2.2.2.2
set_option maxRecDepth 100000 in
theorem dAX6_first_1 : decode cX6_first 12 = .ok (.invokevirtual 235, 3) ∧ decode cX6_first 15 = .ok (.istore_n 2, 1) ∧ decode cX6_first 16 = .ok (.iload_n 2, 1) ∧ decode cX6_first 17 = .ok (.ifCond .ge 8, 3) ∧ decode cX6_first 20 = .ok (.bipush (-2), 2) ∧ decode cX6_first 22 = .ok (.goto 16, 3) ∧ decode cX6_first 25 = .ok (.aload_n 0, 1) ∧ decode cX6_first 26 = .ok (.getfield 26, 3) := by decide +kernel
theorem dX6_first_12 : decode cX6_first 12 = .ok (.invokevirtual 235, 3) := dAX6_first_1.1
theorem dX6_first_15 : decode cX6_first 15 = .ok (.istore_n 2, 1) := dAX6_first_1.2.1
theorem dX6_first_16 : decode cX6_first 16 = .ok (.iload_n 2, 1) := dAX6_first_1.2.2.1
theorem dX6_first_17 : decode cX6_first 17 = .ok (.ifCond .ge 8, 3) := dAX6_first_1.2.2.2.1
theorem dX6_first_20 : decode cX6_first 20 = .ok (.bipush (-2), 2) := dAX6_first_1.2.2.2.2.1
theorem dX6_first_22 : decode cX6_first 22 = .ok (.goto 16, 3) := dAX6_first_1.2.2.2.2.2.1
theorem dX6_first_25 : decode cX6_first 25 = .ok (.aload_n 0, 1) := dAX6_first_1.2.2.2.2.2.2.1
theorem dX6_first_26 : decode cX6_first 26 = .ok (.getfield 26, 3) := dAX6_first_1.2.2.2.2.2.2.2
set_option maxRecDepth 100000 in
theorem dAX6_first_2 : decode cX6_first 29 = .ok (.aload_n 0, 1) ∧ decode cX6_first 30 = .ok (.getfield 19, 3) ∧ decode cX6_first 33 = .ok (.iload_n 1, 1) ∧ decode cX6_first 34 = .ok (.iload_n 2, 1) ∧ decode cX6_first 35 = .ok (.invokevirtual 129, 3) ∧ decode cX6_first 38 = .ok (.ireturn, 1) := by decide +kernel
theorem dX6_first_29 : decode cX6_first 29 = .ok (.aload_n 0, 1) := dAX6_first_2.1
theorem dX6_first_30 : decode cX6_first 30 = .ok (.getfield 19, 3) := dAX6_first_2.2.1
theorem dX6_first_33 : decode cX6_first 33 = .ok (.iload_n 1, 1) := dAX6_first_2.2.2.1
theorem dX6_first_34 : decode cX6_first 34 = .ok (.iload_n 2, 1) := dAX6_first_2.2.2.2.1
theorem dX6_first_35 : decode cX6_first 35 = .ok (.invokevirtual 129, 3) := dAX6_first_2.2.2.2.2.1
theorem dX6_first_38 : decode cX6_first 38 = .ok (.ireturn, 1) := dAX6_first_2.2.2.2.2.2
set_option maxRecDepth 100000 in
theorem dAX6_firstBreaths_0 : decode cX6_firstBreaths 0 = .ok (.aload_n 0, 1) ∧ decode cX6_firstBreaths 1 = .ok (.iload_n 1, 1) ∧ decode cX6_firstBreaths 2 = .ok (.invokevirtual 106, 3) ∧ decode cX6_firstBreaths 5 = .ok (.ifCond .eq 5, 3) ∧ decode cX6_firstBreaths 8 = .ok (.iconst (-1), 1) ∧ decode cX6_firstBreaths 9 = .ok (.ireturn, 1) ∧ decode cX6_firstBreaths 10 = .ok (.aload_n 0, 1) ∧ decode cX6_firstBreaths 11 = .ok (.iload_n 1, 1) := by decide +kernel
theorem dX6_firstBreaths_0 : decode cX6_firstBreaths 0 = .ok (.aload_n 0, 1) := dAX6_firstBreaths_0.1
theorem dX6_firstBreaths_1 : decode cX6_firstBreaths 1 = .ok (.iload_n 1, 1) := dAX6_firstBreaths_0.2.1
theorem dX6_firstBreaths_2 : decode cX6_firstBreaths 2 = .ok (.invokevirtual 106, 3) := dAX6_firstBreaths_0.2.2.1
theorem dX6_firstBreaths_5 : decode cX6_firstBreaths 5 = .ok (.ifCond .eq 5, 3) := dAX6_firstBreaths_0.2.2.2.1
theorem dX6_firstBreaths_8 : decode cX6_firstBreaths 8 = .ok (.iconst (-1), 1) := dAX6_firstBreaths_0.2.2.2.2.1
theorem dX6_firstBreaths_9 : decode cX6_firstBreaths 9 = .ok (.ireturn, 1) := dAX6_firstBreaths_0.2.2.2.2.2.1
theorem dX6_firstBreaths_10 : decode cX6_firstBreaths 10 = .ok (.aload_n 0, 1) := dAX6_firstBreaths_0.2.2.2.2.2.2.1
theorem dX6_firstBreaths_11 : decode cX6_firstBreaths 11 = .ok (.iload_n 1, 1) := dAX6_firstBreaths_0.2.2.2.2.2.2.2
set_option maxRecDepth 100000 in
theorem dAX6_firstBreaths_1 : decode cX6_firstBreaths 12 = .ok (.invokevirtual 235, 3) ∧ decode cX6_firstBreaths 15 = .ok (.istore_n 2, 1) ∧ decode cX6_firstBreaths 16 = .ok (.iload_n 2, 1) ∧ decode cX6_firstBreaths 17 = .ok (.ifCond .ge 8, 3) ∧ decode cX6_firstBreaths 20 = .ok (.bipush (-2), 2) ∧ decode cX6_firstBreaths 22 = .ok (.goto 9, 3) ∧ decode cX6_firstBreaths 25 = .ok (.aload_n 0, 1) ∧ decode cX6_firstBreaths 26 = .ok (.iload_n 1, 1) := by decide +kernel
theorem dX6_firstBreaths_12 : decode cX6_firstBreaths 12 = .ok (.invokevirtual 235, 3) := dAX6_firstBreaths_1.1
theorem dX6_firstBreaths_15 : decode cX6_firstBreaths 15 = .ok (.istore_n 2, 1) := dAX6_firstBreaths_1.2.1
theorem dX6_firstBreaths_16 : decode cX6_firstBreaths 16 = .ok (.iload_n 2, 1) := dAX6_firstBreaths_1.2.2.1
theorem dX6_firstBreaths_17 : decode cX6_firstBreaths 17 = .ok (.ifCond .ge 8, 3) := dAX6_firstBreaths_1.2.2.2.1
theorem dX6_firstBreaths_20 : decode cX6_firstBreaths 20 = .ok (.bipush (-2), 2) := dAX6_firstBreaths_1.2.2.2.2.1
theorem dX6_firstBreaths_22 : decode cX6_firstBreaths 22 = .ok (.goto 9, 3) := dAX6_firstBreaths_1.2.2.2.2.2.1
theorem dX6_firstBreaths_25 : decode cX6_firstBreaths 25 = .ok (.aload_n 0, 1) := dAX6_firstBreaths_1.2.2.2.2.2.2.1
theorem dX6_firstBreaths_26 : decode cX6_firstBreaths 26 = .ok (.iload_n 1, 1) := dAX6_firstBreaths_1.2.2.2.2.2.2.2
set_option maxRecDepth 100000 in
theorem dAX6_firstBreaths_2 : decode cX6_firstBreaths 27 = .ok (.iload_n 2, 1) ∧ decode cX6_firstBreaths 28 = .ok (.invokevirtual 238, 3) ∧ decode cX6_firstBreaths 31 = .ok (.ireturn, 1) := by decide +kernel
theorem dX6_firstBreaths_27 : decode cX6_firstBreaths 27 = .ok (.iload_n 2, 1) := dAX6_firstBreaths_2.1
theorem dX6_firstBreaths_28 : decode cX6_firstBreaths 28 = .ok (.invokevirtual 238, 3) := dAX6_firstBreaths_2.2.1
theorem dX6_firstBreaths_31 : decode cX6_firstBreaths 31 = .ok (.ireturn, 1) := dAX6_firstBreaths_2.2.2
set_option maxRecDepth 100000 in
theorem dAX6_fitAt_0 : decode cX6_fitAt 0 = .ok (.aload_n 0, 1) ∧ decode cX6_fitAt 1 = .ok (.invokevirtual 140, 3) ∧ decode cX6_fitAt 4 = .ok (.ifCond .eq 5, 3) ∧ decode cX6_fitAt 7 = .ok (.iconst (-1), 1) ∧ decode cX6_fitAt 8 = .ok (.ireturn, 1) ∧ decode cX6_fitAt 9 = .ok (.aload_n 0, 1) ∧ decode cX6_fitAt 10 = .ok (.invokevirtual 287, 3) ∧ decode cX6_fitAt 13 = .ok (.istore_n 2, 1) := by decide +kernel
theorem dX6_fitAt_0 : decode cX6_fitAt 0 = .ok (.aload_n 0, 1) := dAX6_fitAt_0.1
theorem dX6_fitAt_1 : decode cX6_fitAt 1 = .ok (.invokevirtual 140, 3) := dAX6_fitAt_0.2.1
theorem dX6_fitAt_4 : decode cX6_fitAt 4 = .ok (.ifCond .eq 5, 3) := dAX6_fitAt_0.2.2.1
theorem dX6_fitAt_7 : decode cX6_fitAt 7 = .ok (.iconst (-1), 1) := dAX6_fitAt_0.2.2.2.1
theorem dX6_fitAt_8 : decode cX6_fitAt 8 = .ok (.ireturn, 1) := dAX6_fitAt_0.2.2.2.2.1
theorem dX6_fitAt_9 : decode cX6_fitAt 9 = .ok (.aload_n 0, 1) := dAX6_fitAt_0.2.2.2.2.2.1
theorem dX6_fitAt_10 : decode cX6_fitAt 10 = .ok (.invokevirtual 287, 3) := dAX6_fitAt_0.2.2.2.2.2.2.1
theorem dX6_fitAt_13 : decode cX6_fitAt 13 = .ok (.istore_n 2, 1) := dAX6_fitAt_0.2.2.2.2.2.2.2
set_option maxRecDepth 100000 in
theorem dAX6_fitAt_1 : decode cX6_fitAt 14 = .ok (.iconst 0, 1) ∧ decode cX6_fitAt 15 = .ok (.istore_n 3, 1) ∧ decode cX6_fitAt 16 = .ok (.iconst 0, 1) ∧ decode cX6_fitAt 17 = .ok (.istore 4, 2) ∧ decode cX6_fitAt 19 = .ok (.iload 4, 2) ∧ decode cX6_fitAt 21 = .ok (.aload_n 0, 1) ∧ decode cX6_fitAt 22 = .ok (.getfield 19, 3) ∧ decode cX6_fitAt 25 = .ok (.invokevirtual 290, 3) := by decide +kernel
theorem dX6_fitAt_14 : decode cX6_fitAt 14 = .ok (.iconst 0, 1) := dAX6_fitAt_1.1
theorem dX6_fitAt_15 : decode cX6_fitAt 15 = .ok (.istore_n 3, 1) := dAX6_fitAt_1.2.1
theorem dX6_fitAt_16 : decode cX6_fitAt 16 = .ok (.iconst 0, 1) := dAX6_fitAt_1.2.2.1
theorem dX6_fitAt_17 : decode cX6_fitAt 17 = .ok (.istore 4, 2) := dAX6_fitAt_1.2.2.2.1
theorem dX6_fitAt_19 : decode cX6_fitAt 19 = .ok (.iload 4, 2) := dAX6_fitAt_1.2.2.2.2.1
theorem dX6_fitAt_21 : decode cX6_fitAt 21 = .ok (.aload_n 0, 1) := dAX6_fitAt_1.2.2.2.2.2.1
theorem dX6_fitAt_22 : decode cX6_fitAt 22 = .ok (.getfield 19, 3) := dAX6_fitAt_1.2.2.2.2.2.2.1
theorem dX6_fitAt_25 : decode cX6_fitAt 25 = .ok (.invokevirtual 290, 3) := dAX6_fitAt_1.2.2.2.2.2.2.2
set_option maxRecDepth 100000 in
theorem dAX6_fitAt_2 : decode cX6_fitAt 28 = .ok (.if_icmp .ge 30, 3) ∧ decode cX6_fitAt 31 = .ok (.iload_n 2, 1) ∧ decode cX6_fitAt 32 = .ok (.iload 4, 2) ∧ decode cX6_fitAt 34 = .ok (.ishr, 1) ∧ decode cX6_fitAt 35 = .ok (.iconst 1, 1) ∧ decode cX6_fitAt 36 = .ok (.iand, 1) ∧ decode cX6_fitAt 37 = .ok (.iconst 1, 1) ∧ decode cX6_fitAt 38 = .ok (.if_icmp .ne 14, 3) := by decide +kernel
theorem dX6_fitAt_28 : decode cX6_fitAt 28 = .ok (.if_icmp .ge 30, 3) := dAX6_fitAt_2.1
theorem dX6_fitAt_31 : decode cX6_fitAt 31 = .ok (.iload_n 2, 1) := dAX6_fitAt_2.2.1
theorem dX6_fitAt_32 : decode cX6_fitAt 32 = .ok (.iload 4, 2) := dAX6_fitAt_2.2.2.1
theorem dX6_fitAt_34 : decode cX6_fitAt 34 = .ok (.ishr, 1) := dAX6_fitAt_2.2.2.2.1
theorem dX6_fitAt_35 : decode cX6_fitAt 35 = .ok (.iconst 1, 1) := dAX6_fitAt_2.2.2.2.2.1
theorem dX6_fitAt_36 : decode cX6_fitAt 36 = .ok (.iand, 1) := dAX6_fitAt_2.2.2.2.2.2.1
theorem dX6_fitAt_37 : decode cX6_fitAt 37 = .ok (.iconst 1, 1) := dAX6_fitAt_2.2.2.2.2.2.2.1
theorem dX6_fitAt_38 : decode cX6_fitAt 38 = .ok (.if_icmp .ne 14, 3) := dAX6_fitAt_2.2.2.2.2.2.2.2
set_option maxRecDepth 100000 in
theorem dAX6_fitAt_3 : decode cX6_fitAt 41 = .ok (.iload_n 3, 1) ∧ decode cX6_fitAt 42 = .ok (.iload_n 1, 1) ∧ decode cX6_fitAt 43 = .ok (.if_icmp .ne 6, 3) ∧ decode cX6_fitAt 46 = .ok (.iload 4, 2) ∧ decode cX6_fitAt 48 = .ok (.ireturn, 1) ∧ decode cX6_fitAt 49 = .ok (.iinc 3 1, 3) ∧ decode cX6_fitAt 52 = .ok (.iinc 4 1, 3) ∧ decode cX6_fitAt 55 = .ok (.goto (-36), 3) := by decide +kernel
theorem dX6_fitAt_41 : decode cX6_fitAt 41 = .ok (.iload_n 3, 1) := dAX6_fitAt_3.1
theorem dX6_fitAt_42 : decode cX6_fitAt 42 = .ok (.iload_n 1, 1) := dAX6_fitAt_3.2.1
theorem dX6_fitAt_43 : decode cX6_fitAt 43 = .ok (.if_icmp .ne 6, 3) := dAX6_fitAt_3.2.2.1
theorem dX6_fitAt_46 : decode cX6_fitAt 46 = .ok (.iload 4, 2) := dAX6_fitAt_3.2.2.2.1
theorem dX6_fitAt_48 : decode cX6_fitAt 48 = .ok (.ireturn, 1) := dAX6_fitAt_3.2.2.2.2.1
theorem dX6_fitAt_49 : decode cX6_fitAt 49 = .ok (.iinc 3 1, 3) := dAX6_fitAt_3.2.2.2.2.2.1
theorem dX6_fitAt_52 : decode cX6_fitAt 52 = .ok (.iinc 4 1, 3) := dAX6_fitAt_3.2.2.2.2.2.2.1
theorem dX6_fitAt_55 : decode cX6_fitAt 55 = .ok (.goto (-36), 3) := dAX6_fitAt_3.2.2.2.2.2.2.2
set_option maxRecDepth 100000 in
theorem dAX6_fitAt_4 : decode cX6_fitAt 58 = .ok (.aload_n 0, 1) ∧ decode cX6_fitAt 59 = .ok (.iconst 1, 1) ∧ decode cX6_fitAt 60 = .ok (.invokevirtual 66, 3) ∧ decode cX6_fitAt 63 = .ok (.ireturn, 1) := by decide +kernel
theorem dX6_fitAt_58 : decode cX6_fitAt 58 = .ok (.aload_n 0, 1) := dAX6_fitAt_4.1
theorem dX6_fitAt_59 : decode cX6_fitAt 59 = .ok (.iconst 1, 1) := dAX6_fitAt_4.2.1
theorem dX6_fitAt_60 : decode cX6_fitAt 60 = .ok (.invokevirtual 66, 3) := dAX6_fitAt_4.2.2.1
theorem dX6_fitAt_63 : decode cX6_fitAt 63 = .ok (.ireturn, 1) := dAX6_fitAt_4.2.2.2
set_option maxRecDepth 100000 in
theorem dAX6_fits_0 : decode cX6_fits 0 = .ok (.aload_n 0, 1) ∧ decode cX6_fits 1 = .ok (.invokevirtual 140, 3) ∧ decode cX6_fits 4 = .ok (.ifCond .eq 7, 3) ∧ decode cX6_fits 7 = .ok (.iconst (-1), 1) ∧ decode cX6_fits 8 = .ok (.goto 10, 3) ∧ decode cX6_fits 11 = .ok (.aload_n 0, 1) ∧ decode cX6_fits 12 = .ok (.invokevirtual 287, 3) ∧ decode cX6_fits 15 = .ok (.invokestatic 227, 3) := by decide +kernel
theorem dX6_fits_0 : decode cX6_fits 0 = .ok (.aload_n 0, 1) := dAX6_fits_0.1
theorem dX6_fits_1 : decode cX6_fits 1 = .ok (.invokevirtual 140, 3) := dAX6_fits_0.2.1
theorem dX6_fits_4 : decode cX6_fits 4 = .ok (.ifCond .eq 7, 3) := dAX6_fits_0.2.2.1
theorem dX6_fits_7 : decode cX6_fits 7 = .ok (.iconst (-1), 1) := dAX6_fits_0.2.2.2.1
theorem dX6_fits_8 : decode cX6_fits 8 = .ok (.goto 10, 3) := dAX6_fits_0.2.2.2.2.1
theorem dX6_fits_11 : decode cX6_fits 11 = .ok (.aload_n 0, 1) := dAX6_fits_0.2.2.2.2.2.1
theorem dX6_fits_12 : decode cX6_fits 12 = .ok (.invokevirtual 287, 3) := dAX6_fits_0.2.2.2.2.2.2.1
theorem dX6_fits_15 : decode cX6_fits 15 = .ok (.invokestatic 227, 3) := dAX6_fits_0.2.2.2.2.2.2.2
theorem dX6_fits_18 : decode cX6_fits 18 = .ok (.ireturn, 1) := by decide +kernel
set_option maxRecDepth 100000 in
theorem dAX6_fittingSets_0 : decode cX6_fittingSets 0 = .ok (.iconst 0, 1) ∧ decode cX6_fittingSets 1 = .ok (.istore_n 1, 1) ∧ decode cX6_fittingSets 2 = .ok (.iconst 0, 1) ∧ decode cX6_fittingSets 3 = .ok (.istore_n 2, 1) ∧ decode cX6_fittingSets 4 = .ok (.iload_n 2, 1) ∧ decode cX6_fittingSets 5 = .ok (.aload_n 0, 1) ∧ decode cX6_fittingSets 6 = .ok (.getfield 19, 3) ∧ decode cX6_fittingSets 9 = .ok (.invokevirtual 290, 3) := by decide +kernel
theorem dX6_fittingSets_0 : decode cX6_fittingSets 0 = .ok (.iconst 0, 1) := dAX6_fittingSets_0.1
theorem dX6_fittingSets_1 : decode cX6_fittingSets 1 = .ok (.istore_n 1, 1) := dAX6_fittingSets_0.2.1
theorem dX6_fittingSets_2 : decode cX6_fittingSets 2 = .ok (.iconst 0, 1) := dAX6_fittingSets_0.2.2.1
theorem dX6_fittingSets_3 : decode cX6_fittingSets 3 = .ok (.istore_n 2, 1) := dAX6_fittingSets_0.2.2.2.1
theorem dX6_fittingSets_4 : decode cX6_fittingSets 4 = .ok (.iload_n 2, 1) := dAX6_fittingSets_0.2.2.2.2.1
theorem dX6_fittingSets_5 : decode cX6_fittingSets 5 = .ok (.aload_n 0, 1) := dAX6_fittingSets_0.2.2.2.2.2.1
theorem dX6_fittingSets_6 : decode cX6_fittingSets 6 = .ok (.getfield 19, 3) := dAX6_fittingSets_0.2.2.2.2.2.2.1
theorem dX6_fittingSets_9 : decode cX6_fittingSets 9 = .ok (.invokevirtual 290, 3) := dAX6_fittingSets_0.2.2.2.2.2.2.2
set_option maxRecDepth 100000 in
theorem dAX6_fittingSets_1 : decode cX6_fittingSets 12 = .ok (.if_icmp .ge 66, 3) ∧ decode cX6_fittingSets 15 = .ok (.aload_n 0, 1) ∧ decode cX6_fittingSets 16 = .ok (.getfield 54, 3) ∧ decode cX6_fittingSets 19 = .ok (.aload_n 0, 1) ∧ decode cX6_fittingSets 20 = .ok (.getfield 19, 3) ∧ decode cX6_fittingSets 23 = .ok (.aload_n 0, 1) ∧ decode cX6_fittingSets 24 = .ok (.getfield 19, 3) ∧ decode cX6_fittingSets 27 = .ok (.getfield 302, 3) := by decide +kernel
theorem dX6_fittingSets_12 : decode cX6_fittingSets 12 = .ok (.if_icmp .ge 66, 3) := dAX6_fittingSets_1.1
theorem dX6_fittingSets_15 : decode cX6_fittingSets 15 = .ok (.aload_n 0, 1) := dAX6_fittingSets_1.2.1
theorem dX6_fittingSets_16 : decode cX6_fittingSets 16 = .ok (.getfield 54, 3) := dAX6_fittingSets_1.2.2.1
theorem dX6_fittingSets_19 : decode cX6_fittingSets 19 = .ok (.aload_n 0, 1) := dAX6_fittingSets_1.2.2.2.1
theorem dX6_fittingSets_20 : decode cX6_fittingSets 20 = .ok (.getfield 19, 3) := dAX6_fittingSets_1.2.2.2.2.1
theorem dX6_fittingSets_23 : decode cX6_fittingSets 23 = .ok (.aload_n 0, 1) := dAX6_fittingSets_1.2.2.2.2.2.1
theorem dX6_fittingSets_24 : decode cX6_fittingSets 24 = .ok (.getfield 19, 3) := dAX6_fittingSets_1.2.2.2.2.2.2.1
theorem dX6_fittingSets_27 : decode cX6_fittingSets 27 = .ok (.getfield 302, 3) := dAX6_fittingSets_1.2.2.2.2.2.2.2
set_option maxRecDepth 100000 in
theorem dAX6_fittingSets_2 : decode cX6_fittingSets 30 = .ok (.iload_n 2, 1) ∧ decode cX6_fittingSets 31 = .ok (.invokevirtual 305, 3) ∧ decode cX6_fittingSets 34 = .ok (.istore_n 3, 1) ∧ decode cX6_fittingSets 35 = .ok (.aload_n 0, 1) ∧ decode cX6_fittingSets 36 = .ok (.getfield 19, 3) ∧ decode cX6_fittingSets 39 = .ok (.getfield 309, 3) ∧ decode cX6_fittingSets 42 = .ok (.ifCond .lt 24, 3) ∧ decode cX6_fittingSets 45 = .ok (.iload_n 3, 1) := by decide +kernel
theorem dX6_fittingSets_30 : decode cX6_fittingSets 30 = .ok (.iload_n 2, 1) := dAX6_fittingSets_2.1
theorem dX6_fittingSets_31 : decode cX6_fittingSets 31 = .ok (.invokevirtual 305, 3) := dAX6_fittingSets_2.2.1
theorem dX6_fittingSets_34 : decode cX6_fittingSets 34 = .ok (.istore_n 3, 1) := dAX6_fittingSets_2.2.2.1
theorem dX6_fittingSets_35 : decode cX6_fittingSets 35 = .ok (.aload_n 0, 1) := dAX6_fittingSets_2.2.2.2.1
theorem dX6_fittingSets_36 : decode cX6_fittingSets 36 = .ok (.getfield 19, 3) := dAX6_fittingSets_2.2.2.2.2.1
theorem dX6_fittingSets_39 : decode cX6_fittingSets 39 = .ok (.getfield 309, 3) := dAX6_fittingSets_2.2.2.2.2.2.1
theorem dX6_fittingSets_42 : decode cX6_fittingSets 42 = .ok (.ifCond .lt 24, 3) := dAX6_fittingSets_2.2.2.2.2.2.2.1
theorem dX6_fittingSets_45 : decode cX6_fittingSets 45 = .ok (.iload_n 3, 1) := dAX6_fittingSets_2.2.2.2.2.2.2.2
set_option maxRecDepth 100000 in
theorem dAX6_fittingSets_3 : decode cX6_fittingSets 46 = .ok (.aload_n 0, 1) ∧ decode cX6_fittingSets 47 = .ok (.getfield 19, 3) ∧ decode cX6_fittingSets 50 = .ok (.getfield 159, 3) ∧ decode cX6_fittingSets 53 = .ok (.invokestatic 312, 3) ∧ decode cX6_fittingSets 56 = .ok (.aload_n 0, 1) ∧ decode cX6_fittingSets 57 = .ok (.getfield 19, 3) ∧ decode cX6_fittingSets 60 = .ok (.getfield 309, 3) ∧ decode cX6_fittingSets 63 = .ok (.if_icmp .ne 9, 3) := by decide +kernel
theorem dX6_fittingSets_46 : decode cX6_fittingSets 46 = .ok (.aload_n 0, 1) := dAX6_fittingSets_3.1
theorem dX6_fittingSets_47 : decode cX6_fittingSets 47 = .ok (.getfield 19, 3) := dAX6_fittingSets_3.2.1
theorem dX6_fittingSets_50 : decode cX6_fittingSets 50 = .ok (.getfield 159, 3) := dAX6_fittingSets_3.2.2.1
theorem dX6_fittingSets_53 : decode cX6_fittingSets 53 = .ok (.invokestatic 312, 3) := dAX6_fittingSets_3.2.2.2.1
theorem dX6_fittingSets_56 : decode cX6_fittingSets 56 = .ok (.aload_n 0, 1) := dAX6_fittingSets_3.2.2.2.2.1
theorem dX6_fittingSets_57 : decode cX6_fittingSets 57 = .ok (.getfield 19, 3) := dAX6_fittingSets_3.2.2.2.2.2.1
theorem dX6_fittingSets_60 : decode cX6_fittingSets 60 = .ok (.getfield 309, 3) := dAX6_fittingSets_3.2.2.2.2.2.2.1
theorem dX6_fittingSets_63 : decode cX6_fittingSets 63 = .ok (.if_icmp .ne 9, 3) := dAX6_fittingSets_3.2.2.2.2.2.2.2
set_option maxRecDepth 100000 in
theorem dAX6_fittingSets_4 : decode cX6_fittingSets 66 = .ok (.iload_n 1, 1) ∧ decode cX6_fittingSets 67 = .ok (.iconst 1, 1) ∧ decode cX6_fittingSets 68 = .ok (.iload_n 2, 1) ∧ decode cX6_fittingSets 69 = .ok (.ishl, 1) ∧ decode cX6_fittingSets 70 = .ok (.ior, 1) ∧ decode cX6_fittingSets 71 = .ok (.istore_n 1, 1) ∧ decode cX6_fittingSets 72 = .ok (.iinc 2 1, 3) ∧ decode cX6_fittingSets 75 = .ok (.goto (-71), 3) := by decide +kernel
theorem dX6_fittingSets_66 : decode cX6_fittingSets 66 = .ok (.iload_n 1, 1) := dAX6_fittingSets_4.1
theorem dX6_fittingSets_67 : decode cX6_fittingSets 67 = .ok (.iconst 1, 1) := dAX6_fittingSets_4.2.1
theorem dX6_fittingSets_68 : decode cX6_fittingSets 68 = .ok (.iload_n 2, 1) := dAX6_fittingSets_4.2.2.1
theorem dX6_fittingSets_69 : decode cX6_fittingSets 69 = .ok (.ishl, 1) := dAX6_fittingSets_4.2.2.2.1
theorem dX6_fittingSets_70 : decode cX6_fittingSets 70 = .ok (.ior, 1) := dAX6_fittingSets_4.2.2.2.2.1
theorem dX6_fittingSets_71 : decode cX6_fittingSets 71 = .ok (.istore_n 1, 1) := dAX6_fittingSets_4.2.2.2.2.2.1
theorem dX6_fittingSets_72 : decode cX6_fittingSets 72 = .ok (.iinc 2 1, 3) := dAX6_fittingSets_4.2.2.2.2.2.2.1
theorem dX6_fittingSets_75 : decode cX6_fittingSets 75 = .ok (.goto (-71), 3) := dAX6_fittingSets_4.2.2.2.2.2.2.2
set_option maxRecDepth 100000 in
theorem dAX6_fittingSets_5 : decode cX6_fittingSets 78 = .ok (.iload_n 1, 1) ∧ decode cX6_fittingSets 79 = .ok (.ireturn, 1) := by decide +kernel
theorem dX6_fittingSets_78 : decode cX6_fittingSets 78 = .ok (.iload_n 1, 1) := dAX6_fittingSets_5.1
theorem dX6_fittingSets_79 : decode cX6_fittingSets 79 = .ok (.ireturn, 1) := dAX6_fittingSets_5.2
set_option maxRecDepth 100000 in
theorem dAX6_front_0 : decode cX6_front 0 = .ok (.aload_n 0, 1) ∧ decode cX6_front 1 = .ok (.iload_n 1, 1) ∧ decode cX6_front 2 = .ok (.iload_n 2, 1) ∧ decode cX6_front 3 = .ok (.invokevirtual 125, 3) ∧ decode cX6_front 6 = .ok (.ifCond .eq 5, 3) ∧ decode cX6_front 9 = .ok (.iconst (-1), 1) ∧ decode cX6_front 10 = .ok (.ireturn, 1) ∧ decode cX6_front 11 = .ok (.iload_n 2, 1) := by decide +kernel
theorem dX6_front_0 : decode cX6_front 0 = .ok (.aload_n 0, 1) := dAX6_front_0.1
theorem dX6_front_1 : decode cX6_front 1 = .ok (.iload_n 1, 1) := dAX6_front_0.2.1
theorem dX6_front_2 : decode cX6_front 2 = .ok (.iload_n 2, 1) := dAX6_front_0.2.2.1
theorem dX6_front_3 : decode cX6_front 3 = .ok (.invokevirtual 125, 3) := dAX6_front_0.2.2.2.1
theorem dX6_front_6 : decode cX6_front 6 = .ok (.ifCond .eq 5, 3) := dAX6_front_0.2.2.2.2.1
theorem dX6_front_9 : decode cX6_front 9 = .ok (.iconst (-1), 1) := dAX6_front_0.2.2.2.2.2.1
theorem dX6_front_10 : decode cX6_front 10 = .ok (.ireturn, 1) := dAX6_front_0.2.2.2.2.2.2.1
theorem dX6_front_11 : decode cX6_front 11 = .ok (.iload_n 2, 1) := dAX6_front_0.2.2.2.2.2.2.2
set_option maxRecDepth 100000 in
theorem dAX6_front_1 : decode cX6_front 12 = .ok (.ifCond .ne 9, 3) ∧ decode cX6_front 15 = .ok (.aload_n 0, 1) ∧ decode cX6_front 16 = .ok (.iconst 5, 1) ∧ decode cX6_front 17 = .ok (.invokevirtual 66, 3) ∧ decode cX6_front 20 = .ok (.ireturn, 1) ∧ decode cX6_front 21 = .ok (.aload_n 0, 1) ∧ decode cX6_front 22 = .ok (.getfield 40, 3) ∧ decode cX6_front 25 = .ok (.iload_n 1, 1) := by decide +kernel
theorem dX6_front_12 : decode cX6_front 12 = .ok (.ifCond .ne 9, 3) := dAX6_front_1.1
theorem dX6_front_15 : decode cX6_front 15 = .ok (.aload_n 0, 1) := dAX6_front_1.2.1
theorem dX6_front_16 : decode cX6_front 16 = .ok (.iconst 5, 1) := dAX6_front_1.2.2.1
theorem dX6_front_17 : decode cX6_front 17 = .ok (.invokevirtual 66, 3) := dAX6_front_1.2.2.2.1
theorem dX6_front_20 : decode cX6_front 20 = .ok (.ireturn, 1) := dAX6_front_1.2.2.2.2.1
theorem dX6_front_21 : decode cX6_front 21 = .ok (.aload_n 0, 1) := dAX6_front_1.2.2.2.2.2.1
theorem dX6_front_22 : decode cX6_front 22 = .ok (.getfield 40, 3) := dAX6_front_1.2.2.2.2.2.2.1
theorem dX6_front_25 : decode cX6_front 25 = .ok (.iload_n 1, 1) := dAX6_front_1.2.2.2.2.2.2.2
set_option maxRecDepth 100000 in
theorem dAX6_front_2 : decode cX6_front 26 = .ok (.iload_n 2, 1) ∧ decode cX6_front 27 = .ok (.iconst 0, 1) ∧ decode cX6_front 28 = .ok (.invokevirtual 346, 3) ∧ decode cX6_front 31 = .ok (.aload_n 0, 1) ∧ decode cX6_front 32 = .ok (.getfield 26, 3) ∧ decode cX6_front 35 = .ok (.iload_n 1, 1) ∧ decode cX6_front 36 = .ok (.iload_n 2, 1) ∧ decode cX6_front 37 = .ok (.invokevirtual 245, 3) := by decide +kernel
theorem dX6_front_26 : decode cX6_front 26 = .ok (.iload_n 2, 1) := dAX6_front_2.1
theorem dX6_front_27 : decode cX6_front 27 = .ok (.iconst 0, 1) := dAX6_front_2.2.1
theorem dX6_front_28 : decode cX6_front 28 = .ok (.invokevirtual 346, 3) := dAX6_front_2.2.2.1
theorem dX6_front_31 : decode cX6_front 31 = .ok (.aload_n 0, 1) := dAX6_front_2.2.2.2.1
theorem dX6_front_32 : decode cX6_front 32 = .ok (.getfield 26, 3) := dAX6_front_2.2.2.2.2.1
theorem dX6_front_35 : decode cX6_front 35 = .ok (.iload_n 1, 1) := dAX6_front_2.2.2.2.2.2.1
theorem dX6_front_36 : decode cX6_front 36 = .ok (.iload_n 2, 1) := dAX6_front_2.2.2.2.2.2.2.1
theorem dX6_front_37 : decode cX6_front 37 = .ok (.invokevirtual 245, 3) := dAX6_front_2.2.2.2.2.2.2.2
set_option maxRecDepth 100000 in
theorem dAX6_front_3 : decode cX6_front 40 = .ok (.aload_n 0, 1) ∧ decode cX6_front 41 = .ok (.getfield 26, 3) ∧ decode cX6_front 44 = .ok (.aload_n 0, 1) ∧ decode cX6_front 45 = .ok (.getfield 19, 3) ∧ decode cX6_front 48 = .ok (.iload_n 1, 1) ∧ decode cX6_front 49 = .ok (.iconst 0, 1) ∧ decode cX6_front 50 = .ok (.invokevirtual 129, 3) ∧ decode cX6_front 53 = .ok (.ireturn, 1) := by decide +kernel
theorem dX6_front_40 : decode cX6_front 40 = .ok (.aload_n 0, 1) := dAX6_front_3.1
theorem dX6_front_41 : decode cX6_front 41 = .ok (.getfield 26, 3) := dAX6_front_3.2.1
theorem dX6_front_44 : decode cX6_front 44 = .ok (.aload_n 0, 1) := dAX6_front_3.2.2.1
theorem dX6_front_45 : decode cX6_front 45 = .ok (.getfield 19, 3) := dAX6_front_3.2.2.2.1
theorem dX6_front_48 : decode cX6_front 48 = .ok (.iload_n 1, 1) := dAX6_front_3.2.2.2.2.1
theorem dX6_front_49 : decode cX6_front 49 = .ok (.iconst 0, 1) := dAX6_front_3.2.2.2.2.2.1
theorem dX6_front_50 : decode cX6_front 50 = .ok (.invokevirtual 129, 3) := dAX6_front_3.2.2.2.2.2.2.1
theorem dX6_front_53 : decode cX6_front 53 = .ok (.ireturn, 1) := dAX6_front_3.2.2.2.2.2.2.2
set_option maxRecDepth 100000 in
theorem dAX6_greatestCommon_0 : decode cX6_greatestCommon 0 = .ok (.lload_n 0, 1) ∧ decode cX6_greatestCommon 1 = .ok (.lstore 4, 2) ∧ decode cX6_greatestCommon 3 = .ok (.lload_n 2, 1) ∧ decode cX6_greatestCommon 4 = .ok (.lstore 6, 2) ∧ decode cX6_greatestCommon 6 = .ok (.iconst 0, 1) ∧ decode cX6_greatestCommon 7 = .ok (.istore 8, 2) ∧ decode cX6_greatestCommon 9 = .ok (.iload 8, 2) ∧ decode cX6_greatestCommon 11 = .ok (.sipush 1000, 3) := by decide +kernel
theorem dX6_greatestCommon_0 : decode cX6_greatestCommon 0 = .ok (.lload_n 0, 1) := dAX6_greatestCommon_0.1
theorem dX6_greatestCommon_1 : decode cX6_greatestCommon 1 = .ok (.lstore 4, 2) := dAX6_greatestCommon_0.2.1
theorem dX6_greatestCommon_3 : decode cX6_greatestCommon 3 = .ok (.lload_n 2, 1) := dAX6_greatestCommon_0.2.2.1
theorem dX6_greatestCommon_4 : decode cX6_greatestCommon 4 = .ok (.lstore 6, 2) := dAX6_greatestCommon_0.2.2.2.1
theorem dX6_greatestCommon_6 : decode cX6_greatestCommon 6 = .ok (.iconst 0, 1) := dAX6_greatestCommon_0.2.2.2.2.1
theorem dX6_greatestCommon_7 : decode cX6_greatestCommon 7 = .ok (.istore 8, 2) := dAX6_greatestCommon_0.2.2.2.2.2.1
theorem dX6_greatestCommon_9 : decode cX6_greatestCommon 9 = .ok (.iload 8, 2) := dAX6_greatestCommon_0.2.2.2.2.2.2.1
theorem dX6_greatestCommon_11 : decode cX6_greatestCommon 11 = .ok (.sipush 1000, 3) := dAX6_greatestCommon_0.2.2.2.2.2.2.2
set_option maxRecDepth 100000 in
theorem dAX6_greatestCommon_1 : decode cX6_greatestCommon 14 = .ok (.if_icmp .ge 31, 3) ∧ decode cX6_greatestCommon 17 = .ok (.lload 6, 2) ∧ decode cX6_greatestCommon 19 = .ok (.lconst 0, 1) ∧ decode cX6_greatestCommon 20 = .ok (.lcmp, 1) ∧ decode cX6_greatestCommon 21 = .ok (.ifCond .eq 24, 3) ∧ decode cX6_greatestCommon 24 = .ok (.lload 4, 2) ∧ decode cX6_greatestCommon 26 = .ok (.lload 6, 2) ∧ decode cX6_greatestCommon 28 = .ok (.lrem, 1) := by decide +kernel
theorem dX6_greatestCommon_14 : decode cX6_greatestCommon 14 = .ok (.if_icmp .ge 31, 3) := dAX6_greatestCommon_1.1
theorem dX6_greatestCommon_17 : decode cX6_greatestCommon 17 = .ok (.lload 6, 2) := dAX6_greatestCommon_1.2.1
theorem dX6_greatestCommon_19 : decode cX6_greatestCommon 19 = .ok (.lconst 0, 1) := dAX6_greatestCommon_1.2.2.1
theorem dX6_greatestCommon_20 : decode cX6_greatestCommon 20 = .ok (.lcmp, 1) := dAX6_greatestCommon_1.2.2.2.1
theorem dX6_greatestCommon_21 : decode cX6_greatestCommon 21 = .ok (.ifCond .eq 24, 3) := dAX6_greatestCommon_1.2.2.2.2.1
theorem dX6_greatestCommon_24 : decode cX6_greatestCommon 24 = .ok (.lload 4, 2) := dAX6_greatestCommon_1.2.2.2.2.2.1
theorem dX6_greatestCommon_26 : decode cX6_greatestCommon 26 = .ok (.lload 6, 2) := dAX6_greatestCommon_1.2.2.2.2.2.2.1
theorem dX6_greatestCommon_28 : decode cX6_greatestCommon 28 = .ok (.lrem, 1) := dAX6_greatestCommon_1.2.2.2.2.2.2.2
set_option maxRecDepth 100000 in
theorem dAX6_greatestCommon_2 : decode cX6_greatestCommon 29 = .ok (.lstore 9, 2) ∧ decode cX6_greatestCommon 31 = .ok (.lload 6, 2) ∧ decode cX6_greatestCommon 33 = .ok (.lstore 4, 2) ∧ decode cX6_greatestCommon 35 = .ok (.lload 9, 2) ∧ decode cX6_greatestCommon 37 = .ok (.lstore 6, 2) ∧ decode cX6_greatestCommon 39 = .ok (.iinc 8 1, 3) ∧ decode cX6_greatestCommon 42 = .ok (.goto (-33), 3) ∧ decode cX6_greatestCommon 45 = .ok (.lload 4, 2) := by decide +kernel
theorem dX6_greatestCommon_29 : decode cX6_greatestCommon 29 = .ok (.lstore 9, 2) := dAX6_greatestCommon_2.1
theorem dX6_greatestCommon_31 : decode cX6_greatestCommon 31 = .ok (.lload 6, 2) := dAX6_greatestCommon_2.2.1
theorem dX6_greatestCommon_33 : decode cX6_greatestCommon 33 = .ok (.lstore 4, 2) := dAX6_greatestCommon_2.2.2.1
theorem dX6_greatestCommon_35 : decode cX6_greatestCommon 35 = .ok (.lload 9, 2) := dAX6_greatestCommon_2.2.2.2.1
theorem dX6_greatestCommon_37 : decode cX6_greatestCommon 37 = .ok (.lstore 6, 2) := dAX6_greatestCommon_2.2.2.2.2.1
theorem dX6_greatestCommon_39 : decode cX6_greatestCommon 39 = .ok (.iinc 8 1, 3) := dAX6_greatestCommon_2.2.2.2.2.2.1
theorem dX6_greatestCommon_42 : decode cX6_greatestCommon 42 = .ok (.goto (-33), 3) := dAX6_greatestCommon_2.2.2.2.2.2.2.1
theorem dX6_greatestCommon_45 : decode cX6_greatestCommon 45 = .ok (.lload 4, 2) := dAX6_greatestCommon_2.2.2.2.2.2.2.2
theorem dX6_greatestCommon_47 : decode cX6_greatestCommon 47 = .ok (.lreturn, 1) := by decide +kernel
set_option maxRecDepth 100000 in
theorem dAX6_halves_0 : decode cX6_halves 0 = .ok (.aload_n 0, 1) ∧ decode cX6_halves 1 = .ok (.invokevirtual 140, 3) ∧ decode cX6_halves 4 = .ok (.ifCond .eq 5, 3) ∧ decode cX6_halves 7 = .ok (.iconst (-1), 1) ∧ decode cX6_halves 8 = .ok (.ireturn, 1) ∧ decode cX6_halves 9 = .ok (.aload_n 0, 1) ∧ decode cX6_halves 10 = .ok (.getfield 47, 3) ∧ decode cX6_halves 13 = .ok (.aload_n 0, 1) := by decide +kernel
theorem dX6_halves_0 : decode cX6_halves 0 = .ok (.aload_n 0, 1) := dAX6_halves_0.1
theorem dX6_halves_1 : decode cX6_halves 1 = .ok (.invokevirtual 140, 3) := dAX6_halves_0.2.1
theorem dX6_halves_4 : decode cX6_halves 4 = .ok (.ifCond .eq 5, 3) := dAX6_halves_0.2.2.1
theorem dX6_halves_7 : decode cX6_halves 7 = .ok (.iconst (-1), 1) := dAX6_halves_0.2.2.2.1
theorem dX6_halves_8 : decode cX6_halves 8 = .ok (.ireturn, 1) := dAX6_halves_0.2.2.2.2.1
theorem dX6_halves_9 : decode cX6_halves 9 = .ok (.aload_n 0, 1) := dAX6_halves_0.2.2.2.2.2.1
theorem dX6_halves_10 : decode cX6_halves 10 = .ok (.getfield 47, 3) := dAX6_halves_0.2.2.2.2.2.2.1
theorem dX6_halves_13 : decode cX6_halves 13 = .ok (.aload_n 0, 1) := dAX6_halves_0.2.2.2.2.2.2.2
set_option maxRecDepth 100000 in
theorem dAX6_halves_1 : decode cX6_halves 14 = .ok (.getfield 19, 3) ∧ decode cX6_halves 17 = .ok (.aload_n 0, 1) ∧ decode cX6_halves 18 = .ok (.getfield 26, 3) ∧ decode cX6_halves 21 = .ok (.invokevirtual 211, 3) ∧ decode cX6_halves 24 = .ok (.aload_n 0, 1) ∧ decode cX6_halves 25 = .ok (.getfield 47, 3) ∧ decode cX6_halves 28 = .ok (.getfield 215, 3) ∧ decode cX6_halves 31 = .ok (.ireturn, 1) := by decide +kernel
theorem dX6_halves_14 : decode cX6_halves 14 = .ok (.getfield 19, 3) := dAX6_halves_1.1
theorem dX6_halves_17 : decode cX6_halves 17 = .ok (.aload_n 0, 1) := dAX6_halves_1.2.1
theorem dX6_halves_18 : decode cX6_halves 18 = .ok (.getfield 26, 3) := dAX6_halves_1.2.2.1
theorem dX6_halves_21 : decode cX6_halves 21 = .ok (.invokevirtual 211, 3) := dAX6_halves_1.2.2.2.1
theorem dX6_halves_24 : decode cX6_halves 24 = .ok (.aload_n 0, 1) := dAX6_halves_1.2.2.2.2.1
theorem dX6_halves_25 : decode cX6_halves 25 = .ok (.getfield 47, 3) := dAX6_halves_1.2.2.2.2.2.1
theorem dX6_halves_28 : decode cX6_halves 28 = .ok (.getfield 215, 3) := dAX6_halves_1.2.2.2.2.2.2.1
theorem dX6_halves_31 : decode cX6_halves 31 = .ok (.ireturn, 1) := dAX6_halves_1.2.2.2.2.2.2.2
set_option maxRecDepth 100000 in
theorem dAX6_handed_0 : decode cX6_handed 0 = .ok (.aload_n 0, 1) ∧ decode cX6_handed 1 = .ok (.iload_n 1, 1) ∧ decode cX6_handed 2 = .ok (.iload_n 2, 1) ∧ decode cX6_handed 3 = .ok (.invokevirtual 193, 3) ∧ decode cX6_handed 6 = .ok (.ifCond .eq 7, 3) ∧ decode cX6_handed 9 = .ok (.ldc2_w 147, 3) ∧ decode cX6_handed 12 = .ok (.lreturn, 1) ∧ decode cX6_handed 13 = .ok (.aload_n 0, 1) := by decide +kernel
theorem dX6_handed_0 : decode cX6_handed 0 = .ok (.aload_n 0, 1) := dAX6_handed_0.1
theorem dX6_handed_1 : decode cX6_handed 1 = .ok (.iload_n 1, 1) := dAX6_handed_0.2.1
theorem dX6_handed_2 : decode cX6_handed 2 = .ok (.iload_n 2, 1) := dAX6_handed_0.2.2.1
theorem dX6_handed_3 : decode cX6_handed 3 = .ok (.invokevirtual 193, 3) := dAX6_handed_0.2.2.2.1
theorem dX6_handed_6 : decode cX6_handed 6 = .ok (.ifCond .eq 7, 3) := dAX6_handed_0.2.2.2.2.1
theorem dX6_handed_9 : decode cX6_handed 9 = .ok (.ldc2_w 147, 3) := dAX6_handed_0.2.2.2.2.2.1
theorem dX6_handed_12 : decode cX6_handed 12 = .ok (.lreturn, 1) := dAX6_handed_0.2.2.2.2.2.2.1
theorem dX6_handed_13 : decode cX6_handed 13 = .ok (.aload_n 0, 1) := dAX6_handed_0.2.2.2.2.2.2.2
set_option maxRecDepth 100000 in
theorem dAX6_handed_1 : decode cX6_handed 14 = .ok (.getfield 47, 3) ∧ decode cX6_handed 17 = .ok (.aload_n 0, 1) ∧ decode cX6_handed 18 = .ok (.getfield 19, 3) ∧ decode cX6_handed 21 = .ok (.aload_n 0, 1) ∧ decode cX6_handed 22 = .ok (.getfield 26, 3) ∧ decode cX6_handed 25 = .ok (.iload_n 1, 1) ∧ decode cX6_handed 26 = .ok (.iload_n 2, 1) ∧ decode cX6_handed 27 = .ok (.invokevirtual 196, 3) := by decide +kernel
theorem dX6_handed_14 : decode cX6_handed 14 = .ok (.getfield 47, 3) := dAX6_handed_1.1
theorem dX6_handed_17 : decode cX6_handed 17 = .ok (.aload_n 0, 1) := dAX6_handed_1.2.1
theorem dX6_handed_18 : decode cX6_handed 18 = .ok (.getfield 19, 3) := dAX6_handed_1.2.2.1
theorem dX6_handed_21 : decode cX6_handed 21 = .ok (.aload_n 0, 1) := dAX6_handed_1.2.2.2.1
theorem dX6_handed_22 : decode cX6_handed 22 = .ok (.getfield 26, 3) := dAX6_handed_1.2.2.2.2.1
theorem dX6_handed_25 : decode cX6_handed 25 = .ok (.iload_n 1, 1) := dAX6_handed_1.2.2.2.2.2.1
theorem dX6_handed_26 : decode cX6_handed 26 = .ok (.iload_n 2, 1) := dAX6_handed_1.2.2.2.2.2.2.1
theorem dX6_handed_27 : decode cX6_handed 27 = .ok (.invokevirtual 196, 3) := dAX6_handed_1.2.2.2.2.2.2.2
set_option maxRecDepth 100000 in
theorem dAX6_handed_2 : decode cX6_handed 30 = .ok (.i2l, 1) ∧ decode cX6_handed 31 = .ok (.aload_n 0, 1) ∧ decode cX6_handed 32 = .ok (.getfield 19, 3) ∧ decode cX6_handed 35 = .ok (.getfield 159, 3) ∧ decode cX6_handed 38 = .ok (.i2l, 1) ∧ decode cX6_handed 39 = .ok (.iload_n 3, 1) ∧ decode cX6_handed 40 = .ok (.invokestatic 162, 3) ∧ decode cX6_handed 43 = .ok (.lreturn, 1) := by decide +kernel
theorem dX6_handed_30 : decode cX6_handed 30 = .ok (.i2l, 1) := dAX6_handed_2.1
theorem dX6_handed_31 : decode cX6_handed 31 = .ok (.aload_n 0, 1) := dAX6_handed_2.2.1
theorem dX6_handed_32 : decode cX6_handed 32 = .ok (.getfield 19, 3) := dAX6_handed_2.2.2.1
theorem dX6_handed_35 : decode cX6_handed 35 = .ok (.getfield 159, 3) := dAX6_handed_2.2.2.2.1
theorem dX6_handed_38 : decode cX6_handed 38 = .ok (.i2l, 1) := dAX6_handed_2.2.2.2.2.1
theorem dX6_handed_39 : decode cX6_handed 39 = .ok (.iload_n 3, 1) := dAX6_handed_2.2.2.2.2.2.1
theorem dX6_handed_40 : decode cX6_handed 40 = .ok (.invokestatic 162, 3) := dAX6_handed_2.2.2.2.2.2.2.1
theorem dX6_handed_43 : decode cX6_handed 43 = .ok (.lreturn, 1) := dAX6_handed_2.2.2.2.2.2.2.2
set_option maxRecDepth 100000 in
theorem dAX6_heard_0 : decode cX6_heard 0 = .ok (.aload_n 0, 1) ∧ decode cX6_heard 1 = .ok (.invokevirtual 140, 3) ∧ decode cX6_heard 4 = .ok (.ifCond .eq 5, 3) ∧ decode cX6_heard 7 = .ok (.iconst (-1), 1) ∧ decode cX6_heard 8 = .ok (.ireturn, 1) ∧ decode cX6_heard 9 = .ok (.aload_n 0, 1) ∧ decode cX6_heard 10 = .ok (.getfield 47, 3) ∧ decode cX6_heard 13 = .ok (.aload_n 0, 1) := by decide +kernel
theorem dX6_heard_0 : decode cX6_heard 0 = .ok (.aload_n 0, 1) := dAX6_heard_0.1
theorem dX6_heard_1 : decode cX6_heard 1 = .ok (.invokevirtual 140, 3) := dAX6_heard_0.2.1
theorem dX6_heard_4 : decode cX6_heard 4 = .ok (.ifCond .eq 5, 3) := dAX6_heard_0.2.2.1
theorem dX6_heard_7 : decode cX6_heard 7 = .ok (.iconst (-1), 1) := dAX6_heard_0.2.2.2.1
theorem dX6_heard_8 : decode cX6_heard 8 = .ok (.ireturn, 1) := dAX6_heard_0.2.2.2.2.1
theorem dX6_heard_9 : decode cX6_heard 9 = .ok (.aload_n 0, 1) := dAX6_heard_0.2.2.2.2.2.1
theorem dX6_heard_10 : decode cX6_heard 10 = .ok (.getfield 47, 3) := dAX6_heard_0.2.2.2.2.2.2.1
theorem dX6_heard_13 : decode cX6_heard 13 = .ok (.aload_n 0, 1) := dAX6_heard_0.2.2.2.2.2.2.2
set_option maxRecDepth 100000 in
theorem dAX6_heard_1 : decode cX6_heard 14 = .ok (.getfield 19, 3) ∧ decode cX6_heard 17 = .ok (.aload_n 0, 1) ∧ decode cX6_heard 18 = .ok (.getfield 26, 3) ∧ decode cX6_heard 21 = .ok (.invokevirtual 177, 3) ∧ decode cX6_heard 24 = .ok (.pop, 1) ∧ decode cX6_heard 25 = .ok (.aload_n 0, 1) ∧ decode cX6_heard 26 = .ok (.getfield 47, 3) ∧ decode cX6_heard 29 = .ok (.getfield 184, 3) := by decide +kernel
theorem dX6_heard_14 : decode cX6_heard 14 = .ok (.getfield 19, 3) := dAX6_heard_1.1
theorem dX6_heard_17 : decode cX6_heard 17 = .ok (.aload_n 0, 1) := dAX6_heard_1.2.1
theorem dX6_heard_18 : decode cX6_heard 18 = .ok (.getfield 26, 3) := dAX6_heard_1.2.2.1
theorem dX6_heard_21 : decode cX6_heard 21 = .ok (.invokevirtual 177, 3) := dAX6_heard_1.2.2.2.1
theorem dX6_heard_24 : decode cX6_heard 24 = .ok (.pop, 1) := dAX6_heard_1.2.2.2.2.1
theorem dX6_heard_25 : decode cX6_heard 25 = .ok (.aload_n 0, 1) := dAX6_heard_1.2.2.2.2.2.1
theorem dX6_heard_26 : decode cX6_heard 26 = .ok (.getfield 47, 3) := dAX6_heard_1.2.2.2.2.2.2.1
theorem dX6_heard_29 : decode cX6_heard 29 = .ok (.getfield 184, 3) := dAX6_heard_1.2.2.2.2.2.2.2
theorem dX6_heard_32 : decode cX6_heard 32 = .ok (.ireturn, 1) := by decide +kernel
set_option maxRecDepth 100000 in
theorem dAX6_heardAt_0 : decode cX6_heardAt 0 = .ok (.aload_n 0, 1) ∧ decode cX6_heardAt 1 = .ok (.invokevirtual 140, 3) ∧ decode cX6_heardAt 4 = .ok (.ifCond .eq 5, 3) ∧ decode cX6_heardAt 7 = .ok (.iconst (-1), 1) ∧ decode cX6_heardAt 8 = .ok (.ireturn, 1) ∧ decode cX6_heardAt 9 = .ok (.iload_n 1, 1) ∧ decode cX6_heardAt 10 = .ok (.ifCond .lt 22, 3) ∧ decode cX6_heardAt 13 = .ok (.iload_n 1, 1) := by decide +kernel
theorem dX6_heardAt_0 : decode cX6_heardAt 0 = .ok (.aload_n 0, 1) := dAX6_heardAt_0.1
theorem dX6_heardAt_1 : decode cX6_heardAt 1 = .ok (.invokevirtual 140, 3) := dAX6_heardAt_0.2.1
theorem dX6_heardAt_4 : decode cX6_heardAt 4 = .ok (.ifCond .eq 5, 3) := dAX6_heardAt_0.2.2.1
theorem dX6_heardAt_7 : decode cX6_heardAt 7 = .ok (.iconst (-1), 1) := dAX6_heardAt_0.2.2.2.1
theorem dX6_heardAt_8 : decode cX6_heardAt 8 = .ok (.ireturn, 1) := dAX6_heardAt_0.2.2.2.2.1
theorem dX6_heardAt_9 : decode cX6_heardAt 9 = .ok (.iload_n 1, 1) := dAX6_heardAt_0.2.2.2.2.2.1
theorem dX6_heardAt_10 : decode cX6_heardAt 10 = .ok (.ifCond .lt 22, 3) := dAX6_heardAt_0.2.2.2.2.2.2.1
theorem dX6_heardAt_13 : decode cX6_heardAt 13 = .ok (.iload_n 1, 1) := dAX6_heardAt_0.2.2.2.2.2.2.2
set_option maxRecDepth 100000 in
theorem dAX6_heardAt_1 : decode cX6_heardAt 14 = .ok (.aload_n 0, 1) ∧ decode cX6_heardAt 15 = .ok (.getfield 47, 3) ∧ decode cX6_heardAt 18 = .ok (.aload_n 0, 1) ∧ decode cX6_heardAt 19 = .ok (.getfield 19, 3) ∧ decode cX6_heardAt 22 = .ok (.aload_n 0, 1) ∧ decode cX6_heardAt 23 = .ok (.getfield 26, 3) ∧ decode cX6_heardAt 26 = .ok (.invokevirtual 177, 3) ∧ decode cX6_heardAt 29 = .ok (.if_icmp .lt 9, 3) := by decide +kernel
theorem dX6_heardAt_14 : decode cX6_heardAt 14 = .ok (.aload_n 0, 1) := dAX6_heardAt_1.1
theorem dX6_heardAt_15 : decode cX6_heardAt 15 = .ok (.getfield 47, 3) := dAX6_heardAt_1.2.1
theorem dX6_heardAt_18 : decode cX6_heardAt 18 = .ok (.aload_n 0, 1) := dAX6_heardAt_1.2.2.1
theorem dX6_heardAt_19 : decode cX6_heardAt 19 = .ok (.getfield 19, 3) := dAX6_heardAt_1.2.2.2.1
theorem dX6_heardAt_22 : decode cX6_heardAt 22 = .ok (.aload_n 0, 1) := dAX6_heardAt_1.2.2.2.2.1
theorem dX6_heardAt_23 : decode cX6_heardAt 23 = .ok (.getfield 26, 3) := dAX6_heardAt_1.2.2.2.2.2.1
theorem dX6_heardAt_26 : decode cX6_heardAt 26 = .ok (.invokevirtual 177, 3) := dAX6_heardAt_1.2.2.2.2.2.2.1
theorem dX6_heardAt_29 : decode cX6_heardAt 29 = .ok (.if_icmp .lt 9, 3) := dAX6_heardAt_1.2.2.2.2.2.2.2
set_option maxRecDepth 100000 in
theorem dAX6_heardAt_2 : decode cX6_heardAt 32 = .ok (.aload_n 0, 1) ∧ decode cX6_heardAt 33 = .ok (.iconst 1, 1) ∧ decode cX6_heardAt 34 = .ok (.invokevirtual 66, 3) ∧ decode cX6_heardAt 37 = .ok (.ireturn, 1) ∧ decode cX6_heardAt 38 = .ok (.aload_n 0, 1) ∧ decode cX6_heardAt 39 = .ok (.getfield 47, 3) ∧ decode cX6_heardAt 42 = .ok (.iload_n 1, 1) ∧ decode cX6_heardAt 43 = .ok (.invokevirtual 181, 3) := by decide +kernel
theorem dX6_heardAt_32 : decode cX6_heardAt 32 = .ok (.aload_n 0, 1) := dAX6_heardAt_2.1
theorem dX6_heardAt_33 : decode cX6_heardAt 33 = .ok (.iconst 1, 1) := dAX6_heardAt_2.2.1
theorem dX6_heardAt_34 : decode cX6_heardAt 34 = .ok (.invokevirtual 66, 3) := dAX6_heardAt_2.2.2.1
theorem dX6_heardAt_37 : decode cX6_heardAt 37 = .ok (.ireturn, 1) := dAX6_heardAt_2.2.2.2.1
theorem dX6_heardAt_38 : decode cX6_heardAt 38 = .ok (.aload_n 0, 1) := dAX6_heardAt_2.2.2.2.2.1
theorem dX6_heardAt_39 : decode cX6_heardAt 39 = .ok (.getfield 47, 3) := dAX6_heardAt_2.2.2.2.2.2.1
theorem dX6_heardAt_42 : decode cX6_heardAt 42 = .ok (.iload_n 1, 1) := dAX6_heardAt_2.2.2.2.2.2.2.1
theorem dX6_heardAt_43 : decode cX6_heardAt 43 = .ok (.invokevirtual 181, 3) := dAX6_heardAt_2.2.2.2.2.2.2.2
theorem dX6_heardAt_46 : decode cX6_heardAt 46 = .ok (.ireturn, 1) := by decide +kernel
set_option maxRecDepth 100000 in
theorem dAX6_hears_0 : decode cX6_hears 0 = .ok (.aload_n 0, 1) ∧ decode cX6_hears 1 = .ok (.invokevirtual 140, 3) ∧ decode cX6_hears 4 = .ok (.ifCond .eq 7, 3) ∧ decode cX6_hears 7 = .ok (.iconst (-1), 1) ∧ decode cX6_hears 8 = .ok (.goto 18, 3) ∧ decode cX6_hears 11 = .ok (.aload_n 0, 1) ∧ decode cX6_hears 12 = .ok (.getfield 47, 3) ∧ decode cX6_hears 15 = .ok (.aload_n 0, 1) := by decide +kernel
theorem dX6_hears_0 : decode cX6_hears 0 = .ok (.aload_n 0, 1) := dAX6_hears_0.1
theorem dX6_hears_1 : decode cX6_hears 1 = .ok (.invokevirtual 140, 3) := dAX6_hears_0.2.1
theorem dX6_hears_4 : decode cX6_hears 4 = .ok (.ifCond .eq 7, 3) := dAX6_hears_0.2.2.1
theorem dX6_hears_7 : decode cX6_hears 7 = .ok (.iconst (-1), 1) := dAX6_hears_0.2.2.2.1
theorem dX6_hears_8 : decode cX6_hears 8 = .ok (.goto 18, 3) := dAX6_hears_0.2.2.2.2.1
theorem dX6_hears_11 : decode cX6_hears 11 = .ok (.aload_n 0, 1) := dAX6_hears_0.2.2.2.2.2.1
theorem dX6_hears_12 : decode cX6_hears 12 = .ok (.getfield 47, 3) := dAX6_hears_0.2.2.2.2.2.2.1
theorem dX6_hears_15 : decode cX6_hears 15 = .ok (.aload_n 0, 1) := dAX6_hears_0.2.2.2.2.2.2.2
set_option maxRecDepth 100000 in
theorem dAX6_hears_1 : decode cX6_hears 16 = .ok (.getfield 19, 3) ∧ decode cX6_hears 19 = .ok (.aload_n 0, 1) ∧ decode cX6_hears 20 = .ok (.getfield 26, 3) ∧ decode cX6_hears 23 = .ok (.invokevirtual 177, 3) ∧ decode cX6_hears 26 = .ok (.ireturn, 1) := by decide +kernel
theorem dX6_hears_16 : decode cX6_hears 16 = .ok (.getfield 19, 3) := dAX6_hears_1.1
theorem dX6_hears_19 : decode cX6_hears 19 = .ok (.aload_n 0, 1) := dAX6_hears_1.2.1
theorem dX6_hears_20 : decode cX6_hears 20 = .ok (.getfield 26, 3) := dAX6_hears_1.2.2.1
theorem dX6_hears_23 : decode cX6_hears 23 = .ok (.invokevirtual 177, 3) := dAX6_hears_1.2.2.2.1
theorem dX6_hears_26 : decode cX6_hears 26 = .ok (.ireturn, 1) := dAX6_hears_1.2.2.2.2
set_option maxRecDepth 100000 in
theorem dAX6_hearsIn_0 : decode cX6_hearsIn 0 = .ok (.aload_n 0, 1) ∧ decode cX6_hearsIn 1 = .ok (.iload_n 1, 1) ∧ decode cX6_hearsIn 2 = .ok (.iload_n 2, 1) ∧ decode cX6_hearsIn 3 = .ok (.invokevirtual 193, 3) ∧ decode cX6_hearsIn 6 = .ok (.ifCond .eq 5, 3) ∧ decode cX6_hearsIn 9 = .ok (.iconst (-1), 1) ∧ decode cX6_hearsIn 10 = .ok (.ireturn, 1) ∧ decode cX6_hearsIn 11 = .ok (.aload_n 0, 1) := by decide +kernel
theorem dX6_hearsIn_0 : decode cX6_hearsIn 0 = .ok (.aload_n 0, 1) := dAX6_hearsIn_0.1
theorem dX6_hearsIn_1 : decode cX6_hearsIn 1 = .ok (.iload_n 1, 1) := dAX6_hearsIn_0.2.1
theorem dX6_hearsIn_2 : decode cX6_hearsIn 2 = .ok (.iload_n 2, 1) := dAX6_hearsIn_0.2.2.1
theorem dX6_hearsIn_3 : decode cX6_hearsIn 3 = .ok (.invokevirtual 193, 3) := dAX6_hearsIn_0.2.2.2.1
theorem dX6_hearsIn_6 : decode cX6_hearsIn 6 = .ok (.ifCond .eq 5, 3) := dAX6_hearsIn_0.2.2.2.2.1
theorem dX6_hearsIn_9 : decode cX6_hearsIn 9 = .ok (.iconst (-1), 1) := dAX6_hearsIn_0.2.2.2.2.2.1
theorem dX6_hearsIn_10 : decode cX6_hearsIn 10 = .ok (.ireturn, 1) := dAX6_hearsIn_0.2.2.2.2.2.2.1
theorem dX6_hearsIn_11 : decode cX6_hearsIn 11 = .ok (.aload_n 0, 1) := dAX6_hearsIn_0.2.2.2.2.2.2.2
set_option maxRecDepth 100000 in
theorem dAX6_hearsIn_1 : decode cX6_hearsIn 12 = .ok (.getfield 47, 3) ∧ decode cX6_hearsIn 15 = .ok (.aload_n 0, 1) ∧ decode cX6_hearsIn 16 = .ok (.getfield 19, 3) ∧ decode cX6_hearsIn 19 = .ok (.aload_n 0, 1) ∧ decode cX6_hearsIn 20 = .ok (.getfield 26, 3) ∧ decode cX6_hearsIn 23 = .ok (.iload_n 1, 1) ∧ decode cX6_hearsIn 24 = .ok (.iload_n 2, 1) ∧ decode cX6_hearsIn 25 = .ok (.invokevirtual 196, 3) := by decide +kernel
theorem dX6_hearsIn_12 : decode cX6_hearsIn 12 = .ok (.getfield 47, 3) := dAX6_hearsIn_1.1
theorem dX6_hearsIn_15 : decode cX6_hearsIn 15 = .ok (.aload_n 0, 1) := dAX6_hearsIn_1.2.1
theorem dX6_hearsIn_16 : decode cX6_hearsIn 16 = .ok (.getfield 19, 3) := dAX6_hearsIn_1.2.2.1
theorem dX6_hearsIn_19 : decode cX6_hearsIn 19 = .ok (.aload_n 0, 1) := dAX6_hearsIn_1.2.2.2.1
theorem dX6_hearsIn_20 : decode cX6_hearsIn 20 = .ok (.getfield 26, 3) := dAX6_hearsIn_1.2.2.2.2.1
theorem dX6_hearsIn_23 : decode cX6_hearsIn 23 = .ok (.iload_n 1, 1) := dAX6_hearsIn_1.2.2.2.2.2.1
theorem dX6_hearsIn_24 : decode cX6_hearsIn 24 = .ok (.iload_n 2, 1) := dAX6_hearsIn_1.2.2.2.2.2.2.1
theorem dX6_hearsIn_25 : decode cX6_hearsIn 25 = .ok (.invokevirtual 196, 3) := dAX6_hearsIn_1.2.2.2.2.2.2.2
set_option maxRecDepth 100000 in
theorem dAX6_hearsIn_2 : decode cX6_hearsIn 28 = .ok (.pop, 1) ∧ decode cX6_hearsIn 29 = .ok (.aload_n 0, 1) ∧ decode cX6_hearsIn 30 = .ok (.getfield 47, 3) ∧ decode cX6_hearsIn 33 = .ok (.getfield 200, 3) ∧ decode cX6_hearsIn 36 = .ok (.ireturn, 1) := by decide +kernel
theorem dX6_hearsIn_28 : decode cX6_hearsIn 28 = .ok (.pop, 1) := dAX6_hearsIn_2.1
theorem dX6_hearsIn_29 : decode cX6_hearsIn 29 = .ok (.aload_n 0, 1) := dAX6_hearsIn_2.2.1
theorem dX6_hearsIn_30 : decode cX6_hearsIn 30 = .ok (.getfield 47, 3) := dAX6_hearsIn_2.2.2.1
theorem dX6_hearsIn_33 : decode cX6_hearsIn 33 = .ok (.getfield 200, 3) := dAX6_hearsIn_2.2.2.2.1
theorem dX6_hearsIn_36 : decode cX6_hearsIn 36 = .ok (.ireturn, 1) := dAX6_hearsIn_2.2.2.2.2
set_option maxRecDepth 100000 in
theorem dAX6_image_0 : decode cX6_image 0 = .ok (.aload_n 0, 1) ∧ decode cX6_image 1 = .ok (.invokevirtual 140, 3) ∧ decode cX6_image 4 = .ok (.ifCond .eq 5, 3) ∧ decode cX6_image 7 = .ok (.iconst (-1), 1) ∧ decode cX6_image 8 = .ok (.ireturn, 1) ∧ decode cX6_image 9 = .ok (.aload_n 0, 1) ∧ decode cX6_image 10 = .ok (.getfield 97, 3) ∧ decode cX6_image 13 = .ok (.iconst 3, 1) := by decide +kernel
theorem dX6_image_0 : decode cX6_image 0 = .ok (.aload_n 0, 1) := dAX6_image_0.1
theorem dX6_image_1 : decode cX6_image 1 = .ok (.invokevirtual 140, 3) := dAX6_image_0.2.1
theorem dX6_image_4 : decode cX6_image 4 = .ok (.ifCond .eq 5, 3) := dAX6_image_0.2.2.1
theorem dX6_image_7 : decode cX6_image 7 = .ok (.iconst (-1), 1) := dAX6_image_0.2.2.2.1
theorem dX6_image_8 : decode cX6_image 8 = .ok (.ireturn, 1) := dAX6_image_0.2.2.2.2.1
theorem dX6_image_9 : decode cX6_image 9 = .ok (.aload_n 0, 1) := dAX6_image_0.2.2.2.2.2.1
theorem dX6_image_10 : decode cX6_image 10 = .ok (.getfield 97, 3) := dAX6_image_0.2.2.2.2.2.2.1
theorem dX6_image_13 : decode cX6_image 13 = .ok (.iconst 3, 1) := dAX6_image_0.2.2.2.2.2.2.2
set_option maxRecDepth 100000 in
theorem dAX6_image_1 : decode cX6_image 14 = .ok (.if_icmp .lt 9, 3) ∧ decode cX6_image 17 = .ok (.aload_n 0, 1) ∧ decode cX6_image 18 = .ok (.iconst 3, 1) ∧ decode cX6_image 19 = .ok (.invokevirtual 66, 3) ∧ decode cX6_image 22 = .ok (.ireturn, 1) ∧ decode cX6_image 23 = .ok (.aload_n 0, 1) ∧ decode cX6_image 24 = .ok (.getfield 33, 3) ∧ decode cX6_image 27 = .ok (.aload_n 0, 1) := by decide +kernel
theorem dX6_image_14 : decode cX6_image 14 = .ok (.if_icmp .lt 9, 3) := dAX6_image_1.1
theorem dX6_image_17 : decode cX6_image 17 = .ok (.aload_n 0, 1) := dAX6_image_1.2.1
theorem dX6_image_18 : decode cX6_image 18 = .ok (.iconst 3, 1) := dAX6_image_1.2.2.1
theorem dX6_image_19 : decode cX6_image 19 = .ok (.invokevirtual 66, 3) := dAX6_image_1.2.2.2.1
theorem dX6_image_22 : decode cX6_image 22 = .ok (.ireturn, 1) := dAX6_image_1.2.2.2.2.1
theorem dX6_image_23 : decode cX6_image 23 = .ok (.aload_n 0, 1) := dAX6_image_1.2.2.2.2.2.1
theorem dX6_image_24 : decode cX6_image 24 = .ok (.getfield 33, 3) := dAX6_image_1.2.2.2.2.2.2.1
theorem dX6_image_27 : decode cX6_image 27 = .ok (.aload_n 0, 1) := dAX6_image_1.2.2.2.2.2.2.2
set_option maxRecDepth 100000 in
theorem dAX6_image_2 : decode cX6_image 28 = .ok (.getfield 97, 3) ∧ decode cX6_image 31 = .ok (.aaload, 1) ∧ decode cX6_image 32 = .ok (.aload_n 0, 1) ∧ decode cX6_image 33 = .ok (.getfield 26, 3) ∧ decode cX6_image 36 = .ok (.invokevirtual 241, 3) ∧ decode cX6_image 39 = .ok (.aload_n 0, 1) ∧ decode cX6_image 40 = .ok (.dup, 1) ∧ decode cX6_image 41 = .ok (.getfield 97, 3) := by decide +kernel
theorem dX6_image_28 : decode cX6_image 28 = .ok (.getfield 97, 3) := dAX6_image_2.1
theorem dX6_image_31 : decode cX6_image 31 = .ok (.aaload, 1) := dAX6_image_2.2.1
theorem dX6_image_32 : decode cX6_image 32 = .ok (.aload_n 0, 1) := dAX6_image_2.2.2.1
theorem dX6_image_33 : decode cX6_image 33 = .ok (.getfield 26, 3) := dAX6_image_2.2.2.2.1
theorem dX6_image_36 : decode cX6_image 36 = .ok (.invokevirtual 241, 3) := dAX6_image_2.2.2.2.2.1
theorem dX6_image_39 : decode cX6_image 39 = .ok (.aload_n 0, 1) := dAX6_image_2.2.2.2.2.2.1
theorem dX6_image_40 : decode cX6_image 40 = .ok (.dup, 1) := dAX6_image_2.2.2.2.2.2.2.1
theorem dX6_image_41 : decode cX6_image 41 = .ok (.getfield 97, 3) := dAX6_image_2.2.2.2.2.2.2.2
set_option maxRecDepth 100000 in
theorem dAX6_image_3 : decode cX6_image 44 = .ok (.iconst 1, 1) ∧ decode cX6_image 45 = .ok (.iadd, 1) ∧ decode cX6_image 46 = .ok (.putfield 97, 3) ∧ decode cX6_image 49 = .ok (.aload_n 0, 1) ∧ decode cX6_image 50 = .ok (.getfield 97, 3) ∧ decode cX6_image 53 = .ok (.iconst 1, 1) ∧ decode cX6_image 54 = .ok (.isub, 1) ∧ decode cX6_image 55 = .ok (.ireturn, 1) := by decide +kernel
theorem dX6_image_44 : decode cX6_image 44 = .ok (.iconst 1, 1) := dAX6_image_3.1
theorem dX6_image_45 : decode cX6_image 45 = .ok (.iadd, 1) := dAX6_image_3.2.1
theorem dX6_image_46 : decode cX6_image 46 = .ok (.putfield 97, 3) := dAX6_image_3.2.2.1
theorem dX6_image_49 : decode cX6_image 49 = .ok (.aload_n 0, 1) := dAX6_image_3.2.2.2.1
theorem dX6_image_50 : decode cX6_image 50 = .ok (.getfield 97, 3) := dAX6_image_3.2.2.2.2.1
theorem dX6_image_53 : decode cX6_image 53 = .ok (.iconst 1, 1) := dAX6_image_3.2.2.2.2.2.1
theorem dX6_image_54 : decode cX6_image 54 = .ok (.isub, 1) := dAX6_image_3.2.2.2.2.2.2.1
theorem dX6_image_55 : decode cX6_image 55 = .ok (.ireturn, 1) := dAX6_image_3.2.2.2.2.2.2.2
set_option maxRecDepth 100000 in
theorem dAX6_inLowestTerms_0 : decode cX6_inLowestTerms 0 = .ok (.lload_n 0, 1) ∧ decode cX6_inLowestTerms 1 = .ok (.lload_n 2, 1) ∧ decode cX6_inLowestTerms 2 = .ok (.invokestatic 379, 3) ∧ decode cX6_inLowestTerms 5 = .ok (.lstore 5, 2) ∧ decode cX6_inLowestTerms 7 = .ok (.lload 5, 2) ∧ decode cX6_inLowestTerms 9 = .ok (.lconst 0, 1) ∧ decode cX6_inLowestTerms 10 = .ok (.lcmp, 1) ∧ decode cX6_inLowestTerms 11 = .ok (.ifCond .gt 7, 3) := by decide +kernel
theorem dX6_inLowestTerms_0 : decode cX6_inLowestTerms 0 = .ok (.lload_n 0, 1) := dAX6_inLowestTerms_0.1
theorem dX6_inLowestTerms_1 : decode cX6_inLowestTerms 1 = .ok (.lload_n 2, 1) := dAX6_inLowestTerms_0.2.1
theorem dX6_inLowestTerms_2 : decode cX6_inLowestTerms 2 = .ok (.invokestatic 379, 3) := dAX6_inLowestTerms_0.2.2.1
theorem dX6_inLowestTerms_5 : decode cX6_inLowestTerms 5 = .ok (.lstore 5, 2) := dAX6_inLowestTerms_0.2.2.2.1
theorem dX6_inLowestTerms_7 : decode cX6_inLowestTerms 7 = .ok (.lload 5, 2) := dAX6_inLowestTerms_0.2.2.2.2.1
theorem dX6_inLowestTerms_9 : decode cX6_inLowestTerms 9 = .ok (.lconst 0, 1) := dAX6_inLowestTerms_0.2.2.2.2.2.1
theorem dX6_inLowestTerms_10 : decode cX6_inLowestTerms 10 = .ok (.lcmp, 1) := dAX6_inLowestTerms_0.2.2.2.2.2.2.1
theorem dX6_inLowestTerms_11 : decode cX6_inLowestTerms 11 = .ok (.ifCond .gt 7, 3) := dAX6_inLowestTerms_0.2.2.2.2.2.2.2
set_option maxRecDepth 100000 in
theorem dAX6_inLowestTerms_1 : decode cX6_inLowestTerms 14 = .ok (.ldc2_w 147, 3) ∧ decode cX6_inLowestTerms 17 = .ok (.lreturn, 1) ∧ decode cX6_inLowestTerms 18 = .ok (.iload 4, 2) ∧ decode cX6_inLowestTerms 20 = .ok (.ifCond .eq 7, 3) ∧ decode cX6_inLowestTerms 23 = .ok (.lload_n 2, 1) ∧ decode cX6_inLowestTerms 24 = .ok (.goto 4, 3) ∧ decode cX6_inLowestTerms 27 = .ok (.lload_n 0, 1) ∧ decode cX6_inLowestTerms 28 = .ok (.lload 5, 2) := by decide +kernel
theorem dX6_inLowestTerms_14 : decode cX6_inLowestTerms 14 = .ok (.ldc2_w 147, 3) := dAX6_inLowestTerms_1.1
theorem dX6_inLowestTerms_17 : decode cX6_inLowestTerms 17 = .ok (.lreturn, 1) := dAX6_inLowestTerms_1.2.1
theorem dX6_inLowestTerms_18 : decode cX6_inLowestTerms 18 = .ok (.iload 4, 2) := dAX6_inLowestTerms_1.2.2.1
theorem dX6_inLowestTerms_20 : decode cX6_inLowestTerms 20 = .ok (.ifCond .eq 7, 3) := dAX6_inLowestTerms_1.2.2.2.1
theorem dX6_inLowestTerms_23 : decode cX6_inLowestTerms 23 = .ok (.lload_n 2, 1) := dAX6_inLowestTerms_1.2.2.2.2.1
theorem dX6_inLowestTerms_24 : decode cX6_inLowestTerms 24 = .ok (.goto 4, 3) := dAX6_inLowestTerms_1.2.2.2.2.2.1
theorem dX6_inLowestTerms_27 : decode cX6_inLowestTerms 27 = .ok (.lload_n 0, 1) := dAX6_inLowestTerms_1.2.2.2.2.2.2.1
theorem dX6_inLowestTerms_28 : decode cX6_inLowestTerms 28 = .ok (.lload 5, 2) := dAX6_inLowestTerms_1.2.2.2.2.2.2.2
set_option maxRecDepth 100000 in
theorem dAX6_inLowestTerms_2 : decode cX6_inLowestTerms 30 = .ok (.ldiv, 1) ∧ decode cX6_inLowestTerms 31 = .ok (.lreturn, 1) := by decide +kernel
theorem dX6_inLowestTerms_30 : decode cX6_inLowestTerms 30 = .ok (.ldiv, 1) := dAX6_inLowestTerms_2.1
theorem dX6_inLowestTerms_31 : decode cX6_inLowestTerms 31 = .ok (.lreturn, 1) := dAX6_inLowestTerms_2.2
set_option maxRecDepth 100000 in
theorem dAX6_init_0 : decode cX6_init 0 = .ok (.aload_n 0, 1) ∧ decode cX6_init 1 = .ok (.invokespecial 1, 3) ∧ decode cX6_init 4 = .ok (.aload_n 0, 1) ∧ decode cX6_init 5 = .ok (.new 7, 3) ∧ decode cX6_init 8 = .ok (.dup, 1) ∧ decode cX6_init 9 = .ok (.invokespecial 9, 3) ∧ decode cX6_init 12 = .ok (.putfield 10, 3) ∧ decode cX6_init 15 = .ok (.aload_n 0, 1) := by decide +kernel
theorem dX6_init_0 : decode cX6_init 0 = .ok (.aload_n 0, 1) := dAX6_init_0.1
theorem dX6_init_1 : decode cX6_init 1 = .ok (.invokespecial 1, 3) := dAX6_init_0.2.1
theorem dX6_init_4 : decode cX6_init 4 = .ok (.aload_n 0, 1) := dAX6_init_0.2.2.1
theorem dX6_init_5 : decode cX6_init 5 = .ok (.new 7, 3) := dAX6_init_0.2.2.2.1
theorem dX6_init_8 : decode cX6_init 8 = .ok (.dup, 1) := dAX6_init_0.2.2.2.2.1
theorem dX6_init_9 : decode cX6_init 9 = .ok (.invokespecial 9, 3) := dAX6_init_0.2.2.2.2.2.1
theorem dX6_init_12 : decode cX6_init 12 = .ok (.putfield 10, 3) := dAX6_init_0.2.2.2.2.2.2.1
theorem dX6_init_15 : decode cX6_init 15 = .ok (.aload_n 0, 1) := dAX6_init_0.2.2.2.2.2.2.2
set_option maxRecDepth 100000 in
theorem dAX6_init_1 : decode cX6_init 16 = .ok (.new 16, 3) ∧ decode cX6_init 19 = .ok (.dup, 1) ∧ decode cX6_init 20 = .ok (.invokespecial 18, 3) ∧ decode cX6_init 23 = .ok (.putfield 19, 3) ∧ decode cX6_init 26 = .ok (.aload_n 0, 1) ∧ decode cX6_init 27 = .ok (.new 23, 3) ∧ decode cX6_init 30 = .ok (.dup, 1) ∧ decode cX6_init 31 = .ok (.invokespecial 25, 3) := by decide +kernel
theorem dX6_init_16 : decode cX6_init 16 = .ok (.new 16, 3) := dAX6_init_1.1
theorem dX6_init_19 : decode cX6_init 19 = .ok (.dup, 1) := dAX6_init_1.2.1
theorem dX6_init_20 : decode cX6_init 20 = .ok (.invokespecial 18, 3) := dAX6_init_1.2.2.1
theorem dX6_init_23 : decode cX6_init 23 = .ok (.putfield 19, 3) := dAX6_init_1.2.2.2.1
theorem dX6_init_26 : decode cX6_init 26 = .ok (.aload_n 0, 1) := dAX6_init_1.2.2.2.2.1
theorem dX6_init_27 : decode cX6_init 27 = .ok (.new 23, 3) := dAX6_init_1.2.2.2.2.2.1
theorem dX6_init_30 : decode cX6_init 30 = .ok (.dup, 1) := dAX6_init_1.2.2.2.2.2.2.1
theorem dX6_init_31 : decode cX6_init 31 = .ok (.invokespecial 25, 3) := dAX6_init_1.2.2.2.2.2.2.2
set_option maxRecDepth 100000 in
theorem dAX6_init_2 : decode cX6_init 34 = .ok (.putfield 26, 3) ∧ decode cX6_init 37 = .ok (.aload_n 0, 1) ∧ decode cX6_init 38 = .ok (.new 23, 3) ∧ decode cX6_init 41 = .ok (.dup, 1) ∧ decode cX6_init 42 = .ok (.invokespecial 25, 3) ∧ decode cX6_init 45 = .ok (.putfield 30, 3) ∧ decode cX6_init 48 = .ok (.aload_n 0, 1) ∧ decode cX6_init 49 = .ok (.iconst 3, 1) := by decide +kernel
theorem dX6_init_34 : decode cX6_init 34 = .ok (.putfield 26, 3) := dAX6_init_2.1
theorem dX6_init_37 : decode cX6_init 37 = .ok (.aload_n 0, 1) := dAX6_init_2.2.1
theorem dX6_init_38 : decode cX6_init 38 = .ok (.new 23, 3) := dAX6_init_2.2.2.1
theorem dX6_init_41 : decode cX6_init 41 = .ok (.dup, 1) := dAX6_init_2.2.2.2.1
theorem dX6_init_42 : decode cX6_init 42 = .ok (.invokespecial 25, 3) := dAX6_init_2.2.2.2.2.1
theorem dX6_init_45 : decode cX6_init 45 = .ok (.putfield 30, 3) := dAX6_init_2.2.2.2.2.2.1
theorem dX6_init_48 : decode cX6_init 48 = .ok (.aload_n 0, 1) := dAX6_init_2.2.2.2.2.2.2.1
theorem dX6_init_49 : decode cX6_init 49 = .ok (.iconst 3, 1) := dAX6_init_2.2.2.2.2.2.2.2
set_option maxRecDepth 100000 in
theorem dAX6_init_3 : decode cX6_init 50 = .ok (.anewarray 23, 3) ∧ decode cX6_init 53 = .ok (.putfield 33, 3) ∧ decode cX6_init 56 = .ok (.aload_n 0, 1) ∧ decode cX6_init 57 = .ok (.new 37, 3) ∧ decode cX6_init 60 = .ok (.dup, 1) ∧ decode cX6_init 61 = .ok (.invokespecial 39, 3) ∧ decode cX6_init 64 = .ok (.putfield 40, 3) ∧ decode cX6_init 67 = .ok (.aload_n 0, 1) := by decide +kernel
theorem dX6_init_50 : decode cX6_init 50 = .ok (.anewarray 23, 3) := dAX6_init_3.1
theorem dX6_init_53 : decode cX6_init 53 = .ok (.putfield 33, 3) := dAX6_init_3.2.1
theorem dX6_init_56 : decode cX6_init 56 = .ok (.aload_n 0, 1) := dAX6_init_3.2.2.1
theorem dX6_init_57 : decode cX6_init 57 = .ok (.new 37, 3) := dAX6_init_3.2.2.2.1
theorem dX6_init_60 : decode cX6_init 60 = .ok (.dup, 1) := dAX6_init_3.2.2.2.2.1
theorem dX6_init_61 : decode cX6_init 61 = .ok (.invokespecial 39, 3) := dAX6_init_3.2.2.2.2.2.1
theorem dX6_init_64 : decode cX6_init 64 = .ok (.putfield 40, 3) := dAX6_init_3.2.2.2.2.2.2.1
theorem dX6_init_67 : decode cX6_init 67 = .ok (.aload_n 0, 1) := dAX6_init_3.2.2.2.2.2.2.2
set_option maxRecDepth 100000 in
theorem dAX6_init_4 : decode cX6_init 68 = .ok (.new 44, 3) ∧ decode cX6_init 71 = .ok (.dup, 1) ∧ decode cX6_init 72 = .ok (.invokespecial 46, 3) ∧ decode cX6_init 75 = .ok (.putfield 47, 3) ∧ decode cX6_init 78 = .ok (.aload_n 0, 1) ∧ decode cX6_init 79 = .ok (.new 51, 3) ∧ decode cX6_init 82 = .ok (.dup, 1) ∧ decode cX6_init 83 = .ok (.invokespecial 53, 3) := by decide +kernel
theorem dX6_init_68 : decode cX6_init 68 = .ok (.new 44, 3) := dAX6_init_4.1
theorem dX6_init_71 : decode cX6_init 71 = .ok (.dup, 1) := dAX6_init_4.2.1
theorem dX6_init_72 : decode cX6_init 72 = .ok (.invokespecial 46, 3) := dAX6_init_4.2.2.1
theorem dX6_init_75 : decode cX6_init 75 = .ok (.putfield 47, 3) := dAX6_init_4.2.2.2.1
theorem dX6_init_78 : decode cX6_init 78 = .ok (.aload_n 0, 1) := dAX6_init_4.2.2.2.2.1
theorem dX6_init_79 : decode cX6_init 79 = .ok (.new 51, 3) := dAX6_init_4.2.2.2.2.2.1
theorem dX6_init_82 : decode cX6_init 82 = .ok (.dup, 1) := dAX6_init_4.2.2.2.2.2.2.1
theorem dX6_init_83 : decode cX6_init 83 = .ok (.invokespecial 53, 3) := dAX6_init_4.2.2.2.2.2.2.2
set_option maxRecDepth 100000 in
theorem dAX6_init_5 : decode cX6_init 86 = .ok (.putfield 54, 3) ∧ decode cX6_init 89 = .ok (.iconst 0, 1) ∧ decode cX6_init 90 = .ok (.istore_n 1, 1) ∧ decode cX6_init 91 = .ok (.iload_n 1, 1) ∧ decode cX6_init 92 = .ok (.iconst 3, 1) ∧ decode cX6_init 93 = .ok (.if_icmp .ge 22, 3) ∧ decode cX6_init 96 = .ok (.aload_n 0, 1) ∧ decode cX6_init 97 = .ok (.getfield 33, 3) := by decide +kernel
theorem dX6_init_86 : decode cX6_init 86 = .ok (.putfield 54, 3) := dAX6_init_5.1
theorem dX6_init_89 : decode cX6_init 89 = .ok (.iconst 0, 1) := dAX6_init_5.2.1
theorem dX6_init_90 : decode cX6_init 90 = .ok (.istore_n 1, 1) := dAX6_init_5.2.2.1
theorem dX6_init_91 : decode cX6_init 91 = .ok (.iload_n 1, 1) := dAX6_init_5.2.2.2.1
theorem dX6_init_92 : decode cX6_init 92 = .ok (.iconst 3, 1) := dAX6_init_5.2.2.2.2.1
theorem dX6_init_93 : decode cX6_init 93 = .ok (.if_icmp .ge 22, 3) := dAX6_init_5.2.2.2.2.2.1
theorem dX6_init_96 : decode cX6_init 96 = .ok (.aload_n 0, 1) := dAX6_init_5.2.2.2.2.2.2.1
theorem dX6_init_97 : decode cX6_init 97 = .ok (.getfield 33, 3) := dAX6_init_5.2.2.2.2.2.2.2
set_option maxRecDepth 100000 in
theorem dAX6_init_6 : decode cX6_init 100 = .ok (.iload_n 1, 1) ∧ decode cX6_init 101 = .ok (.new 23, 3) ∧ decode cX6_init 104 = .ok (.dup, 1) ∧ decode cX6_init 105 = .ok (.invokespecial 25, 3) ∧ decode cX6_init 108 = .ok (.aastore, 1) ∧ decode cX6_init 109 = .ok (.iinc 1 1, 3) ∧ decode cX6_init 112 = .ok (.goto (-21), 3) ∧ decode cX6_init 115 = .ok (.return_, 1) := by decide +kernel
theorem dX6_init_100 : decode cX6_init 100 = .ok (.iload_n 1, 1) := dAX6_init_6.1
theorem dX6_init_101 : decode cX6_init 101 = .ok (.new 23, 3) := dAX6_init_6.2.1
theorem dX6_init_104 : decode cX6_init 104 = .ok (.dup, 1) := dAX6_init_6.2.2.1
theorem dX6_init_105 : decode cX6_init 105 = .ok (.invokespecial 25, 3) := dAX6_init_6.2.2.2.1
theorem dX6_init_108 : decode cX6_init 108 = .ok (.aastore, 1) := dAX6_init_6.2.2.2.2.1
theorem dX6_init_109 : decode cX6_init 109 = .ok (.iinc 1 1, 3) := dAX6_init_6.2.2.2.2.2.1
theorem dX6_init_112 : decode cX6_init 112 = .ok (.goto (-21), 3) := dAX6_init_6.2.2.2.2.2.2.1
theorem dX6_init_115 : decode cX6_init 115 = .ok (.return_, 1) := dAX6_init_6.2.2.2.2.2.2.2
set_option maxRecDepth 100000 in
theorem dAX6_isRest_0 : decode cX6_isRest 0 = .ok (.iload_n 0, 1) ∧ decode cX6_isRest 1 = .ok (.iload_n 1, 1) ∧ decode cX6_isRest 2 = .ok (.iload_n 2, 1) ∧ decode cX6_isRest 3 = .ok (.invokestatic 326, 3) ∧ decode cX6_isRest 6 = .ok (.iload_n 0, 1) ∧ decode cX6_isRest 7 = .ok (.iload_n 1, 1) ∧ decode cX6_isRest 8 = .ok (.ifCond .ne 7, 3) ∧ decode cX6_isRest 11 = .ok (.iconst 1, 1) := by decide +kernel
theorem dX6_isRest_0 : decode cX6_isRest 0 = .ok (.iload_n 0, 1) := dAX6_isRest_0.1
theorem dX6_isRest_1 : decode cX6_isRest 1 = .ok (.iload_n 1, 1) := dAX6_isRest_0.2.1
theorem dX6_isRest_2 : decode cX6_isRest 2 = .ok (.iload_n 2, 1) := dAX6_isRest_0.2.2.1
theorem dX6_isRest_3 : decode cX6_isRest 3 = .ok (.invokestatic 326, 3) := dAX6_isRest_0.2.2.2.1
theorem dX6_isRest_6 : decode cX6_isRest 6 = .ok (.iload_n 0, 1) := dAX6_isRest_0.2.2.2.2.1
theorem dX6_isRest_7 : decode cX6_isRest 7 = .ok (.iload_n 1, 1) := dAX6_isRest_0.2.2.2.2.2.1
theorem dX6_isRest_8 : decode cX6_isRest 8 = .ok (.ifCond .ne 7, 3) := dAX6_isRest_0.2.2.2.2.2.2.1
theorem dX6_isRest_11 : decode cX6_isRest 11 = .ok (.iconst 1, 1) := dAX6_isRest_0.2.2.2.2.2.2.2
set_option maxRecDepth 100000 in
theorem dAX6_isRest_1 : decode cX6_isRest 12 = .ok (.goto 4, 3) ∧ decode cX6_isRest 15 = .ok (.iconst 0, 1) ∧ decode cX6_isRest 16 = .ok (.iload_n 2, 1) ∧ decode cX6_isRest 17 = .ok (.invokestatic 326, 3) ∧ decode cX6_isRest 20 = .ok (.if_icmp .lt 30, 3) ∧ decode cX6_isRest 23 = .ok (.iload_n 0, 1) ∧ decode cX6_isRest 24 = .ok (.iload_n 2, 1) ∧ decode cX6_isRest 25 = .ok (.iload_n 1, 1) := by decide +kernel
theorem dX6_isRest_12 : decode cX6_isRest 12 = .ok (.goto 4, 3) := dAX6_isRest_1.1
theorem dX6_isRest_15 : decode cX6_isRest 15 = .ok (.iconst 0, 1) := dAX6_isRest_1.2.1
theorem dX6_isRest_16 : decode cX6_isRest 16 = .ok (.iload_n 2, 1) := dAX6_isRest_1.2.2.1
theorem dX6_isRest_17 : decode cX6_isRest 17 = .ok (.invokestatic 326, 3) := dAX6_isRest_1.2.2.2.1
theorem dX6_isRest_20 : decode cX6_isRest 20 = .ok (.if_icmp .lt 30, 3) := dAX6_isRest_1.2.2.2.2.1
theorem dX6_isRest_23 : decode cX6_isRest 23 = .ok (.iload_n 0, 1) := dAX6_isRest_1.2.2.2.2.2.1
theorem dX6_isRest_24 : decode cX6_isRest 24 = .ok (.iload_n 2, 1) := dAX6_isRest_1.2.2.2.2.2.2.1
theorem dX6_isRest_25 : decode cX6_isRest 25 = .ok (.iload_n 1, 1) := dAX6_isRest_1.2.2.2.2.2.2.2
set_option maxRecDepth 100000 in
theorem dAX6_isRest_2 : decode cX6_isRest 26 = .ok (.invokestatic 326, 3) ∧ decode cX6_isRest 29 = .ok (.iload_n 0, 1) ∧ decode cX6_isRest 30 = .ok (.iload_n 2, 1) ∧ decode cX6_isRest 31 = .ok (.ifCond .ne 7, 3) ∧ decode cX6_isRest 34 = .ok (.iconst 1, 1) ∧ decode cX6_isRest 35 = .ok (.goto 4, 3) ∧ decode cX6_isRest 38 = .ok (.iconst 0, 1) ∧ decode cX6_isRest 39 = .ok (.iload_n 1, 1) := by decide +kernel
theorem dX6_isRest_26 : decode cX6_isRest 26 = .ok (.invokestatic 326, 3) := dAX6_isRest_2.1
theorem dX6_isRest_29 : decode cX6_isRest 29 = .ok (.iload_n 0, 1) := dAX6_isRest_2.2.1
theorem dX6_isRest_30 : decode cX6_isRest 30 = .ok (.iload_n 2, 1) := dAX6_isRest_2.2.2.1
theorem dX6_isRest_31 : decode cX6_isRest 31 = .ok (.ifCond .ne 7, 3) := dAX6_isRest_2.2.2.2.1
theorem dX6_isRest_34 : decode cX6_isRest 34 = .ok (.iconst 1, 1) := dAX6_isRest_2.2.2.2.2.1
theorem dX6_isRest_35 : decode cX6_isRest 35 = .ok (.goto 4, 3) := dAX6_isRest_2.2.2.2.2.2.1
theorem dX6_isRest_38 : decode cX6_isRest 38 = .ok (.iconst 0, 1) := dAX6_isRest_2.2.2.2.2.2.2.1
theorem dX6_isRest_39 : decode cX6_isRest 39 = .ok (.iload_n 1, 1) := dAX6_isRest_2.2.2.2.2.2.2.2
set_option maxRecDepth 100000 in
theorem dAX6_isRest_3 : decode cX6_isRest 40 = .ok (.invokestatic 326, 3) ∧ decode cX6_isRest 43 = .ok (.if_icmp .lt 7, 3) ∧ decode cX6_isRest 46 = .ok (.iconst 1, 1) ∧ decode cX6_isRest 47 = .ok (.goto 4, 3) ∧ decode cX6_isRest 50 = .ok (.iconst 0, 1) ∧ decode cX6_isRest 51 = .ok (.ireturn, 1) := by decide +kernel
theorem dX6_isRest_40 : decode cX6_isRest 40 = .ok (.invokestatic 326, 3) := dAX6_isRest_3.1
theorem dX6_isRest_43 : decode cX6_isRest 43 = .ok (.if_icmp .lt 7, 3) := dAX6_isRest_3.2.1
theorem dX6_isRest_46 : decode cX6_isRest 46 = .ok (.iconst 1, 1) := dAX6_isRest_3.2.2.1
theorem dX6_isRest_47 : decode cX6_isRest 47 = .ok (.goto 4, 3) := dAX6_isRest_3.2.2.2.1
theorem dX6_isRest_50 : decode cX6_isRest 50 = .ok (.iconst 0, 1) := dAX6_isRest_3.2.2.2.2.1
theorem dX6_isRest_51 : decode cX6_isRest 51 = .ok (.ireturn, 1) := dAX6_isRest_3.2.2.2.2.2
set_option maxRecDepth 100000 in
theorem dAX6_lacksBounds_0 : decode cX6_lacksBounds 0 = .ok (.aload_n 0, 1) ∧ decode cX6_lacksBounds 1 = .ok (.invokevirtual 140, 3) ∧ decode cX6_lacksBounds 4 = .ok (.ifCond .eq 5, 3) ∧ decode cX6_lacksBounds 7 = .ok (.iconst 1, 1) ∧ decode cX6_lacksBounds 8 = .ok (.ireturn, 1) ∧ decode cX6_lacksBounds 9 = .ok (.iload_n 1, 1) ∧ decode cX6_lacksBounds 10 = .ok (.ifCond .lt 14, 3) ∧ decode cX6_lacksBounds 13 = .ok (.iload_n 2, 1) := by decide +kernel
theorem dX6_lacksBounds_0 : decode cX6_lacksBounds 0 = .ok (.aload_n 0, 1) := dAX6_lacksBounds_0.1
theorem dX6_lacksBounds_1 : decode cX6_lacksBounds 1 = .ok (.invokevirtual 140, 3) := dAX6_lacksBounds_0.2.1
theorem dX6_lacksBounds_4 : decode cX6_lacksBounds 4 = .ok (.ifCond .eq 5, 3) := dAX6_lacksBounds_0.2.2.1
theorem dX6_lacksBounds_7 : decode cX6_lacksBounds 7 = .ok (.iconst 1, 1) := dAX6_lacksBounds_0.2.2.2.1
theorem dX6_lacksBounds_8 : decode cX6_lacksBounds 8 = .ok (.ireturn, 1) := dAX6_lacksBounds_0.2.2.2.2.1
theorem dX6_lacksBounds_9 : decode cX6_lacksBounds 9 = .ok (.iload_n 1, 1) := dAX6_lacksBounds_0.2.2.2.2.2.1
theorem dX6_lacksBounds_10 : decode cX6_lacksBounds 10 = .ok (.ifCond .lt 14, 3) := dAX6_lacksBounds_0.2.2.2.2.2.2.1
theorem dX6_lacksBounds_13 : decode cX6_lacksBounds 13 = .ok (.iload_n 2, 1) := dAX6_lacksBounds_0.2.2.2.2.2.2.2
set_option maxRecDepth 100000 in
theorem dAX6_lacksBounds_1 : decode cX6_lacksBounds 14 = .ok (.bipush 99, 2) ∧ decode cX6_lacksBounds 16 = .ok (.if_icmp .gt 8, 3) ∧ decode cX6_lacksBounds 19 = .ok (.iload_n 1, 1) ∧ decode cX6_lacksBounds 20 = .ok (.iload_n 2, 1) ∧ decode cX6_lacksBounds 21 = .ok (.if_icmp .lt 8, 3) ∧ decode cX6_lacksBounds 24 = .ok (.aload_n 0, 1) ∧ decode cX6_lacksBounds 25 = .ok (.iconst 2, 1) ∧ decode cX6_lacksBounds 26 = .ok (.putfield 100, 3) := by decide +kernel
theorem dX6_lacksBounds_14 : decode cX6_lacksBounds 14 = .ok (.bipush 99, 2) := dAX6_lacksBounds_1.1
theorem dX6_lacksBounds_16 : decode cX6_lacksBounds 16 = .ok (.if_icmp .gt 8, 3) := dAX6_lacksBounds_1.2.1
theorem dX6_lacksBounds_19 : decode cX6_lacksBounds 19 = .ok (.iload_n 1, 1) := dAX6_lacksBounds_1.2.2.1
theorem dX6_lacksBounds_20 : decode cX6_lacksBounds 20 = .ok (.iload_n 2, 1) := dAX6_lacksBounds_1.2.2.2.1
theorem dX6_lacksBounds_21 : decode cX6_lacksBounds 21 = .ok (.if_icmp .lt 8, 3) := dAX6_lacksBounds_1.2.2.2.2.1
theorem dX6_lacksBounds_24 : decode cX6_lacksBounds 24 = .ok (.aload_n 0, 1) := dAX6_lacksBounds_1.2.2.2.2.2.1
theorem dX6_lacksBounds_25 : decode cX6_lacksBounds 25 = .ok (.iconst 2, 1) := dAX6_lacksBounds_1.2.2.2.2.2.2.1
theorem dX6_lacksBounds_26 : decode cX6_lacksBounds 26 = .ok (.putfield 100, 3) := dAX6_lacksBounds_1.2.2.2.2.2.2.2
set_option maxRecDepth 100000 in
theorem dAX6_lacksBounds_2 : decode cX6_lacksBounds 29 = .ok (.aload_n 0, 1) ∧ decode cX6_lacksBounds 30 = .ok (.getfield 100, 3) ∧ decode cX6_lacksBounds 33 = .ok (.ifCond .eq 7, 3) ∧ decode cX6_lacksBounds 36 = .ok (.iconst 1, 1) ∧ decode cX6_lacksBounds 37 = .ok (.goto 4, 3) ∧ decode cX6_lacksBounds 40 = .ok (.iconst 0, 1) ∧ decode cX6_lacksBounds 41 = .ok (.ireturn, 1) := by decide +kernel
theorem dX6_lacksBounds_29 : decode cX6_lacksBounds 29 = .ok (.aload_n 0, 1) := dAX6_lacksBounds_2.1
theorem dX6_lacksBounds_30 : decode cX6_lacksBounds 30 = .ok (.getfield 100, 3) := dAX6_lacksBounds_2.2.1
theorem dX6_lacksBounds_33 : decode cX6_lacksBounds 33 = .ok (.ifCond .eq 7, 3) := dAX6_lacksBounds_2.2.2.1
theorem dX6_lacksBounds_36 : decode cX6_lacksBounds 36 = .ok (.iconst 1, 1) := dAX6_lacksBounds_2.2.2.2.1
theorem dX6_lacksBounds_37 : decode cX6_lacksBounds 37 = .ok (.goto 4, 3) := dAX6_lacksBounds_2.2.2.2.2.1
theorem dX6_lacksBounds_40 : decode cX6_lacksBounds 40 = .ok (.iconst 0, 1) := dAX6_lacksBounds_2.2.2.2.2.2.1
theorem dX6_lacksBounds_41 : decode cX6_lacksBounds 41 = .ok (.ireturn, 1) := dAX6_lacksBounds_2.2.2.2.2.2.2
set_option maxRecDepth 100000 in
theorem dAX6_lacksCourt_0 : decode cX6_lacksCourt 0 = .ok (.aload_n 0, 1) ∧ decode cX6_lacksCourt 1 = .ok (.aload_n 0, 1) ∧ decode cX6_lacksCourt 2 = .ok (.getfield 19, 3) ∧ decode cX6_lacksCourt 5 = .ok (.getfield 103, 3) ∧ decode cX6_lacksCourt 8 = .ok (.ifCond .le 7, 3) ∧ decode cX6_lacksCourt 11 = .ok (.iconst 0, 1) ∧ decode cX6_lacksCourt 12 = .ok (.goto 4, 3) ∧ decode cX6_lacksCourt 15 = .ok (.iconst 1, 1) := by decide +kernel
theorem dX6_lacksCourt_0 : decode cX6_lacksCourt 0 = .ok (.aload_n 0, 1) := dAX6_lacksCourt_0.1
theorem dX6_lacksCourt_1 : decode cX6_lacksCourt 1 = .ok (.aload_n 0, 1) := dAX6_lacksCourt_0.2.1
theorem dX6_lacksCourt_2 : decode cX6_lacksCourt 2 = .ok (.getfield 19, 3) := dAX6_lacksCourt_0.2.2.1
theorem dX6_lacksCourt_5 : decode cX6_lacksCourt 5 = .ok (.getfield 103, 3) := dAX6_lacksCourt_0.2.2.2.1
theorem dX6_lacksCourt_8 : decode cX6_lacksCourt 8 = .ok (.ifCond .le 7, 3) := dAX6_lacksCourt_0.2.2.2.2.1
theorem dX6_lacksCourt_11 : decode cX6_lacksCourt 11 = .ok (.iconst 0, 1) := dAX6_lacksCourt_0.2.2.2.2.2.1
theorem dX6_lacksCourt_12 : decode cX6_lacksCourt 12 = .ok (.goto 4, 3) := dAX6_lacksCourt_0.2.2.2.2.2.2.1
theorem dX6_lacksCourt_15 : decode cX6_lacksCourt 15 = .ok (.iconst 1, 1) := dAX6_lacksCourt_0.2.2.2.2.2.2.2
set_option maxRecDepth 100000 in
theorem dAX6_lacksCourt_1 : decode cX6_lacksCourt 16 = .ok (.putfield 100, 3) ∧ decode cX6_lacksCourt 19 = .ok (.aload_n 0, 1) ∧ decode cX6_lacksCourt 20 = .ok (.getfield 100, 3) ∧ decode cX6_lacksCourt 23 = .ok (.ifCond .eq 7, 3) ∧ decode cX6_lacksCourt 26 = .ok (.iconst 1, 1) ∧ decode cX6_lacksCourt 27 = .ok (.goto 4, 3) ∧ decode cX6_lacksCourt 30 = .ok (.iconst 0, 1) ∧ decode cX6_lacksCourt 31 = .ok (.ireturn, 1) := by decide +kernel
theorem dX6_lacksCourt_16 : decode cX6_lacksCourt 16 = .ok (.putfield 100, 3) := dAX6_lacksCourt_1.1
theorem dX6_lacksCourt_19 : decode cX6_lacksCourt 19 = .ok (.aload_n 0, 1) := dAX6_lacksCourt_1.2.1
theorem dX6_lacksCourt_20 : decode cX6_lacksCourt 20 = .ok (.getfield 100, 3) := dAX6_lacksCourt_1.2.2.1
theorem dX6_lacksCourt_23 : decode cX6_lacksCourt 23 = .ok (.ifCond .eq 7, 3) := dAX6_lacksCourt_1.2.2.2.1
theorem dX6_lacksCourt_26 : decode cX6_lacksCourt 26 = .ok (.iconst 1, 1) := dAX6_lacksCourt_1.2.2.2.2.1
theorem dX6_lacksCourt_27 : decode cX6_lacksCourt 27 = .ok (.goto 4, 3) := dAX6_lacksCourt_1.2.2.2.2.2.1
theorem dX6_lacksCourt_30 : decode cX6_lacksCourt 30 = .ok (.iconst 0, 1) := dAX6_lacksCourt_1.2.2.2.2.2.2.1
theorem dX6_lacksCourt_31 : decode cX6_lacksCourt 31 = .ok (.ireturn, 1) := dAX6_lacksCourt_1.2.2.2.2.2.2.2
set_option maxRecDepth 100000 in
theorem dAX6_lacksDraws_0 : decode cX6_lacksDraws 0 = .ok (.aload_n 0, 1) ∧ decode cX6_lacksDraws 1 = .ok (.iload_n 1, 1) ∧ decode cX6_lacksDraws 2 = .ok (.iconst 0, 1) ∧ decode cX6_lacksDraws 3 = .ok (.ldc_w 340, 3) ∧ decode cX6_lacksDraws 6 = .ok (.invokevirtual 203, 3) ∧ decode cX6_lacksDraws 9 = .ok (.ifCond .eq 5, 3) ∧ decode cX6_lacksDraws 12 = .ok (.iconst 1, 1) ∧ decode cX6_lacksDraws 13 = .ok (.ireturn, 1) := by decide +kernel
theorem dX6_lacksDraws_0 : decode cX6_lacksDraws 0 = .ok (.aload_n 0, 1) := dAX6_lacksDraws_0.1
theorem dX6_lacksDraws_1 : decode cX6_lacksDraws 1 = .ok (.iload_n 1, 1) := dAX6_lacksDraws_0.2.1
theorem dX6_lacksDraws_2 : decode cX6_lacksDraws 2 = .ok (.iconst 0, 1) := dAX6_lacksDraws_0.2.2.1
theorem dX6_lacksDraws_3 : decode cX6_lacksDraws 3 = .ok (.ldc_w 340, 3) := dAX6_lacksDraws_0.2.2.2.1
theorem dX6_lacksDraws_6 : decode cX6_lacksDraws 6 = .ok (.invokevirtual 203, 3) := dAX6_lacksDraws_0.2.2.2.2.1
theorem dX6_lacksDraws_9 : decode cX6_lacksDraws 9 = .ok (.ifCond .eq 5, 3) := dAX6_lacksDraws_0.2.2.2.2.2.1
theorem dX6_lacksDraws_12 : decode cX6_lacksDraws 12 = .ok (.iconst 1, 1) := dAX6_lacksDraws_0.2.2.2.2.2.2.1
theorem dX6_lacksDraws_13 : decode cX6_lacksDraws 13 = .ok (.ireturn, 1) := dAX6_lacksDraws_0.2.2.2.2.2.2.2
set_option maxRecDepth 100000 in
theorem dAX6_lacksDraws_1 : decode cX6_lacksDraws 14 = .ok (.aload_n 0, 1) ∧ decode cX6_lacksDraws 15 = .ok (.iload_n 2, 1) ∧ decode cX6_lacksDraws 16 = .ok (.iconst 1, 1) ∧ decode cX6_lacksDraws 17 = .ok (.bipush 60, 2) ∧ decode cX6_lacksDraws 19 = .ok (.invokevirtual 203, 3) ∧ decode cX6_lacksDraws 22 = .ok (.ireturn, 1) := by decide +kernel
theorem dX6_lacksDraws_14 : decode cX6_lacksDraws 14 = .ok (.aload_n 0, 1) := dAX6_lacksDraws_1.1
theorem dX6_lacksDraws_15 : decode cX6_lacksDraws 15 = .ok (.iload_n 2, 1) := dAX6_lacksDraws_1.2.1
theorem dX6_lacksDraws_16 : decode cX6_lacksDraws 16 = .ok (.iconst 1, 1) := dAX6_lacksDraws_1.2.2.1
theorem dX6_lacksDraws_17 : decode cX6_lacksDraws 17 = .ok (.bipush 60, 2) := dAX6_lacksDraws_1.2.2.2.1
theorem dX6_lacksDraws_19 : decode cX6_lacksDraws 19 = .ok (.invokevirtual 203, 3) := dAX6_lacksDraws_1.2.2.2.2.1
theorem dX6_lacksDraws_22 : decode cX6_lacksDraws 22 = .ok (.ireturn, 1) := dAX6_lacksDraws_1.2.2.2.2.2
set_option maxRecDepth 100000 in
theorem dAX6_lacksNode_0 : decode cX6_lacksNode 0 = .ok (.aload_n 0, 1) ∧ decode cX6_lacksNode 1 = .ok (.aload_n 0, 1) ∧ decode cX6_lacksNode 2 = .ok (.getfield 19, 3) ∧ decode cX6_lacksNode 5 = .ok (.iload_n 1, 1) ∧ decode cX6_lacksNode 6 = .ok (.invokevirtual 373, 3) ∧ decode cX6_lacksNode 9 = .ok (.ifCond .eq 7, 3) ∧ decode cX6_lacksNode 12 = .ok (.iconst 0, 1) ∧ decode cX6_lacksNode 13 = .ok (.goto 4, 3) := by decide +kernel
theorem dX6_lacksNode_0 : decode cX6_lacksNode 0 = .ok (.aload_n 0, 1) := dAX6_lacksNode_0.1
theorem dX6_lacksNode_1 : decode cX6_lacksNode 1 = .ok (.aload_n 0, 1) := dAX6_lacksNode_0.2.1
theorem dX6_lacksNode_2 : decode cX6_lacksNode 2 = .ok (.getfield 19, 3) := dAX6_lacksNode_0.2.2.1
theorem dX6_lacksNode_5 : decode cX6_lacksNode 5 = .ok (.iload_n 1, 1) := dAX6_lacksNode_0.2.2.2.1
theorem dX6_lacksNode_6 : decode cX6_lacksNode 6 = .ok (.invokevirtual 373, 3) := dAX6_lacksNode_0.2.2.2.2.1
theorem dX6_lacksNode_9 : decode cX6_lacksNode 9 = .ok (.ifCond .eq 7, 3) := dAX6_lacksNode_0.2.2.2.2.2.1
theorem dX6_lacksNode_12 : decode cX6_lacksNode 12 = .ok (.iconst 0, 1) := dAX6_lacksNode_0.2.2.2.2.2.2.1
theorem dX6_lacksNode_13 : decode cX6_lacksNode 13 = .ok (.goto 4, 3) := dAX6_lacksNode_0.2.2.2.2.2.2.2
set_option maxRecDepth 100000 in
theorem dAX6_lacksNode_1 : decode cX6_lacksNode 16 = .ok (.iconst 1, 1) ∧ decode cX6_lacksNode 17 = .ok (.putfield 100, 3) ∧ decode cX6_lacksNode 20 = .ok (.aload_n 0, 1) ∧ decode cX6_lacksNode 21 = .ok (.getfield 100, 3) ∧ decode cX6_lacksNode 24 = .ok (.ifCond .eq 7, 3) ∧ decode cX6_lacksNode 27 = .ok (.iconst 1, 1) ∧ decode cX6_lacksNode 28 = .ok (.goto 4, 3) ∧ decode cX6_lacksNode 31 = .ok (.iconst 0, 1) := by decide +kernel
theorem dX6_lacksNode_16 : decode cX6_lacksNode 16 = .ok (.iconst 1, 1) := dAX6_lacksNode_1.1
theorem dX6_lacksNode_17 : decode cX6_lacksNode 17 = .ok (.putfield 100, 3) := dAX6_lacksNode_1.2.1
theorem dX6_lacksNode_20 : decode cX6_lacksNode 20 = .ok (.aload_n 0, 1) := dAX6_lacksNode_1.2.2.1
theorem dX6_lacksNode_21 : decode cX6_lacksNode 21 = .ok (.getfield 100, 3) := dAX6_lacksNode_1.2.2.2.1
theorem dX6_lacksNode_24 : decode cX6_lacksNode 24 = .ok (.ifCond .eq 7, 3) := dAX6_lacksNode_1.2.2.2.2.1
theorem dX6_lacksNode_27 : decode cX6_lacksNode 27 = .ok (.iconst 1, 1) := dAX6_lacksNode_1.2.2.2.2.2.1
theorem dX6_lacksNode_28 : decode cX6_lacksNode 28 = .ok (.goto 4, 3) := dAX6_lacksNode_1.2.2.2.2.2.2.1
theorem dX6_lacksNode_31 : decode cX6_lacksNode 31 = .ok (.iconst 0, 1) := dAX6_lacksNode_1.2.2.2.2.2.2.2
theorem dX6_lacksNode_32 : decode cX6_lacksNode 32 = .ok (.ireturn, 1) := by decide +kernel
set_option maxRecDepth 100000 in
theorem dAX6_lacksNumber_0 : decode cX6_lacksNumber 0 = .ok (.aload_n 0, 1) ∧ decode cX6_lacksNumber 1 = .ok (.invokevirtual 140, 3) ∧ decode cX6_lacksNumber 4 = .ok (.ifCond .eq 5, 3) ∧ decode cX6_lacksNumber 7 = .ok (.iconst 1, 1) ∧ decode cX6_lacksNumber 8 = .ok (.ireturn, 1) ∧ decode cX6_lacksNumber 9 = .ok (.aload_n 0, 1) ∧ decode cX6_lacksNumber 10 = .ok (.iload_n 1, 1) ∧ decode cX6_lacksNumber 11 = .ok (.iload_n 2, 1) := by decide +kernel
theorem dX6_lacksNumber_0 : decode cX6_lacksNumber 0 = .ok (.aload_n 0, 1) := dAX6_lacksNumber_0.1
theorem dX6_lacksNumber_1 : decode cX6_lacksNumber 1 = .ok (.invokevirtual 140, 3) := dAX6_lacksNumber_0.2.1
theorem dX6_lacksNumber_4 : decode cX6_lacksNumber 4 = .ok (.ifCond .eq 5, 3) := dAX6_lacksNumber_0.2.2.1
theorem dX6_lacksNumber_7 : decode cX6_lacksNumber 7 = .ok (.iconst 1, 1) := dAX6_lacksNumber_0.2.2.2.1
theorem dX6_lacksNumber_8 : decode cX6_lacksNumber 8 = .ok (.ireturn, 1) := dAX6_lacksNumber_0.2.2.2.2.1
theorem dX6_lacksNumber_9 : decode cX6_lacksNumber 9 = .ok (.aload_n 0, 1) := dAX6_lacksNumber_0.2.2.2.2.2.1
theorem dX6_lacksNumber_10 : decode cX6_lacksNumber 10 = .ok (.iload_n 1, 1) := dAX6_lacksNumber_0.2.2.2.2.2.2.1
theorem dX6_lacksNumber_11 : decode cX6_lacksNumber 11 = .ok (.iload_n 2, 1) := dAX6_lacksNumber_0.2.2.2.2.2.2.2
set_option maxRecDepth 100000 in
theorem dAX6_lacksNumber_1 : decode cX6_lacksNumber 12 = .ok (.if_icmp .lt 12, 3) ∧ decode cX6_lacksNumber 15 = .ok (.iload_n 1, 1) ∧ decode cX6_lacksNumber 16 = .ok (.iload_n 3, 1) ∧ decode cX6_lacksNumber 17 = .ok (.if_icmp .gt 7, 3) ∧ decode cX6_lacksNumber 20 = .ok (.iconst 0, 1) ∧ decode cX6_lacksNumber 21 = .ok (.goto 4, 3) ∧ decode cX6_lacksNumber 24 = .ok (.iconst 2, 1) ∧ decode cX6_lacksNumber 25 = .ok (.putfield 100, 3) := by decide +kernel
theorem dX6_lacksNumber_12 : decode cX6_lacksNumber 12 = .ok (.if_icmp .lt 12, 3) := dAX6_lacksNumber_1.1
theorem dX6_lacksNumber_15 : decode cX6_lacksNumber 15 = .ok (.iload_n 1, 1) := dAX6_lacksNumber_1.2.1
theorem dX6_lacksNumber_16 : decode cX6_lacksNumber 16 = .ok (.iload_n 3, 1) := dAX6_lacksNumber_1.2.2.1
theorem dX6_lacksNumber_17 : decode cX6_lacksNumber 17 = .ok (.if_icmp .gt 7, 3) := dAX6_lacksNumber_1.2.2.2.1
theorem dX6_lacksNumber_20 : decode cX6_lacksNumber 20 = .ok (.iconst 0, 1) := dAX6_lacksNumber_1.2.2.2.2.1
theorem dX6_lacksNumber_21 : decode cX6_lacksNumber 21 = .ok (.goto 4, 3) := dAX6_lacksNumber_1.2.2.2.2.2.1
theorem dX6_lacksNumber_24 : decode cX6_lacksNumber 24 = .ok (.iconst 2, 1) := dAX6_lacksNumber_1.2.2.2.2.2.2.1
theorem dX6_lacksNumber_25 : decode cX6_lacksNumber 25 = .ok (.putfield 100, 3) := dAX6_lacksNumber_1.2.2.2.2.2.2.2
set_option maxRecDepth 100000 in
theorem dAX6_lacksNumber_2 : decode cX6_lacksNumber 28 = .ok (.aload_n 0, 1) ∧ decode cX6_lacksNumber 29 = .ok (.getfield 100, 3) ∧ decode cX6_lacksNumber 32 = .ok (.ifCond .eq 7, 3) ∧ decode cX6_lacksNumber 35 = .ok (.iconst 1, 1) ∧ decode cX6_lacksNumber 36 = .ok (.goto 4, 3) ∧ decode cX6_lacksNumber 39 = .ok (.iconst 0, 1) ∧ decode cX6_lacksNumber 40 = .ok (.ireturn, 1) := by decide +kernel
theorem dX6_lacksNumber_28 : decode cX6_lacksNumber 28 = .ok (.aload_n 0, 1) := dAX6_lacksNumber_2.1
theorem dX6_lacksNumber_29 : decode cX6_lacksNumber 29 = .ok (.getfield 100, 3) := dAX6_lacksNumber_2.2.1
theorem dX6_lacksNumber_32 : decode cX6_lacksNumber 32 = .ok (.ifCond .eq 7, 3) := dAX6_lacksNumber_2.2.2.1
theorem dX6_lacksNumber_35 : decode cX6_lacksNumber 35 = .ok (.iconst 1, 1) := dAX6_lacksNumber_2.2.2.2.1
theorem dX6_lacksNumber_36 : decode cX6_lacksNumber 36 = .ok (.goto 4, 3) := dAX6_lacksNumber_2.2.2.2.2.1
theorem dX6_lacksNumber_39 : decode cX6_lacksNumber 39 = .ok (.iconst 0, 1) := dAX6_lacksNumber_2.2.2.2.2.2.1
theorem dX6_lacksNumber_40 : decode cX6_lacksNumber 40 = .ok (.ireturn, 1) := dAX6_lacksNumber_2.2.2.2.2.2.2
set_option maxRecDepth 100000 in
theorem dAX6_lacksPart_0 : decode cX6_lacksPart 0 = .ok (.aload_n 0, 1) ∧ decode cX6_lacksPart 1 = .ok (.aload_n 0, 1) ∧ decode cX6_lacksPart 2 = .ok (.getfield 19, 3) ∧ decode cX6_lacksPart 5 = .ok (.iload_n 1, 1) ∧ decode cX6_lacksPart 6 = .ok (.invokevirtual 373, 3) ∧ decode cX6_lacksPart 9 = .ok (.ifCond .eq 24, 3) ∧ decode cX6_lacksPart 12 = .ok (.iload_n 2, 1) ∧ decode cX6_lacksPart 13 = .ok (.ifCond .lt 20, 3) := by decide +kernel
theorem dX6_lacksPart_0 : decode cX6_lacksPart 0 = .ok (.aload_n 0, 1) := dAX6_lacksPart_0.1
theorem dX6_lacksPart_1 : decode cX6_lacksPart 1 = .ok (.aload_n 0, 1) := dAX6_lacksPart_0.2.1
theorem dX6_lacksPart_2 : decode cX6_lacksPart 2 = .ok (.getfield 19, 3) := dAX6_lacksPart_0.2.2.1
theorem dX6_lacksPart_5 : decode cX6_lacksPart 5 = .ok (.iload_n 1, 1) := dAX6_lacksPart_0.2.2.2.1
theorem dX6_lacksPart_6 : decode cX6_lacksPart 6 = .ok (.invokevirtual 373, 3) := dAX6_lacksPart_0.2.2.2.2.1
theorem dX6_lacksPart_9 : decode cX6_lacksPart 9 = .ok (.ifCond .eq 24, 3) := dAX6_lacksPart_0.2.2.2.2.2.1
theorem dX6_lacksPart_12 : decode cX6_lacksPart 12 = .ok (.iload_n 2, 1) := dAX6_lacksPart_0.2.2.2.2.2.2.1
theorem dX6_lacksPart_13 : decode cX6_lacksPart 13 = .ok (.ifCond .lt 20, 3) := dAX6_lacksPart_0.2.2.2.2.2.2.2
set_option maxRecDepth 100000 in
theorem dAX6_lacksPart_1 : decode cX6_lacksPart 16 = .ok (.iload_n 2, 1) ∧ decode cX6_lacksPart 17 = .ok (.aload_n 0, 1) ∧ decode cX6_lacksPart 18 = .ok (.getfield 19, 3) ∧ decode cX6_lacksPart 21 = .ok (.getfield 113, 3) ∧ decode cX6_lacksPart 24 = .ok (.iload_n 1, 1) ∧ decode cX6_lacksPart 25 = .ok (.iaload, 1) ∧ decode cX6_lacksPart 26 = .ok (.if_icmp .ge 7, 3) ∧ decode cX6_lacksPart 29 = .ok (.iconst 0, 1) := by decide +kernel
theorem dX6_lacksPart_16 : decode cX6_lacksPart 16 = .ok (.iload_n 2, 1) := dAX6_lacksPart_1.1
theorem dX6_lacksPart_17 : decode cX6_lacksPart 17 = .ok (.aload_n 0, 1) := dAX6_lacksPart_1.2.1
theorem dX6_lacksPart_18 : decode cX6_lacksPart 18 = .ok (.getfield 19, 3) := dAX6_lacksPart_1.2.2.1
theorem dX6_lacksPart_21 : decode cX6_lacksPart 21 = .ok (.getfield 113, 3) := dAX6_lacksPart_1.2.2.2.1
theorem dX6_lacksPart_24 : decode cX6_lacksPart 24 = .ok (.iload_n 1, 1) := dAX6_lacksPart_1.2.2.2.2.1
theorem dX6_lacksPart_25 : decode cX6_lacksPart 25 = .ok (.iaload, 1) := dAX6_lacksPart_1.2.2.2.2.2.1
theorem dX6_lacksPart_26 : decode cX6_lacksPart 26 = .ok (.if_icmp .ge 7, 3) := dAX6_lacksPart_1.2.2.2.2.2.2.1
theorem dX6_lacksPart_29 : decode cX6_lacksPart 29 = .ok (.iconst 0, 1) := dAX6_lacksPart_1.2.2.2.2.2.2.2
set_option maxRecDepth 100000 in
theorem dAX6_lacksPart_2 : decode cX6_lacksPart 30 = .ok (.goto 4, 3) ∧ decode cX6_lacksPart 33 = .ok (.iconst 1, 1) ∧ decode cX6_lacksPart 34 = .ok (.putfield 100, 3) ∧ decode cX6_lacksPart 37 = .ok (.aload_n 0, 1) ∧ decode cX6_lacksPart 38 = .ok (.getfield 100, 3) ∧ decode cX6_lacksPart 41 = .ok (.ifCond .eq 7, 3) ∧ decode cX6_lacksPart 44 = .ok (.iconst 1, 1) ∧ decode cX6_lacksPart 45 = .ok (.goto 4, 3) := by decide +kernel
theorem dX6_lacksPart_30 : decode cX6_lacksPart 30 = .ok (.goto 4, 3) := dAX6_lacksPart_2.1
theorem dX6_lacksPart_33 : decode cX6_lacksPart 33 = .ok (.iconst 1, 1) := dAX6_lacksPart_2.2.1
theorem dX6_lacksPart_34 : decode cX6_lacksPart 34 = .ok (.putfield 100, 3) := dAX6_lacksPart_2.2.2.1
theorem dX6_lacksPart_37 : decode cX6_lacksPart 37 = .ok (.aload_n 0, 1) := dAX6_lacksPart_2.2.2.2.1
theorem dX6_lacksPart_38 : decode cX6_lacksPart 38 = .ok (.getfield 100, 3) := dAX6_lacksPart_2.2.2.2.2.1
theorem dX6_lacksPart_41 : decode cX6_lacksPart 41 = .ok (.ifCond .eq 7, 3) := dAX6_lacksPart_2.2.2.2.2.2.1
theorem dX6_lacksPart_44 : decode cX6_lacksPart 44 = .ok (.iconst 1, 1) := dAX6_lacksPart_2.2.2.2.2.2.2.1
theorem dX6_lacksPart_45 : decode cX6_lacksPart 45 = .ok (.goto 4, 3) := dAX6_lacksPart_2.2.2.2.2.2.2.2
set_option maxRecDepth 100000 in
theorem dAX6_lacksPart_3 : decode cX6_lacksPart 48 = .ok (.iconst 0, 1) ∧ decode cX6_lacksPart 49 = .ok (.ireturn, 1) := by decide +kernel
theorem dX6_lacksPart_48 : decode cX6_lacksPart 48 = .ok (.iconst 0, 1) := dAX6_lacksPart_3.1
theorem dX6_lacksPart_49 : decode cX6_lacksPart 49 = .ok (.ireturn, 1) := dAX6_lacksPart_3.2
set_option maxRecDepth 100000 in
theorem dAX6_lacksWord_0 : decode cX6_lacksWord 0 = .ok (.aload_n 0, 1) ∧ decode cX6_lacksWord 1 = .ok (.aload_n 0, 1) ∧ decode cX6_lacksWord 2 = .ok (.getfield 19, 3) ∧ decode cX6_lacksWord 5 = .ok (.iload_n 1, 1) ∧ decode cX6_lacksWord 6 = .ok (.invokevirtual 376, 3) ∧ decode cX6_lacksWord 9 = .ok (.ifCond .eq 7, 3) ∧ decode cX6_lacksWord 12 = .ok (.iconst 0, 1) ∧ decode cX6_lacksWord 13 = .ok (.goto 4, 3) := by decide +kernel
theorem dX6_lacksWord_0 : decode cX6_lacksWord 0 = .ok (.aload_n 0, 1) := dAX6_lacksWord_0.1
theorem dX6_lacksWord_1 : decode cX6_lacksWord 1 = .ok (.aload_n 0, 1) := dAX6_lacksWord_0.2.1
theorem dX6_lacksWord_2 : decode cX6_lacksWord 2 = .ok (.getfield 19, 3) := dAX6_lacksWord_0.2.2.1
theorem dX6_lacksWord_5 : decode cX6_lacksWord 5 = .ok (.iload_n 1, 1) := dAX6_lacksWord_0.2.2.2.1
theorem dX6_lacksWord_6 : decode cX6_lacksWord 6 = .ok (.invokevirtual 376, 3) := dAX6_lacksWord_0.2.2.2.2.1
theorem dX6_lacksWord_9 : decode cX6_lacksWord 9 = .ok (.ifCond .eq 7, 3) := dAX6_lacksWord_0.2.2.2.2.2.1
theorem dX6_lacksWord_12 : decode cX6_lacksWord 12 = .ok (.iconst 0, 1) := dAX6_lacksWord_0.2.2.2.2.2.2.1
theorem dX6_lacksWord_13 : decode cX6_lacksWord 13 = .ok (.goto 4, 3) := dAX6_lacksWord_0.2.2.2.2.2.2.2
set_option maxRecDepth 100000 in
theorem dAX6_lacksWord_1 : decode cX6_lacksWord 16 = .ok (.iconst 1, 1) ∧ decode cX6_lacksWord 17 = .ok (.putfield 100, 3) ∧ decode cX6_lacksWord 20 = .ok (.aload_n 0, 1) ∧ decode cX6_lacksWord 21 = .ok (.getfield 100, 3) ∧ decode cX6_lacksWord 24 = .ok (.ifCond .eq 7, 3) ∧ decode cX6_lacksWord 27 = .ok (.iconst 1, 1) ∧ decode cX6_lacksWord 28 = .ok (.goto 4, 3) ∧ decode cX6_lacksWord 31 = .ok (.iconst 0, 1) := by decide +kernel
theorem dX6_lacksWord_16 : decode cX6_lacksWord 16 = .ok (.iconst 1, 1) := dAX6_lacksWord_1.1
theorem dX6_lacksWord_17 : decode cX6_lacksWord 17 = .ok (.putfield 100, 3) := dAX6_lacksWord_1.2.1
theorem dX6_lacksWord_20 : decode cX6_lacksWord 20 = .ok (.aload_n 0, 1) := dAX6_lacksWord_1.2.2.1
theorem dX6_lacksWord_21 : decode cX6_lacksWord 21 = .ok (.getfield 100, 3) := dAX6_lacksWord_1.2.2.2.1
theorem dX6_lacksWord_24 : decode cX6_lacksWord 24 = .ok (.ifCond .eq 7, 3) := dAX6_lacksWord_1.2.2.2.2.1
theorem dX6_lacksWord_27 : decode cX6_lacksWord 27 = .ok (.iconst 1, 1) := dAX6_lacksWord_1.2.2.2.2.2.1
theorem dX6_lacksWord_28 : decode cX6_lacksWord 28 = .ok (.goto 4, 3) := dAX6_lacksWord_1.2.2.2.2.2.2.1
theorem dX6_lacksWord_31 : decode cX6_lacksWord 31 = .ok (.iconst 0, 1) := dAX6_lacksWord_1.2.2.2.2.2.2.2
theorem dX6_lacksWord_32 : decode cX6_lacksWord 32 = .ok (.ireturn, 1) := by decide +kernel
set_option maxRecDepth 100000 in
theorem dAX6_leastTurn_0 : decode cX6_leastTurn 0 = .ok (.aload_n 0, 1) ∧ decode cX6_leastTurn 1 = .ok (.getfield 54, 3) ∧ decode cX6_leastTurn 4 = .ok (.aload_n 0, 1) ∧ decode cX6_leastTurn 5 = .ok (.getfield 19, 3) ∧ decode cX6_leastTurn 8 = .ok (.aload_n 0, 1) ∧ decode cX6_leastTurn 9 = .ok (.getfield 26, 3) ∧ decode cX6_leastTurn 12 = .ok (.getfield 149, 3) ∧ decode cX6_leastTurn 15 = .ok (.invokevirtual 152, 3) := by decide +kernel
theorem dX6_leastTurn_0 : decode cX6_leastTurn 0 = .ok (.aload_n 0, 1) := dAX6_leastTurn_0.1
theorem dX6_leastTurn_1 : decode cX6_leastTurn 1 = .ok (.getfield 54, 3) := dAX6_leastTurn_0.2.1
theorem dX6_leastTurn_4 : decode cX6_leastTurn 4 = .ok (.aload_n 0, 1) := dAX6_leastTurn_0.2.2.1
theorem dX6_leastTurn_5 : decode cX6_leastTurn 5 = .ok (.getfield 19, 3) := dAX6_leastTurn_0.2.2.2.1
theorem dX6_leastTurn_8 : decode cX6_leastTurn 8 = .ok (.aload_n 0, 1) := dAX6_leastTurn_0.2.2.2.2.1
theorem dX6_leastTurn_9 : decode cX6_leastTurn 9 = .ok (.getfield 26, 3) := dAX6_leastTurn_0.2.2.2.2.2.1
theorem dX6_leastTurn_12 : decode cX6_leastTurn 12 = .ok (.getfield 149, 3) := dAX6_leastTurn_0.2.2.2.2.2.2.1
theorem dX6_leastTurn_15 : decode cX6_leastTurn 15 = .ok (.invokevirtual 152, 3) := dAX6_leastTurn_0.2.2.2.2.2.2.2
set_option maxRecDepth 100000 in
theorem dAX6_leastTurn_1 : decode cX6_leastTurn 18 = .ok (.istore_n 2, 1) ∧ decode cX6_leastTurn 19 = .ok (.aload_n 0, 1) ∧ decode cX6_leastTurn 20 = .ok (.iload_n 1, 1) ∧ decode cX6_leastTurn 21 = .ok (.iconst 1, 1) ∧ decode cX6_leastTurn 22 = .ok (.bipush 99, 2) ∧ decode cX6_leastTurn 24 = .ok (.aload_n 0, 1) ∧ decode cX6_leastTurn 25 = .ok (.getfield 26, 3) ∧ decode cX6_leastTurn 28 = .ok (.getfield 149, 3) := by decide +kernel
theorem dX6_leastTurn_18 : decode cX6_leastTurn 18 = .ok (.istore_n 2, 1) := dAX6_leastTurn_1.1
theorem dX6_leastTurn_19 : decode cX6_leastTurn 19 = .ok (.aload_n 0, 1) := dAX6_leastTurn_1.2.1
theorem dX6_leastTurn_20 : decode cX6_leastTurn 20 = .ok (.iload_n 1, 1) := dAX6_leastTurn_1.2.2.1
theorem dX6_leastTurn_21 : decode cX6_leastTurn 21 = .ok (.iconst 1, 1) := dAX6_leastTurn_1.2.2.2.1
theorem dX6_leastTurn_22 : decode cX6_leastTurn 22 = .ok (.bipush 99, 2) := dAX6_leastTurn_1.2.2.2.2.1
theorem dX6_leastTurn_24 : decode cX6_leastTurn 24 = .ok (.aload_n 0, 1) := dAX6_leastTurn_1.2.2.2.2.2.1
theorem dX6_leastTurn_25 : decode cX6_leastTurn 25 = .ok (.getfield 26, 3) := dAX6_leastTurn_1.2.2.2.2.2.2.1
theorem dX6_leastTurn_28 : decode cX6_leastTurn 28 = .ok (.getfield 149, 3) := dAX6_leastTurn_1.2.2.2.2.2.2.2
set_option maxRecDepth 100000 in
theorem dAX6_leastTurn_2 : decode cX6_leastTurn 31 = .ok (.iload_n 1, 1) ∧ decode cX6_leastTurn 32 = .ok (.iaload, 1) ∧ decode cX6_leastTurn 33 = .ok (.isub, 1) ∧ decode cX6_leastTurn 34 = .ok (.iload_n 2, 1) ∧ decode cX6_leastTurn 35 = .ok (.invokevirtual 277, 3) ∧ decode cX6_leastTurn 38 = .ok (.istore_n 3, 1) ∧ decode cX6_leastTurn 39 = .ok (.aload_n 0, 1) ∧ decode cX6_leastTurn 40 = .ok (.iload_n 1, 1) := by decide +kernel
theorem dX6_leastTurn_31 : decode cX6_leastTurn 31 = .ok (.iload_n 1, 1) := dAX6_leastTurn_2.1
theorem dX6_leastTurn_32 : decode cX6_leastTurn 32 = .ok (.iaload, 1) := dAX6_leastTurn_2.2.1
theorem dX6_leastTurn_33 : decode cX6_leastTurn 33 = .ok (.isub, 1) := dAX6_leastTurn_2.2.2.1
theorem dX6_leastTurn_34 : decode cX6_leastTurn 34 = .ok (.iload_n 2, 1) := dAX6_leastTurn_2.2.2.2.1
theorem dX6_leastTurn_35 : decode cX6_leastTurn 35 = .ok (.invokevirtual 277, 3) := dAX6_leastTurn_2.2.2.2.2.1
theorem dX6_leastTurn_38 : decode cX6_leastTurn 38 = .ok (.istore_n 3, 1) := dAX6_leastTurn_2.2.2.2.2.2.1
theorem dX6_leastTurn_39 : decode cX6_leastTurn 39 = .ok (.aload_n 0, 1) := dAX6_leastTurn_2.2.2.2.2.2.2.1
theorem dX6_leastTurn_40 : decode cX6_leastTurn 40 = .ok (.iload_n 1, 1) := dAX6_leastTurn_2.2.2.2.2.2.2.2
set_option maxRecDepth 100000 in
theorem dAX6_leastTurn_3 : decode cX6_leastTurn 41 = .ok (.iconst (-1), 1) ∧ decode cX6_leastTurn 42 = .ok (.aload_n 0, 1) ∧ decode cX6_leastTurn 43 = .ok (.getfield 26, 3) ∧ decode cX6_leastTurn 46 = .ok (.getfield 149, 3) ∧ decode cX6_leastTurn 49 = .ok (.iload_n 1, 1) ∧ decode cX6_leastTurn 50 = .ok (.iaload, 1) ∧ decode cX6_leastTurn 51 = .ok (.iload_n 2, 1) ∧ decode cX6_leastTurn 52 = .ok (.invokevirtual 277, 3) := by decide +kernel
theorem dX6_leastTurn_41 : decode cX6_leastTurn 41 = .ok (.iconst (-1), 1) := dAX6_leastTurn_3.1
theorem dX6_leastTurn_42 : decode cX6_leastTurn 42 = .ok (.aload_n 0, 1) := dAX6_leastTurn_3.2.1
theorem dX6_leastTurn_43 : decode cX6_leastTurn 43 = .ok (.getfield 26, 3) := dAX6_leastTurn_3.2.2.1
theorem dX6_leastTurn_46 : decode cX6_leastTurn 46 = .ok (.getfield 149, 3) := dAX6_leastTurn_3.2.2.2.1
theorem dX6_leastTurn_49 : decode cX6_leastTurn 49 = .ok (.iload_n 1, 1) := dAX6_leastTurn_3.2.2.2.2.1
theorem dX6_leastTurn_50 : decode cX6_leastTurn 50 = .ok (.iaload, 1) := dAX6_leastTurn_3.2.2.2.2.2.1
theorem dX6_leastTurn_51 : decode cX6_leastTurn 51 = .ok (.iload_n 2, 1) := dAX6_leastTurn_3.2.2.2.2.2.2.1
theorem dX6_leastTurn_52 : decode cX6_leastTurn 52 = .ok (.invokevirtual 277, 3) := dAX6_leastTurn_3.2.2.2.2.2.2.2
set_option maxRecDepth 100000 in
theorem dAX6_leastTurn_4 : decode cX6_leastTurn 55 = .ok (.istore 4, 2) ∧ decode cX6_leastTurn 57 = .ok (.iload_n 3, 1) ∧ decode cX6_leastTurn 58 = .ok (.ifCond .lt 8, 3) ∧ decode cX6_leastTurn 61 = .ok (.iload 4, 2) ∧ decode cX6_leastTurn 63 = .ok (.ifCond .ge 10, 3) ∧ decode cX6_leastTurn 66 = .ok (.iload_n 3, 1) ∧ decode cX6_leastTurn 67 = .ok (.iload 4, 2) ∧ decode cX6_leastTurn 69 = .ok (.invokestatic 281, 3) := by decide +kernel
theorem dX6_leastTurn_55 : decode cX6_leastTurn 55 = .ok (.istore 4, 2) := dAX6_leastTurn_4.1
theorem dX6_leastTurn_57 : decode cX6_leastTurn 57 = .ok (.iload_n 3, 1) := dAX6_leastTurn_4.2.1
theorem dX6_leastTurn_58 : decode cX6_leastTurn 58 = .ok (.ifCond .lt 8, 3) := dAX6_leastTurn_4.2.2.1
theorem dX6_leastTurn_61 : decode cX6_leastTurn 61 = .ok (.iload 4, 2) := dAX6_leastTurn_4.2.2.2.1
theorem dX6_leastTurn_63 : decode cX6_leastTurn 63 = .ok (.ifCond .ge 10, 3) := dAX6_leastTurn_4.2.2.2.2.1
theorem dX6_leastTurn_66 : decode cX6_leastTurn 66 = .ok (.iload_n 3, 1) := dAX6_leastTurn_4.2.2.2.2.2.1
theorem dX6_leastTurn_67 : decode cX6_leastTurn 67 = .ok (.iload 4, 2) := dAX6_leastTurn_4.2.2.2.2.2.2.1
theorem dX6_leastTurn_69 : decode cX6_leastTurn 69 = .ok (.invokestatic 281, 3) := dAX6_leastTurn_4.2.2.2.2.2.2.2
set_option maxRecDepth 100000 in
theorem dAX6_leastTurn_5 : decode cX6_leastTurn 72 = .ok (.ireturn, 1) ∧ decode cX6_leastTurn 73 = .ok (.iload_n 3, 1) ∧ decode cX6_leastTurn 74 = .ok (.iload 4, 2) ∧ decode cX6_leastTurn 76 = .ok (.invokestatic 255, 3) ∧ decode cX6_leastTurn 79 = .ok (.ireturn, 1) := by decide +kernel
theorem dX6_leastTurn_72 : decode cX6_leastTurn 72 = .ok (.ireturn, 1) := dAX6_leastTurn_5.1
theorem dX6_leastTurn_73 : decode cX6_leastTurn 73 = .ok (.iload_n 3, 1) := dAX6_leastTurn_5.2.1
theorem dX6_leastTurn_74 : decode cX6_leastTurn 74 = .ok (.iload 4, 2) := dAX6_leastTurn_5.2.2.1
theorem dX6_leastTurn_76 : decode cX6_leastTurn 76 = .ok (.invokestatic 255, 3) := dAX6_leastTurn_5.2.2.2.1
theorem dX6_leastTurn_79 : decode cX6_leastTurn 79 = .ok (.ireturn, 1) := dAX6_leastTurn_5.2.2.2.2
set_option maxRecDepth 100000 in
theorem dAX6_leastTurnTowards_0 : decode cX6_leastTurnTowards 0 = .ok (.aload_n 0, 1) ∧ decode cX6_leastTurnTowards 1 = .ok (.getfield 54, 3) ∧ decode cX6_leastTurnTowards 4 = .ok (.aload_n 0, 1) ∧ decode cX6_leastTurnTowards 5 = .ok (.getfield 19, 3) ∧ decode cX6_leastTurnTowards 8 = .ok (.aload_n 0, 1) ∧ decode cX6_leastTurnTowards 9 = .ok (.getfield 26, 3) ∧ decode cX6_leastTurnTowards 12 = .ok (.iload_n 1, 1) ∧ decode cX6_leastTurnTowards 13 = .ok (.aload_n 0, 1) := by decide +kernel
theorem dX6_leastTurnTowards_0 : decode cX6_leastTurnTowards 0 = .ok (.aload_n 0, 1) := dAX6_leastTurnTowards_0.1
theorem dX6_leastTurnTowards_1 : decode cX6_leastTurnTowards 1 = .ok (.getfield 54, 3) := dAX6_leastTurnTowards_0.2.1
theorem dX6_leastTurnTowards_4 : decode cX6_leastTurnTowards 4 = .ok (.aload_n 0, 1) := dAX6_leastTurnTowards_0.2.2.1
theorem dX6_leastTurnTowards_5 : decode cX6_leastTurnTowards 5 = .ok (.getfield 19, 3) := dAX6_leastTurnTowards_0.2.2.2.1
theorem dX6_leastTurnTowards_8 : decode cX6_leastTurnTowards 8 = .ok (.aload_n 0, 1) := dAX6_leastTurnTowards_0.2.2.2.2.1
theorem dX6_leastTurnTowards_9 : decode cX6_leastTurnTowards 9 = .ok (.getfield 26, 3) := dAX6_leastTurnTowards_0.2.2.2.2.2.1
theorem dX6_leastTurnTowards_12 : decode cX6_leastTurnTowards 12 = .ok (.iload_n 1, 1) := dAX6_leastTurnTowards_0.2.2.2.2.2.2.1
theorem dX6_leastTurnTowards_13 : decode cX6_leastTurnTowards 13 = .ok (.aload_n 0, 1) := dAX6_leastTurnTowards_0.2.2.2.2.2.2.2
set_option maxRecDepth 100000 in
theorem dAX6_leastTurnTowards_1 : decode cX6_leastTurnTowards 14 = .ok (.getfield 26, 3) ∧ decode cX6_leastTurnTowards 17 = .ok (.getfield 149, 3) ∧ decode cX6_leastTurnTowards 20 = .ok (.iload_n 1, 1) ∧ decode cX6_leastTurnTowards 21 = .ok (.iaload, 1) ∧ decode cX6_leastTurnTowards 22 = .ok (.iload_n 2, 1) ∧ decode cX6_leastTurnTowards 23 = .ok (.iload_n 3, 1) ∧ decode cX6_leastTurnTowards 24 = .ok (.imul, 1) ∧ decode cX6_leastTurnTowards 25 = .ok (.iadd, 1) := by decide +kernel
theorem dX6_leastTurnTowards_14 : decode cX6_leastTurnTowards 14 = .ok (.getfield 26, 3) := dAX6_leastTurnTowards_1.1
theorem dX6_leastTurnTowards_17 : decode cX6_leastTurnTowards 17 = .ok (.getfield 149, 3) := dAX6_leastTurnTowards_1.2.1
theorem dX6_leastTurnTowards_20 : decode cX6_leastTurnTowards 20 = .ok (.iload_n 1, 1) := dAX6_leastTurnTowards_1.2.2.1
theorem dX6_leastTurnTowards_21 : decode cX6_leastTurnTowards 21 = .ok (.iaload, 1) := dAX6_leastTurnTowards_1.2.2.2.1
theorem dX6_leastTurnTowards_22 : decode cX6_leastTurnTowards 22 = .ok (.iload_n 2, 1) := dAX6_leastTurnTowards_1.2.2.2.2.1
theorem dX6_leastTurnTowards_23 : decode cX6_leastTurnTowards 23 = .ok (.iload_n 3, 1) := dAX6_leastTurnTowards_1.2.2.2.2.2.1
theorem dX6_leastTurnTowards_24 : decode cX6_leastTurnTowards 24 = .ok (.imul, 1) := dAX6_leastTurnTowards_1.2.2.2.2.2.2.1
theorem dX6_leastTurnTowards_25 : decode cX6_leastTurnTowards 25 = .ok (.iadd, 1) := dAX6_leastTurnTowards_1.2.2.2.2.2.2.2
set_option maxRecDepth 100000 in
theorem dAX6_leastTurnTowards_2 : decode cX6_leastTurnTowards 26 = .ok (.invokevirtual 284, 3) ∧ decode cX6_leastTurnTowards 29 = .ok (.iload 4, 2) ∧ decode cX6_leastTurnTowards 31 = .ok (.if_icmp .ne 6, 3) ∧ decode cX6_leastTurnTowards 34 = .ok (.bipush (-2), 2) ∧ decode cX6_leastTurnTowards 36 = .ok (.ireturn, 1) ∧ decode cX6_leastTurnTowards 37 = .ok (.iconst 1, 1) ∧ decode cX6_leastTurnTowards 38 = .ok (.istore 5, 2) ∧ decode cX6_leastTurnTowards 40 = .ok (.iload_n 3, 1) := by decide +kernel
theorem dX6_leastTurnTowards_26 : decode cX6_leastTurnTowards 26 = .ok (.invokevirtual 284, 3) := dAX6_leastTurnTowards_2.1
theorem dX6_leastTurnTowards_29 : decode cX6_leastTurnTowards 29 = .ok (.iload 4, 2) := dAX6_leastTurnTowards_2.2.1
theorem dX6_leastTurnTowards_31 : decode cX6_leastTurnTowards 31 = .ok (.if_icmp .ne 6, 3) := dAX6_leastTurnTowards_2.2.2.1
theorem dX6_leastTurnTowards_34 : decode cX6_leastTurnTowards 34 = .ok (.bipush (-2), 2) := dAX6_leastTurnTowards_2.2.2.2.1
theorem dX6_leastTurnTowards_36 : decode cX6_leastTurnTowards 36 = .ok (.ireturn, 1) := dAX6_leastTurnTowards_2.2.2.2.2.1
theorem dX6_leastTurnTowards_37 : decode cX6_leastTurnTowards 37 = .ok (.iconst 1, 1) := dAX6_leastTurnTowards_2.2.2.2.2.2.1
theorem dX6_leastTurnTowards_38 : decode cX6_leastTurnTowards 38 = .ok (.istore 5, 2) := dAX6_leastTurnTowards_2.2.2.2.2.2.2.1
theorem dX6_leastTurnTowards_40 : decode cX6_leastTurnTowards 40 = .ok (.iload_n 3, 1) := dAX6_leastTurnTowards_2.2.2.2.2.2.2.2
set_option maxRecDepth 100000 in
theorem dAX6_leastTurnTowards_3 : decode cX6_leastTurnTowards 41 = .ok (.istore 6, 2) ∧ decode cX6_leastTurnTowards 43 = .ok (.iconst 0, 1) ∧ decode cX6_leastTurnTowards 44 = .ok (.istore 7, 2) ∧ decode cX6_leastTurnTowards 46 = .ok (.iload 7, 2) ∧ decode cX6_leastTurnTowards 48 = .ok (.bipush 99, 2) ∧ decode cX6_leastTurnTowards 50 = .ok (.if_icmp .ge 73, 3) ∧ decode cX6_leastTurnTowards 53 = .ok (.iload 5, 2) ∧ decode cX6_leastTurnTowards 55 = .ok (.iload 6, 2) := by decide +kernel
theorem dX6_leastTurnTowards_41 : decode cX6_leastTurnTowards 41 = .ok (.istore 6, 2) := dAX6_leastTurnTowards_3.1
theorem dX6_leastTurnTowards_43 : decode cX6_leastTurnTowards 43 = .ok (.iconst 0, 1) := dAX6_leastTurnTowards_3.2.1
theorem dX6_leastTurnTowards_44 : decode cX6_leastTurnTowards 44 = .ok (.istore 7, 2) := dAX6_leastTurnTowards_3.2.2.1
theorem dX6_leastTurnTowards_46 : decode cX6_leastTurnTowards 46 = .ok (.iload 7, 2) := dAX6_leastTurnTowards_3.2.2.2.1
theorem dX6_leastTurnTowards_48 : decode cX6_leastTurnTowards 48 = .ok (.bipush 99, 2) := dAX6_leastTurnTowards_3.2.2.2.2.1
theorem dX6_leastTurnTowards_50 : decode cX6_leastTurnTowards 50 = .ok (.if_icmp .ge 73, 3) := dAX6_leastTurnTowards_3.2.2.2.2.2.1
theorem dX6_leastTurnTowards_53 : decode cX6_leastTurnTowards 53 = .ok (.iload 5, 2) := dAX6_leastTurnTowards_3.2.2.2.2.2.2.1
theorem dX6_leastTurnTowards_55 : decode cX6_leastTurnTowards 55 = .ok (.iload 6, 2) := dAX6_leastTurnTowards_3.2.2.2.2.2.2.2
set_option maxRecDepth 100000 in
theorem dAX6_leastTurnTowards_4 : decode cX6_leastTurnTowards 57 = .ok (.if_icmp .ge 66, 3) ∧ decode cX6_leastTurnTowards 60 = .ok (.iload 5, 2) ∧ decode cX6_leastTurnTowards 62 = .ok (.iload 6, 2) ∧ decode cX6_leastTurnTowards 64 = .ok (.iadd, 1) ∧ decode cX6_leastTurnTowards 65 = .ok (.iconst 2, 1) ∧ decode cX6_leastTurnTowards 66 = .ok (.idiv, 1) ∧ decode cX6_leastTurnTowards 67 = .ok (.istore 8, 2) ∧ decode cX6_leastTurnTowards 69 = .ok (.aload_n 0, 1) := by decide +kernel
theorem dX6_leastTurnTowards_57 : decode cX6_leastTurnTowards 57 = .ok (.if_icmp .ge 66, 3) := dAX6_leastTurnTowards_4.1
theorem dX6_leastTurnTowards_60 : decode cX6_leastTurnTowards 60 = .ok (.iload 5, 2) := dAX6_leastTurnTowards_4.2.1
theorem dX6_leastTurnTowards_62 : decode cX6_leastTurnTowards 62 = .ok (.iload 6, 2) := dAX6_leastTurnTowards_4.2.2.1
theorem dX6_leastTurnTowards_64 : decode cX6_leastTurnTowards 64 = .ok (.iadd, 1) := dAX6_leastTurnTowards_4.2.2.2.1
theorem dX6_leastTurnTowards_65 : decode cX6_leastTurnTowards 65 = .ok (.iconst 2, 1) := dAX6_leastTurnTowards_4.2.2.2.2.1
theorem dX6_leastTurnTowards_66 : decode cX6_leastTurnTowards 66 = .ok (.idiv, 1) := dAX6_leastTurnTowards_4.2.2.2.2.2.1
theorem dX6_leastTurnTowards_67 : decode cX6_leastTurnTowards 67 = .ok (.istore 8, 2) := dAX6_leastTurnTowards_4.2.2.2.2.2.2.1
theorem dX6_leastTurnTowards_69 : decode cX6_leastTurnTowards 69 = .ok (.aload_n 0, 1) := dAX6_leastTurnTowards_4.2.2.2.2.2.2.2
set_option maxRecDepth 100000 in
theorem dAX6_leastTurnTowards_5 : decode cX6_leastTurnTowards 70 = .ok (.getfield 54, 3) ∧ decode cX6_leastTurnTowards 73 = .ok (.aload_n 0, 1) ∧ decode cX6_leastTurnTowards 74 = .ok (.getfield 19, 3) ∧ decode cX6_leastTurnTowards 77 = .ok (.aload_n 0, 1) ∧ decode cX6_leastTurnTowards 78 = .ok (.getfield 26, 3) ∧ decode cX6_leastTurnTowards 81 = .ok (.iload_n 1, 1) ∧ decode cX6_leastTurnTowards 82 = .ok (.aload_n 0, 1) ∧ decode cX6_leastTurnTowards 83 = .ok (.getfield 26, 3) := by decide +kernel
theorem dX6_leastTurnTowards_70 : decode cX6_leastTurnTowards 70 = .ok (.getfield 54, 3) := dAX6_leastTurnTowards_5.1
theorem dX6_leastTurnTowards_73 : decode cX6_leastTurnTowards 73 = .ok (.aload_n 0, 1) := dAX6_leastTurnTowards_5.2.1
theorem dX6_leastTurnTowards_74 : decode cX6_leastTurnTowards 74 = .ok (.getfield 19, 3) := dAX6_leastTurnTowards_5.2.2.1
theorem dX6_leastTurnTowards_77 : decode cX6_leastTurnTowards 77 = .ok (.aload_n 0, 1) := dAX6_leastTurnTowards_5.2.2.2.1
theorem dX6_leastTurnTowards_78 : decode cX6_leastTurnTowards 78 = .ok (.getfield 26, 3) := dAX6_leastTurnTowards_5.2.2.2.2.1
theorem dX6_leastTurnTowards_81 : decode cX6_leastTurnTowards 81 = .ok (.iload_n 1, 1) := dAX6_leastTurnTowards_5.2.2.2.2.2.1
theorem dX6_leastTurnTowards_82 : decode cX6_leastTurnTowards 82 = .ok (.aload_n 0, 1) := dAX6_leastTurnTowards_5.2.2.2.2.2.2.1
theorem dX6_leastTurnTowards_83 : decode cX6_leastTurnTowards 83 = .ok (.getfield 26, 3) := dAX6_leastTurnTowards_5.2.2.2.2.2.2.2
set_option maxRecDepth 100000 in
theorem dAX6_leastTurnTowards_6 : decode cX6_leastTurnTowards 86 = .ok (.getfield 149, 3) ∧ decode cX6_leastTurnTowards 89 = .ok (.iload_n 1, 1) ∧ decode cX6_leastTurnTowards 90 = .ok (.iaload, 1) ∧ decode cX6_leastTurnTowards 91 = .ok (.iload_n 2, 1) ∧ decode cX6_leastTurnTowards 92 = .ok (.iload 8, 2) ∧ decode cX6_leastTurnTowards 94 = .ok (.imul, 1) ∧ decode cX6_leastTurnTowards 95 = .ok (.iadd, 1) ∧ decode cX6_leastTurnTowards 96 = .ok (.invokevirtual 284, 3) := by decide +kernel
theorem dX6_leastTurnTowards_86 : decode cX6_leastTurnTowards 86 = .ok (.getfield 149, 3) := dAX6_leastTurnTowards_6.1
theorem dX6_leastTurnTowards_89 : decode cX6_leastTurnTowards 89 = .ok (.iload_n 1, 1) := dAX6_leastTurnTowards_6.2.1
theorem dX6_leastTurnTowards_90 : decode cX6_leastTurnTowards 90 = .ok (.iaload, 1) := dAX6_leastTurnTowards_6.2.2.1
theorem dX6_leastTurnTowards_91 : decode cX6_leastTurnTowards 91 = .ok (.iload_n 2, 1) := dAX6_leastTurnTowards_6.2.2.2.1
theorem dX6_leastTurnTowards_92 : decode cX6_leastTurnTowards 92 = .ok (.iload 8, 2) := dAX6_leastTurnTowards_6.2.2.2.2.1
theorem dX6_leastTurnTowards_94 : decode cX6_leastTurnTowards 94 = .ok (.imul, 1) := dAX6_leastTurnTowards_6.2.2.2.2.2.1
theorem dX6_leastTurnTowards_95 : decode cX6_leastTurnTowards 95 = .ok (.iadd, 1) := dAX6_leastTurnTowards_6.2.2.2.2.2.2.1
theorem dX6_leastTurnTowards_96 : decode cX6_leastTurnTowards 96 = .ok (.invokevirtual 284, 3) := dAX6_leastTurnTowards_6.2.2.2.2.2.2.2
set_option maxRecDepth 100000 in
theorem dAX6_leastTurnTowards_7 : decode cX6_leastTurnTowards 99 = .ok (.iload 4, 2) ∧ decode cX6_leastTurnTowards 101 = .ok (.if_icmp .ne 12, 3) ∧ decode cX6_leastTurnTowards 104 = .ok (.iload 8, 2) ∧ decode cX6_leastTurnTowards 106 = .ok (.iconst 1, 1) ∧ decode cX6_leastTurnTowards 107 = .ok (.iadd, 1) ∧ decode cX6_leastTurnTowards 108 = .ok (.istore 5, 2) ∧ decode cX6_leastTurnTowards 110 = .ok (.goto 7, 3) ∧ decode cX6_leastTurnTowards 113 = .ok (.iload 8, 2) := by decide +kernel
theorem dX6_leastTurnTowards_99 : decode cX6_leastTurnTowards 99 = .ok (.iload 4, 2) := dAX6_leastTurnTowards_7.1
theorem dX6_leastTurnTowards_101 : decode cX6_leastTurnTowards 101 = .ok (.if_icmp .ne 12, 3) := dAX6_leastTurnTowards_7.2.1
theorem dX6_leastTurnTowards_104 : decode cX6_leastTurnTowards 104 = .ok (.iload 8, 2) := dAX6_leastTurnTowards_7.2.2.1
theorem dX6_leastTurnTowards_106 : decode cX6_leastTurnTowards 106 = .ok (.iconst 1, 1) := dAX6_leastTurnTowards_7.2.2.2.1
theorem dX6_leastTurnTowards_107 : decode cX6_leastTurnTowards 107 = .ok (.iadd, 1) := dAX6_leastTurnTowards_7.2.2.2.2.1
theorem dX6_leastTurnTowards_108 : decode cX6_leastTurnTowards 108 = .ok (.istore 5, 2) := dAX6_leastTurnTowards_7.2.2.2.2.2.1
theorem dX6_leastTurnTowards_110 : decode cX6_leastTurnTowards 110 = .ok (.goto 7, 3) := dAX6_leastTurnTowards_7.2.2.2.2.2.2.1
theorem dX6_leastTurnTowards_113 : decode cX6_leastTurnTowards 113 = .ok (.iload 8, 2) := dAX6_leastTurnTowards_7.2.2.2.2.2.2.2
set_option maxRecDepth 100000 in
theorem dAX6_leastTurnTowards_8 : decode cX6_leastTurnTowards 115 = .ok (.istore 6, 2) ∧ decode cX6_leastTurnTowards 117 = .ok (.iinc 7 1, 3) ∧ decode cX6_leastTurnTowards 120 = .ok (.goto (-74), 3) ∧ decode cX6_leastTurnTowards 123 = .ok (.iload 6, 2) ∧ decode cX6_leastTurnTowards 125 = .ok (.ireturn, 1) := by decide +kernel
theorem dX6_leastTurnTowards_115 : decode cX6_leastTurnTowards 115 = .ok (.istore 6, 2) := dAX6_leastTurnTowards_8.1
theorem dX6_leastTurnTowards_117 : decode cX6_leastTurnTowards 117 = .ok (.iinc 7 1, 3) := dAX6_leastTurnTowards_8.2.1
theorem dX6_leastTurnTowards_120 : decode cX6_leastTurnTowards 120 = .ok (.goto (-74), 3) := dAX6_leastTurnTowards_8.2.2.1
theorem dX6_leastTurnTowards_123 : decode cX6_leastTurnTowards 123 = .ok (.iload 6, 2) := dAX6_leastTurnTowards_8.2.2.2.1
theorem dX6_leastTurnTowards_125 : decode cX6_leastTurnTowards 125 = .ok (.ireturn, 1) := dAX6_leastTurnTowards_8.2.2.2.2
set_option maxRecDepth 100000 in
theorem dAX6_led_0 : decode cX6_led 0 = .ok (.aload_n 0, 1) ∧ decode cX6_led 1 = .ok (.getfield 19, 3) ∧ decode cX6_led 4 = .ok (.getfield 103, 3) ∧ decode cX6_led 7 = .ok (.ifCond .le 11, 3) ∧ decode cX6_led 10 = .ok (.aload_n 0, 1) ∧ decode cX6_led 11 = .ok (.iload_n 1, 1) ∧ decode cX6_led 12 = .ok (.invokevirtual 357, 3) ∧ decode cX6_led 15 = .ok (.goto 4, 3) := by decide +kernel
theorem dX6_led_0 : decode cX6_led 0 = .ok (.aload_n 0, 1) := dAX6_led_0.1
theorem dX6_led_1 : decode cX6_led 1 = .ok (.getfield 19, 3) := dAX6_led_0.2.1
theorem dX6_led_4 : decode cX6_led 4 = .ok (.getfield 103, 3) := dAX6_led_0.2.2.1
theorem dX6_led_7 : decode cX6_led 7 = .ok (.ifCond .le 11, 3) := dAX6_led_0.2.2.2.1
theorem dX6_led_10 : decode cX6_led 10 = .ok (.aload_n 0, 1) := dAX6_led_0.2.2.2.2.1
theorem dX6_led_11 : decode cX6_led 11 = .ok (.iload_n 1, 1) := dAX6_led_0.2.2.2.2.2.1
theorem dX6_led_12 : decode cX6_led 12 = .ok (.invokevirtual 357, 3) := dAX6_led_0.2.2.2.2.2.2.1
theorem dX6_led_15 : decode cX6_led 15 = .ok (.goto 4, 3) := dAX6_led_0.2.2.2.2.2.2.2
set_option maxRecDepth 100000 in
theorem dAX6_led_1 : decode cX6_led 18 = .ok (.iconst (-1), 1) ∧ decode cX6_led 19 = .ok (.istore_n 2, 1) ∧ decode cX6_led 20 = .ok (.iload_n 2, 1) ∧ decode cX6_led 21 = .ok (.ifCond .ge 14, 3) ∧ decode cX6_led 24 = .ok (.new 360, 3) ∧ decode cX6_led 27 = .ok (.dup, 1) ∧ decode cX6_led 28 = .ok (.ldc_w 362, 3) ∧ decode cX6_led 31 = .ok (.invokespecial 364, 3) := by decide +kernel
theorem dX6_led_18 : decode cX6_led 18 = .ok (.iconst (-1), 1) := dAX6_led_1.1
theorem dX6_led_19 : decode cX6_led 19 = .ok (.istore_n 2, 1) := dAX6_led_1.2.1
theorem dX6_led_20 : decode cX6_led 20 = .ok (.iload_n 2, 1) := dAX6_led_1.2.2.1
theorem dX6_led_21 : decode cX6_led 21 = .ok (.ifCond .ge 14, 3) := dAX6_led_1.2.2.2.1
theorem dX6_led_24 : decode cX6_led 24 = .ok (.new 360, 3) := dAX6_led_1.2.2.2.2.1
theorem dX6_led_27 : decode cX6_led 27 = .ok (.dup, 1) := dAX6_led_1.2.2.2.2.2.1
theorem dX6_led_28 : decode cX6_led 28 = .ok (.ldc_w 362, 3) := dAX6_led_1.2.2.2.2.2.2.1
theorem dX6_led_31 : decode cX6_led 31 = .ok (.invokespecial 364, 3) := dAX6_led_1.2.2.2.2.2.2.2
set_option maxRecDepth 100000 in
theorem dAX6_led_2 : decode cX6_led 34 = .ok (.athrow, 1) ∧ decode cX6_led 35 = .ok (.iload_n 2, 1) ∧ decode cX6_led 36 = .ok (.ireturn, 1) := by decide +kernel
theorem dX6_led_34 : decode cX6_led 34 = .ok (.athrow, 1) := dAX6_led_2.1
theorem dX6_led_35 : decode cX6_led 35 = .ok (.iload_n 2, 1) := dAX6_led_2.2.1
theorem dX6_led_36 : decode cX6_led 36 = .ok (.ireturn, 1) := dAX6_led_2.2.2
set_option maxRecDepth 100000 in
theorem dAX6_leftAtMost_0 : decode cX6_leftAtMost 0 = .ok (.iconst 0, 1) ∧ decode cX6_leftAtMost 1 = .ok (.istore_n 3, 1) ∧ decode cX6_leftAtMost 2 = .ok (.iconst 0, 1) ∧ decode cX6_leftAtMost 3 = .ok (.istore 4, 2) ∧ decode cX6_leftAtMost 5 = .ok (.iload 4, 2) ∧ decode cX6_leftAtMost 7 = .ok (.aload_n 0, 1) ∧ decode cX6_leftAtMost 8 = .ok (.getfield 19, 3) ∧ decode cX6_leftAtMost 11 = .ok (.invokevirtual 290, 3) := by decide +kernel
theorem dX6_leftAtMost_0 : decode cX6_leftAtMost 0 = .ok (.iconst 0, 1) := dAX6_leftAtMost_0.1
theorem dX6_leftAtMost_1 : decode cX6_leftAtMost 1 = .ok (.istore_n 3, 1) := dAX6_leftAtMost_0.2.1
theorem dX6_leftAtMost_2 : decode cX6_leftAtMost 2 = .ok (.iconst 0, 1) := dAX6_leftAtMost_0.2.2.1
theorem dX6_leftAtMost_3 : decode cX6_leftAtMost 3 = .ok (.istore 4, 2) := dAX6_leftAtMost_0.2.2.2.1
theorem dX6_leftAtMost_5 : decode cX6_leftAtMost 5 = .ok (.iload 4, 2) := dAX6_leftAtMost_0.2.2.2.2.1
theorem dX6_leftAtMost_7 : decode cX6_leftAtMost 7 = .ok (.aload_n 0, 1) := dAX6_leftAtMost_0.2.2.2.2.2.1
theorem dX6_leftAtMost_8 : decode cX6_leftAtMost 8 = .ok (.getfield 19, 3) := dAX6_leftAtMost_0.2.2.2.2.2.2.1
theorem dX6_leftAtMost_11 : decode cX6_leftAtMost 11 = .ok (.invokevirtual 290, 3) := dAX6_leftAtMost_0.2.2.2.2.2.2.2
set_option maxRecDepth 100000 in
theorem dAX6_leftAtMost_1 : decode cX6_leftAtMost 14 = .ok (.if_icmp .ge 32, 3) ∧ decode cX6_leftAtMost 17 = .ok (.iload_n 1, 1) ∧ decode cX6_leftAtMost 18 = .ok (.iload 4, 2) ∧ decode cX6_leftAtMost 20 = .ok (.ishr, 1) ∧ decode cX6_leftAtMost 21 = .ok (.iconst 1, 1) ∧ decode cX6_leftAtMost 22 = .ok (.iand, 1) ∧ decode cX6_leftAtMost 23 = .ok (.iconst 1, 1) ∧ decode cX6_leftAtMost 24 = .ok (.if_icmp .ne 16, 3) := by decide +kernel
theorem dX6_leftAtMost_14 : decode cX6_leftAtMost 14 = .ok (.if_icmp .ge 32, 3) := dAX6_leftAtMost_1.1
theorem dX6_leftAtMost_17 : decode cX6_leftAtMost 17 = .ok (.iload_n 1, 1) := dAX6_leftAtMost_1.2.1
theorem dX6_leftAtMost_18 : decode cX6_leftAtMost 18 = .ok (.iload 4, 2) := dAX6_leftAtMost_1.2.2.1
theorem dX6_leftAtMost_20 : decode cX6_leftAtMost 20 = .ok (.ishr, 1) := dAX6_leftAtMost_1.2.2.2.1
theorem dX6_leftAtMost_21 : decode cX6_leftAtMost 21 = .ok (.iconst 1, 1) := dAX6_leftAtMost_1.2.2.2.2.1
theorem dX6_leftAtMost_22 : decode cX6_leftAtMost 22 = .ok (.iand, 1) := dAX6_leftAtMost_1.2.2.2.2.2.1
theorem dX6_leftAtMost_23 : decode cX6_leftAtMost 23 = .ok (.iconst 1, 1) := dAX6_leftAtMost_1.2.2.2.2.2.2.1
theorem dX6_leftAtMost_24 : decode cX6_leftAtMost 24 = .ok (.if_icmp .ne 16, 3) := dAX6_leftAtMost_1.2.2.2.2.2.2.2
set_option maxRecDepth 100000 in
theorem dAX6_leftAtMost_2 : decode cX6_leftAtMost 27 = .ok (.iload 4, 2) ∧ decode cX6_leftAtMost 29 = .ok (.iload_n 2, 1) ∧ decode cX6_leftAtMost 30 = .ok (.ishr, 1) ∧ decode cX6_leftAtMost 31 = .ok (.iconst 1, 1) ∧ decode cX6_leftAtMost 32 = .ok (.iand, 1) ∧ decode cX6_leftAtMost 33 = .ok (.iconst 1, 1) ∧ decode cX6_leftAtMost 34 = .ok (.if_icmp .ne 6, 3) ∧ decode cX6_leftAtMost 37 = .ok (.iinc 3 1, 3) := by decide +kernel
theorem dX6_leftAtMost_27 : decode cX6_leftAtMost 27 = .ok (.iload 4, 2) := dAX6_leftAtMost_2.1
theorem dX6_leftAtMost_29 : decode cX6_leftAtMost 29 = .ok (.iload_n 2, 1) := dAX6_leftAtMost_2.2.1
theorem dX6_leftAtMost_30 : decode cX6_leftAtMost 30 = .ok (.ishr, 1) := dAX6_leftAtMost_2.2.2.1
theorem dX6_leftAtMost_31 : decode cX6_leftAtMost 31 = .ok (.iconst 1, 1) := dAX6_leftAtMost_2.2.2.2.1
theorem dX6_leftAtMost_32 : decode cX6_leftAtMost 32 = .ok (.iand, 1) := dAX6_leftAtMost_2.2.2.2.2.1
theorem dX6_leftAtMost_33 : decode cX6_leftAtMost 33 = .ok (.iconst 1, 1) := dAX6_leftAtMost_2.2.2.2.2.2.1
theorem dX6_leftAtMost_34 : decode cX6_leftAtMost 34 = .ok (.if_icmp .ne 6, 3) := dAX6_leftAtMost_2.2.2.2.2.2.2.1
theorem dX6_leftAtMost_37 : decode cX6_leftAtMost 37 = .ok (.iinc 3 1, 3) := dAX6_leftAtMost_2.2.2.2.2.2.2.2
set_option maxRecDepth 100000 in
theorem dAX6_leftAtMost_3 : decode cX6_leftAtMost 40 = .ok (.iinc 4 1, 3) ∧ decode cX6_leftAtMost 43 = .ok (.goto (-38), 3) ∧ decode cX6_leftAtMost 46 = .ok (.iload_n 3, 1) ∧ decode cX6_leftAtMost 47 = .ok (.iload_n 1, 1) ∧ decode cX6_leftAtMost 48 = .ok (.invokestatic 227, 3) ∧ decode cX6_leftAtMost 51 = .ok (.iload_n 3, 1) ∧ decode cX6_leftAtMost 52 = .ok (.isub, 1) ∧ decode cX6_leftAtMost 53 = .ok (.invokestatic 281, 3) := by decide +kernel
theorem dX6_leftAtMost_40 : decode cX6_leftAtMost 40 = .ok (.iinc 4 1, 3) := dAX6_leftAtMost_3.1
theorem dX6_leftAtMost_43 : decode cX6_leftAtMost 43 = .ok (.goto (-38), 3) := dAX6_leftAtMost_3.2.1
theorem dX6_leftAtMost_46 : decode cX6_leftAtMost 46 = .ok (.iload_n 3, 1) := dAX6_leftAtMost_3.2.2.1
theorem dX6_leftAtMost_47 : decode cX6_leftAtMost 47 = .ok (.iload_n 1, 1) := dAX6_leftAtMost_3.2.2.2.1
theorem dX6_leftAtMost_48 : decode cX6_leftAtMost 48 = .ok (.invokestatic 227, 3) := dAX6_leftAtMost_3.2.2.2.2.1
theorem dX6_leftAtMost_51 : decode cX6_leftAtMost 51 = .ok (.iload_n 3, 1) := dAX6_leftAtMost_3.2.2.2.2.2.1
theorem dX6_leftAtMost_52 : decode cX6_leftAtMost 52 = .ok (.isub, 1) := dAX6_leftAtMost_3.2.2.2.2.2.2.1
theorem dX6_leftAtMost_53 : decode cX6_leftAtMost 53 = .ok (.invokestatic 281, 3) := dAX6_leftAtMost_3.2.2.2.2.2.2.2
theorem dX6_leftAtMost_56 : decode cX6_leftAtMost 56 = .ok (.ireturn, 1) := by decide +kernel
set_option maxRecDepth 100000 in
theorem dAX6_line_0 : decode cX6_line 0 = .ok (.aload_n 0, 1) ∧ decode cX6_line 1 = .ok (.invokevirtual 140, 3) ∧ decode cX6_line 4 = .ok (.ifCond .eq 7, 3) ∧ decode cX6_line 7 = .ok (.iconst (-1), 1) ∧ decode cX6_line 8 = .ok (.goto 7, 3) ∧ decode cX6_line 11 = .ok (.aload_n 0, 1) ∧ decode cX6_line 12 = .ok (.invokevirtual 169, 3) ∧ decode cX6_line 15 = .ok (.ireturn, 1) := by decide +kernel
theorem dX6_line_0 : decode cX6_line 0 = .ok (.aload_n 0, 1) := dAX6_line_0.1
theorem dX6_line_1 : decode cX6_line 1 = .ok (.invokevirtual 140, 3) := dAX6_line_0.2.1
theorem dX6_line_4 : decode cX6_line 4 = .ok (.ifCond .eq 7, 3) := dAX6_line_0.2.2.1
theorem dX6_line_7 : decode cX6_line 7 = .ok (.iconst (-1), 1) := dAX6_line_0.2.2.2.1
theorem dX6_line_8 : decode cX6_line 8 = .ok (.goto 7, 3) := dAX6_line_0.2.2.2.2.1
theorem dX6_line_11 : decode cX6_line 11 = .ok (.aload_n 0, 1) := dAX6_line_0.2.2.2.2.2.1
theorem dX6_line_12 : decode cX6_line 12 = .ok (.invokevirtual 169, 3) := dAX6_line_0.2.2.2.2.2.2.1
theorem dX6_line_15 : decode cX6_line 15 = .ok (.ireturn, 1) := dAX6_line_0.2.2.2.2.2.2.2
set_option maxRecDepth 100000 in
theorem dAX6_lineAt_0 : decode cX6_lineAt 0 = .ok (.aload_n 0, 1) ∧ decode cX6_lineAt 1 = .ok (.invokevirtual 140, 3) ∧ decode cX6_lineAt 4 = .ok (.ifCond .eq 5, 3) ∧ decode cX6_lineAt 7 = .ok (.iconst (-1), 1) ∧ decode cX6_lineAt 8 = .ok (.ireturn, 1) ∧ decode cX6_lineAt 9 = .ok (.iload_n 1, 1) ∧ decode cX6_lineAt 10 = .ok (.ifCond .lt 11, 3) ∧ decode cX6_lineAt 13 = .ok (.iload_n 1, 1) := by decide +kernel
theorem dX6_lineAt_0 : decode cX6_lineAt 0 = .ok (.aload_n 0, 1) := dAX6_lineAt_0.1
theorem dX6_lineAt_1 : decode cX6_lineAt 1 = .ok (.invokevirtual 140, 3) := dAX6_lineAt_0.2.1
theorem dX6_lineAt_4 : decode cX6_lineAt 4 = .ok (.ifCond .eq 5, 3) := dAX6_lineAt_0.2.2.1
theorem dX6_lineAt_7 : decode cX6_lineAt 7 = .ok (.iconst (-1), 1) := dAX6_lineAt_0.2.2.2.1
theorem dX6_lineAt_8 : decode cX6_lineAt 8 = .ok (.ireturn, 1) := dAX6_lineAt_0.2.2.2.2.1
theorem dX6_lineAt_9 : decode cX6_lineAt 9 = .ok (.iload_n 1, 1) := dAX6_lineAt_0.2.2.2.2.2.1
theorem dX6_lineAt_10 : decode cX6_lineAt 10 = .ok (.ifCond .lt 11, 3) := dAX6_lineAt_0.2.2.2.2.2.2.1
theorem dX6_lineAt_13 : decode cX6_lineAt 13 = .ok (.iload_n 1, 1) := dAX6_lineAt_0.2.2.2.2.2.2.2
set_option maxRecDepth 100000 in
theorem dAX6_lineAt_1 : decode cX6_lineAt 14 = .ok (.aload_n 0, 1) ∧ decode cX6_lineAt 15 = .ok (.invokevirtual 169, 3) ∧ decode cX6_lineAt 18 = .ok (.if_icmp .lt 9, 3) ∧ decode cX6_lineAt 21 = .ok (.aload_n 0, 1) ∧ decode cX6_lineAt 22 = .ok (.iconst 1, 1) ∧ decode cX6_lineAt 23 = .ok (.invokevirtual 66, 3) ∧ decode cX6_lineAt 26 = .ok (.ireturn, 1) ∧ decode cX6_lineAt 27 = .ok (.aload_n 0, 1) := by decide +kernel
theorem dX6_lineAt_14 : decode cX6_lineAt 14 = .ok (.aload_n 0, 1) := dAX6_lineAt_1.1
theorem dX6_lineAt_15 : decode cX6_lineAt 15 = .ok (.invokevirtual 169, 3) := dAX6_lineAt_1.2.1
theorem dX6_lineAt_18 : decode cX6_lineAt 18 = .ok (.if_icmp .lt 9, 3) := dAX6_lineAt_1.2.2.1
theorem dX6_lineAt_21 : decode cX6_lineAt 21 = .ok (.aload_n 0, 1) := dAX6_lineAt_1.2.2.2.1
theorem dX6_lineAt_22 : decode cX6_lineAt 22 = .ok (.iconst 1, 1) := dAX6_lineAt_1.2.2.2.2.1
theorem dX6_lineAt_23 : decode cX6_lineAt 23 = .ok (.invokevirtual 66, 3) := dAX6_lineAt_1.2.2.2.2.2.1
theorem dX6_lineAt_26 : decode cX6_lineAt 26 = .ok (.ireturn, 1) := dAX6_lineAt_1.2.2.2.2.2.2.1
theorem dX6_lineAt_27 : decode cX6_lineAt 27 = .ok (.aload_n 0, 1) := dAX6_lineAt_1.2.2.2.2.2.2.2
set_option maxRecDepth 100000 in
theorem dAX6_lineAt_2 : decode cX6_lineAt 28 = .ok (.getfield 19, 3) ∧ decode cX6_lineAt 31 = .ok (.getfield 144, 3) ∧ decode cX6_lineAt 34 = .ok (.istore_n 2, 1) ∧ decode cX6_lineAt 35 = .ok (.iconst 0, 1) ∧ decode cX6_lineAt 36 = .ok (.istore_n 3, 1) ∧ decode cX6_lineAt 37 = .ok (.iload_n 3, 1) ∧ decode cX6_lineAt 38 = .ok (.iload_n 1, 1) ∧ decode cX6_lineAt 39 = .ok (.if_icmp .ge 19, 3) := by decide +kernel
theorem dX6_lineAt_28 : decode cX6_lineAt 28 = .ok (.getfield 19, 3) := dAX6_lineAt_2.1
theorem dX6_lineAt_31 : decode cX6_lineAt 31 = .ok (.getfield 144, 3) := dAX6_lineAt_2.2.1
theorem dX6_lineAt_34 : decode cX6_lineAt 34 = .ok (.istore_n 2, 1) := dAX6_lineAt_2.2.2.1
theorem dX6_lineAt_35 : decode cX6_lineAt 35 = .ok (.iconst 0, 1) := dAX6_lineAt_2.2.2.2.1
theorem dX6_lineAt_36 : decode cX6_lineAt 36 = .ok (.istore_n 3, 1) := dAX6_lineAt_2.2.2.2.2.1
theorem dX6_lineAt_37 : decode cX6_lineAt 37 = .ok (.iload_n 3, 1) := dAX6_lineAt_2.2.2.2.2.2.1
theorem dX6_lineAt_38 : decode cX6_lineAt 38 = .ok (.iload_n 1, 1) := dAX6_lineAt_2.2.2.2.2.2.2.1
theorem dX6_lineAt_39 : decode cX6_lineAt 39 = .ok (.if_icmp .ge 19, 3) := dAX6_lineAt_2.2.2.2.2.2.2.2
set_option maxRecDepth 100000 in
theorem dAX6_lineAt_3 : decode cX6_lineAt 42 = .ok (.iload_n 2, 1) ∧ decode cX6_lineAt 43 = .ok (.ifCond .lt 15, 3) ∧ decode cX6_lineAt 46 = .ok (.aload_n 0, 1) ∧ decode cX6_lineAt 47 = .ok (.iload_n 2, 1) ∧ decode cX6_lineAt 48 = .ok (.invokevirtual 166, 3) ∧ decode cX6_lineAt 51 = .ok (.istore_n 2, 1) ∧ decode cX6_lineAt 52 = .ok (.iinc 3 1, 3) ∧ decode cX6_lineAt 55 = .ok (.goto (-18), 3) := by decide +kernel
theorem dX6_lineAt_42 : decode cX6_lineAt 42 = .ok (.iload_n 2, 1) := dAX6_lineAt_3.1
theorem dX6_lineAt_43 : decode cX6_lineAt 43 = .ok (.ifCond .lt 15, 3) := dAX6_lineAt_3.2.1
theorem dX6_lineAt_46 : decode cX6_lineAt 46 = .ok (.aload_n 0, 1) := dAX6_lineAt_3.2.2.1
theorem dX6_lineAt_47 : decode cX6_lineAt 47 = .ok (.iload_n 2, 1) := dAX6_lineAt_3.2.2.2.1
theorem dX6_lineAt_48 : decode cX6_lineAt 48 = .ok (.invokevirtual 166, 3) := dAX6_lineAt_3.2.2.2.2.1
theorem dX6_lineAt_51 : decode cX6_lineAt 51 = .ok (.istore_n 2, 1) := dAX6_lineAt_3.2.2.2.2.2.1
theorem dX6_lineAt_52 : decode cX6_lineAt 52 = .ok (.iinc 3 1, 3) := dAX6_lineAt_3.2.2.2.2.2.2.1
theorem dX6_lineAt_55 : decode cX6_lineAt 55 = .ok (.goto (-18), 3) := dAX6_lineAt_3.2.2.2.2.2.2.2
set_option maxRecDepth 100000 in
theorem dAX6_lineAt_4 : decode cX6_lineAt 58 = .ok (.iload_n 2, 1) ∧ decode cX6_lineAt 59 = .ok (.ireturn, 1) := by decide +kernel
theorem dX6_lineAt_58 : decode cX6_lineAt 58 = .ok (.iload_n 2, 1) := dAX6_lineAt_4.1
theorem dX6_lineAt_59 : decode cX6_lineAt 59 = .ok (.ireturn, 1) := dAX6_lineAt_4.2
set_option maxRecDepth 100000 in
theorem dAX6_lineLength_0 : decode cX6_lineLength 0 = .ok (.aload_n 0, 1) ∧ decode cX6_lineLength 1 = .ok (.getfield 54, 3) ∧ decode cX6_lineLength 4 = .ok (.aload_n 0, 1) ∧ decode cX6_lineLength 5 = .ok (.getfield 19, 3) ∧ decode cX6_lineLength 8 = .ok (.aload_n 0, 1) ∧ decode cX6_lineLength 9 = .ok (.getfield 26, 3) ∧ decode cX6_lineLength 12 = .ok (.getfield 149, 3) ∧ decode cX6_lineLength 15 = .ok (.invokevirtual 152, 3) := by decide +kernel
theorem dX6_lineLength_0 : decode cX6_lineLength 0 = .ok (.aload_n 0, 1) := dAX6_lineLength_0.1
theorem dX6_lineLength_1 : decode cX6_lineLength 1 = .ok (.getfield 54, 3) := dAX6_lineLength_0.2.1
theorem dX6_lineLength_4 : decode cX6_lineLength 4 = .ok (.aload_n 0, 1) := dAX6_lineLength_0.2.2.1
theorem dX6_lineLength_5 : decode cX6_lineLength 5 = .ok (.getfield 19, 3) := dAX6_lineLength_0.2.2.2.1
theorem dX6_lineLength_8 : decode cX6_lineLength 8 = .ok (.aload_n 0, 1) := dAX6_lineLength_0.2.2.2.2.1
theorem dX6_lineLength_9 : decode cX6_lineLength 9 = .ok (.getfield 26, 3) := dAX6_lineLength_0.2.2.2.2.2.1
theorem dX6_lineLength_12 : decode cX6_lineLength 12 = .ok (.getfield 149, 3) := dAX6_lineLength_0.2.2.2.2.2.2.1
theorem dX6_lineLength_15 : decode cX6_lineLength 15 = .ok (.invokevirtual 152, 3) := dAX6_lineLength_0.2.2.2.2.2.2.2
set_option maxRecDepth 100000 in
theorem dAX6_lineLength_1 : decode cX6_lineLength 18 = .ok (.pop, 1) ∧ decode cX6_lineLength 19 = .ok (.iconst 1, 1) ∧ decode cX6_lineLength 20 = .ok (.istore_n 1, 1) ∧ decode cX6_lineLength 21 = .ok (.aload_n 0, 1) ∧ decode cX6_lineLength 22 = .ok (.aload_n 0, 1) ∧ decode cX6_lineLength 23 = .ok (.getfield 19, 3) ∧ decode cX6_lineLength 26 = .ok (.getfield 144, 3) ∧ decode cX6_lineLength 29 = .ok (.invokevirtual 166, 3) := by decide +kernel
theorem dX6_lineLength_18 : decode cX6_lineLength 18 = .ok (.pop, 1) := dAX6_lineLength_1.1
theorem dX6_lineLength_19 : decode cX6_lineLength 19 = .ok (.iconst 1, 1) := dAX6_lineLength_1.2.1
theorem dX6_lineLength_20 : decode cX6_lineLength 20 = .ok (.istore_n 1, 1) := dAX6_lineLength_1.2.2.1
theorem dX6_lineLength_21 : decode cX6_lineLength 21 = .ok (.aload_n 0, 1) := dAX6_lineLength_1.2.2.2.1
theorem dX6_lineLength_22 : decode cX6_lineLength 22 = .ok (.aload_n 0, 1) := dAX6_lineLength_1.2.2.2.2.1
theorem dX6_lineLength_23 : decode cX6_lineLength 23 = .ok (.getfield 19, 3) := dAX6_lineLength_1.2.2.2.2.2.1
theorem dX6_lineLength_26 : decode cX6_lineLength 26 = .ok (.getfield 144, 3) := dAX6_lineLength_1.2.2.2.2.2.2.1
theorem dX6_lineLength_29 : decode cX6_lineLength 29 = .ok (.invokevirtual 166, 3) := dAX6_lineLength_1.2.2.2.2.2.2.2
set_option maxRecDepth 100000 in
theorem dAX6_lineLength_2 : decode cX6_lineLength 32 = .ok (.istore_n 2, 1) ∧ decode cX6_lineLength 33 = .ok (.iconst 0, 1) ∧ decode cX6_lineLength 34 = .ok (.istore_n 3, 1) ∧ decode cX6_lineLength 35 = .ok (.iload_n 3, 1) ∧ decode cX6_lineLength 36 = .ok (.bipush 18, 2) ∧ decode cX6_lineLength 38 = .ok (.if_icmp .ge 22, 3) ∧ decode cX6_lineLength 41 = .ok (.iload_n 2, 1) ∧ decode cX6_lineLength 42 = .ok (.ifCond .lt 18, 3) := by decide +kernel
theorem dX6_lineLength_32 : decode cX6_lineLength 32 = .ok (.istore_n 2, 1) := dAX6_lineLength_2.1
theorem dX6_lineLength_33 : decode cX6_lineLength 33 = .ok (.iconst 0, 1) := dAX6_lineLength_2.2.1
theorem dX6_lineLength_34 : decode cX6_lineLength 34 = .ok (.istore_n 3, 1) := dAX6_lineLength_2.2.2.1
theorem dX6_lineLength_35 : decode cX6_lineLength 35 = .ok (.iload_n 3, 1) := dAX6_lineLength_2.2.2.2.1
theorem dX6_lineLength_36 : decode cX6_lineLength 36 = .ok (.bipush 18, 2) := dAX6_lineLength_2.2.2.2.2.1
theorem dX6_lineLength_38 : decode cX6_lineLength 38 = .ok (.if_icmp .ge 22, 3) := dAX6_lineLength_2.2.2.2.2.2.1
theorem dX6_lineLength_41 : decode cX6_lineLength 41 = .ok (.iload_n 2, 1) := dAX6_lineLength_2.2.2.2.2.2.2.1
theorem dX6_lineLength_42 : decode cX6_lineLength 42 = .ok (.ifCond .lt 18, 3) := dAX6_lineLength_2.2.2.2.2.2.2.2
set_option maxRecDepth 100000 in
theorem dAX6_lineLength_3 : decode cX6_lineLength 45 = .ok (.iinc 1 1, 3) ∧ decode cX6_lineLength 48 = .ok (.aload_n 0, 1) ∧ decode cX6_lineLength 49 = .ok (.iload_n 2, 1) ∧ decode cX6_lineLength 50 = .ok (.invokevirtual 166, 3) ∧ decode cX6_lineLength 53 = .ok (.istore_n 2, 1) ∧ decode cX6_lineLength 54 = .ok (.iinc 3 1, 3) ∧ decode cX6_lineLength 57 = .ok (.goto (-22), 3) ∧ decode cX6_lineLength 60 = .ok (.iload_n 1, 1) := by decide +kernel
theorem dX6_lineLength_45 : decode cX6_lineLength 45 = .ok (.iinc 1 1, 3) := dAX6_lineLength_3.1
theorem dX6_lineLength_48 : decode cX6_lineLength 48 = .ok (.aload_n 0, 1) := dAX6_lineLength_3.2.1
theorem dX6_lineLength_49 : decode cX6_lineLength 49 = .ok (.iload_n 2, 1) := dAX6_lineLength_3.2.2.1
theorem dX6_lineLength_50 : decode cX6_lineLength 50 = .ok (.invokevirtual 166, 3) := dAX6_lineLength_3.2.2.2.1
theorem dX6_lineLength_53 : decode cX6_lineLength 53 = .ok (.istore_n 2, 1) := dAX6_lineLength_3.2.2.2.2.1
theorem dX6_lineLength_54 : decode cX6_lineLength 54 = .ok (.iinc 3 1, 3) := dAX6_lineLength_3.2.2.2.2.2.1
theorem dX6_lineLength_57 : decode cX6_lineLength 57 = .ok (.goto (-22), 3) := dAX6_lineLength_3.2.2.2.2.2.2.1
theorem dX6_lineLength_60 : decode cX6_lineLength 60 = .ok (.iload_n 1, 1) := dAX6_lineLength_3.2.2.2.2.2.2.2
theorem dX6_lineLength_61 : decode cX6_lineLength 61 = .ok (.ireturn, 1) := by decide +kernel
set_option maxRecDepth 100000 in
theorem dAX6_mean_0 : decode cX6_mean 0 = .ok (.aload_n 0, 1) ∧ decode cX6_mean 1 = .ok (.invokevirtual 140, 3) ∧ decode cX6_mean 4 = .ok (.ifCond .eq 7, 3) ∧ decode cX6_mean 7 = .ok (.ldc2_w 147, 3) ∧ decode cX6_mean 10 = .ok (.lreturn, 1) ∧ decode cX6_mean 11 = .ok (.lconst 0, 1) ∧ decode cX6_mean 12 = .ok (.lstore_n 2, 1) ∧ decode cX6_mean 13 = .ok (.iconst 0, 1) := by decide +kernel
theorem dX6_mean_0 : decode cX6_mean 0 = .ok (.aload_n 0, 1) := dAX6_mean_0.1
theorem dX6_mean_1 : decode cX6_mean 1 = .ok (.invokevirtual 140, 3) := dAX6_mean_0.2.1
theorem dX6_mean_4 : decode cX6_mean 4 = .ok (.ifCond .eq 7, 3) := dAX6_mean_0.2.2.1
theorem dX6_mean_7 : decode cX6_mean 7 = .ok (.ldc2_w 147, 3) := dAX6_mean_0.2.2.2.1
theorem dX6_mean_10 : decode cX6_mean 10 = .ok (.lreturn, 1) := dAX6_mean_0.2.2.2.2.1
theorem dX6_mean_11 : decode cX6_mean 11 = .ok (.lconst 0, 1) := dAX6_mean_0.2.2.2.2.2.1
theorem dX6_mean_12 : decode cX6_mean 12 = .ok (.lstore_n 2, 1) := dAX6_mean_0.2.2.2.2.2.2.1
theorem dX6_mean_13 : decode cX6_mean 13 = .ok (.iconst 0, 1) := dAX6_mean_0.2.2.2.2.2.2.2
set_option maxRecDepth 100000 in
theorem dAX6_mean_1 : decode cX6_mean 14 = .ok (.istore 4, 2) ∧ decode cX6_mean 16 = .ok (.iload 4, 2) ∧ decode cX6_mean 18 = .ok (.aload_n 0, 1) ∧ decode cX6_mean 19 = .ok (.getfield 19, 3) ∧ decode cX6_mean 22 = .ok (.invokevirtual 290, 3) ∧ decode cX6_mean 25 = .ok (.if_icmp .ge 43, 3) ∧ decode cX6_mean 28 = .ok (.lload_n 2, 1) ∧ decode cX6_mean 29 = .ok (.aload_n 0, 1) := by decide +kernel
theorem dX6_mean_14 : decode cX6_mean 14 = .ok (.istore 4, 2) := dAX6_mean_1.1
theorem dX6_mean_16 : decode cX6_mean 16 = .ok (.iload 4, 2) := dAX6_mean_1.2.1
theorem dX6_mean_18 : decode cX6_mean 18 = .ok (.aload_n 0, 1) := dAX6_mean_1.2.2.1
theorem dX6_mean_19 : decode cX6_mean 19 = .ok (.getfield 19, 3) := dAX6_mean_1.2.2.2.1
theorem dX6_mean_22 : decode cX6_mean 22 = .ok (.invokevirtual 290, 3) := dAX6_mean_1.2.2.2.2.1
theorem dX6_mean_25 : decode cX6_mean 25 = .ok (.if_icmp .ge 43, 3) := dAX6_mean_1.2.2.2.2.2.1
theorem dX6_mean_28 : decode cX6_mean 28 = .ok (.lload_n 2, 1) := dAX6_mean_1.2.2.2.2.2.2.1
theorem dX6_mean_29 : decode cX6_mean 29 = .ok (.aload_n 0, 1) := dAX6_mean_1.2.2.2.2.2.2.2
set_option maxRecDepth 100000 in
theorem dAX6_mean_2 : decode cX6_mean 30 = .ok (.getfield 19, 3) ∧ decode cX6_mean 33 = .ok (.iload 4, 2) ∧ decode cX6_mean 35 = .ok (.invokevirtual 318, 3) ∧ decode cX6_mean 38 = .ok (.aload_n 0, 1) ∧ decode cX6_mean 39 = .ok (.getfield 54, 3) ∧ decode cX6_mean 42 = .ok (.aload_n 0, 1) ∧ decode cX6_mean 43 = .ok (.getfield 19, 3) ∧ decode cX6_mean 46 = .ok (.aload_n 0, 1) := by decide +kernel
theorem dX6_mean_30 : decode cX6_mean 30 = .ok (.getfield 19, 3) := dAX6_mean_2.1
theorem dX6_mean_33 : decode cX6_mean 33 = .ok (.iload 4, 2) := dAX6_mean_2.2.1
theorem dX6_mean_35 : decode cX6_mean 35 = .ok (.invokevirtual 318, 3) := dAX6_mean_2.2.2.1
theorem dX6_mean_38 : decode cX6_mean 38 = .ok (.aload_n 0, 1) := dAX6_mean_2.2.2.2.1
theorem dX6_mean_39 : decode cX6_mean 39 = .ok (.getfield 54, 3) := dAX6_mean_2.2.2.2.2.1
theorem dX6_mean_42 : decode cX6_mean 42 = .ok (.aload_n 0, 1) := dAX6_mean_2.2.2.2.2.2.1
theorem dX6_mean_43 : decode cX6_mean 43 = .ok (.getfield 19, 3) := dAX6_mean_2.2.2.2.2.2.2.1
theorem dX6_mean_46 : decode cX6_mean 46 = .ok (.aload_n 0, 1) := dAX6_mean_2.2.2.2.2.2.2.2
set_option maxRecDepth 100000 in
theorem dAX6_mean_3 : decode cX6_mean 47 = .ok (.getfield 26, 3) ∧ decode cX6_mean 50 = .ok (.getfield 149, 3) ∧ decode cX6_mean 53 = .ok (.iload 4, 2) ∧ decode cX6_mean 55 = .ok (.invokevirtual 305, 3) ∧ decode cX6_mean 58 = .ok (.i2l, 1) ∧ decode cX6_mean 59 = .ok (.lmul, 1) ∧ decode cX6_mean 60 = .ok (.ladd, 1) ∧ decode cX6_mean 61 = .ok (.lstore_n 2, 1) := by decide +kernel
theorem dX6_mean_47 : decode cX6_mean 47 = .ok (.getfield 26, 3) := dAX6_mean_3.1
theorem dX6_mean_50 : decode cX6_mean 50 = .ok (.getfield 149, 3) := dAX6_mean_3.2.1
theorem dX6_mean_53 : decode cX6_mean 53 = .ok (.iload 4, 2) := dAX6_mean_3.2.2.1
theorem dX6_mean_55 : decode cX6_mean 55 = .ok (.invokevirtual 305, 3) := dAX6_mean_3.2.2.2.1
theorem dX6_mean_58 : decode cX6_mean 58 = .ok (.i2l, 1) := dAX6_mean_3.2.2.2.2.1
theorem dX6_mean_59 : decode cX6_mean 59 = .ok (.lmul, 1) := dAX6_mean_3.2.2.2.2.2.1
theorem dX6_mean_60 : decode cX6_mean 60 = .ok (.ladd, 1) := dAX6_mean_3.2.2.2.2.2.2.1
theorem dX6_mean_61 : decode cX6_mean 61 = .ok (.lstore_n 2, 1) := dAX6_mean_3.2.2.2.2.2.2.2
set_option maxRecDepth 100000 in
theorem dAX6_mean_4 : decode cX6_mean 62 = .ok (.iinc 4 1, 3) ∧ decode cX6_mean 65 = .ok (.goto (-49), 3) ∧ decode cX6_mean 68 = .ok (.lload_n 2, 1) ∧ decode cX6_mean 69 = .ok (.aload_n 0, 1) ∧ decode cX6_mean 70 = .ok (.getfield 19, 3) ∧ decode cX6_mean 73 = .ok (.invokevirtual 322, 3) ∧ decode cX6_mean 76 = .ok (.aload_n 0, 1) ∧ decode cX6_mean 77 = .ok (.getfield 19, 3) := by decide +kernel
theorem dX6_mean_62 : decode cX6_mean 62 = .ok (.iinc 4 1, 3) := dAX6_mean_4.1
theorem dX6_mean_65 : decode cX6_mean 65 = .ok (.goto (-49), 3) := dAX6_mean_4.2.1
theorem dX6_mean_68 : decode cX6_mean 68 = .ok (.lload_n 2, 1) := dAX6_mean_4.2.2.1
theorem dX6_mean_69 : decode cX6_mean 69 = .ok (.aload_n 0, 1) := dAX6_mean_4.2.2.2.1
theorem dX6_mean_70 : decode cX6_mean 70 = .ok (.getfield 19, 3) := dAX6_mean_4.2.2.2.2.1
theorem dX6_mean_73 : decode cX6_mean 73 = .ok (.invokevirtual 322, 3) := dAX6_mean_4.2.2.2.2.2.1
theorem dX6_mean_76 : decode cX6_mean 76 = .ok (.aload_n 0, 1) := dAX6_mean_4.2.2.2.2.2.2.1
theorem dX6_mean_77 : decode cX6_mean 77 = .ok (.getfield 19, 3) := dAX6_mean_4.2.2.2.2.2.2.2
set_option maxRecDepth 100000 in
theorem dAX6_mean_5 : decode cX6_mean 80 = .ok (.getfield 159, 3) ∧ decode cX6_mean 83 = .ok (.i2l, 1) ∧ decode cX6_mean 84 = .ok (.lmul, 1) ∧ decode cX6_mean 85 = .ok (.iload_n 1, 1) ∧ decode cX6_mean 86 = .ok (.invokestatic 162, 3) ∧ decode cX6_mean 89 = .ok (.lreturn, 1) := by decide +kernel
theorem dX6_mean_80 : decode cX6_mean 80 = .ok (.getfield 159, 3) := dAX6_mean_5.1
theorem dX6_mean_83 : decode cX6_mean 83 = .ok (.i2l, 1) := dAX6_mean_5.2.1
theorem dX6_mean_84 : decode cX6_mean 84 = .ok (.lmul, 1) := dAX6_mean_5.2.2.1
theorem dX6_mean_85 : decode cX6_mean 85 = .ok (.iload_n 1, 1) := dAX6_mean_5.2.2.2.1
theorem dX6_mean_86 : decode cX6_mean 86 = .ok (.invokestatic 162, 3) := dAX6_mean_5.2.2.2.2.1
theorem dX6_mean_89 : decode cX6_mean 89 = .ok (.lreturn, 1) := dAX6_mean_5.2.2.2.2.2
set_option maxRecDepth 100000 in
theorem dAX6_night_0 : decode cX6_night 0 = .ok (.aload_n 0, 1) ∧ decode cX6_night 1 = .ok (.iload_n 1, 1) ∧ decode cX6_night 2 = .ok (.iconst 0, 1) ∧ decode cX6_night 3 = .ok (.bipush 9, 2) ∧ decode cX6_night 5 = .ok (.invokevirtual 203, 3) ∧ decode cX6_night 8 = .ok (.ifCond .eq 7, 3) ∧ decode cX6_night 11 = .ok (.ldc2_w 147, 3) ∧ decode cX6_night 14 = .ok (.lreturn, 1) := by decide +kernel
theorem dX6_night_0 : decode cX6_night 0 = .ok (.aload_n 0, 1) := dAX6_night_0.1
theorem dX6_night_1 : decode cX6_night 1 = .ok (.iload_n 1, 1) := dAX6_night_0.2.1
theorem dX6_night_2 : decode cX6_night 2 = .ok (.iconst 0, 1) := dAX6_night_0.2.2.1
theorem dX6_night_3 : decode cX6_night 3 = .ok (.bipush 9, 2) := dAX6_night_0.2.2.2.1
theorem dX6_night_5 : decode cX6_night 5 = .ok (.invokevirtual 203, 3) := dAX6_night_0.2.2.2.2.1
theorem dX6_night_8 : decode cX6_night 8 = .ok (.ifCond .eq 7, 3) := dAX6_night_0.2.2.2.2.2.1
theorem dX6_night_11 : decode cX6_night 11 = .ok (.ldc2_w 147, 3) := dAX6_night_0.2.2.2.2.2.2.1
theorem dX6_night_14 : decode cX6_night 14 = .ok (.lreturn, 1) := dAX6_night_0.2.2.2.2.2.2.2
set_option maxRecDepth 100000 in
theorem dAX6_night_1 : decode cX6_night 15 = .ok (.aload_n 0, 1) ∧ decode cX6_night 16 = .ok (.getfield 54, 3) ∧ decode cX6_night 19 = .ok (.aload_n 0, 1) ∧ decode cX6_night 20 = .ok (.getfield 19, 3) ∧ decode cX6_night 23 = .ok (.aload_n 0, 1) ∧ decode cX6_night 24 = .ok (.getfield 26, 3) ∧ decode cX6_night 27 = .ok (.getfield 149, 3) ∧ decode cX6_night 30 = .ok (.invokevirtual 264, 3) := by decide +kernel
theorem dX6_night_15 : decode cX6_night 15 = .ok (.aload_n 0, 1) := dAX6_night_1.1
theorem dX6_night_16 : decode cX6_night 16 = .ok (.getfield 54, 3) := dAX6_night_1.2.1
theorem dX6_night_19 : decode cX6_night 19 = .ok (.aload_n 0, 1) := dAX6_night_1.2.2.1
theorem dX6_night_20 : decode cX6_night 20 = .ok (.getfield 19, 3) := dAX6_night_1.2.2.2.1
theorem dX6_night_23 : decode cX6_night 23 = .ok (.aload_n 0, 1) := dAX6_night_1.2.2.2.2.1
theorem dX6_night_24 : decode cX6_night 24 = .ok (.getfield 26, 3) := dAX6_night_1.2.2.2.2.2.1
theorem dX6_night_27 : decode cX6_night 27 = .ok (.getfield 149, 3) := dAX6_night_1.2.2.2.2.2.2.1
theorem dX6_night_30 : decode cX6_night 30 = .ok (.invokevirtual 264, 3) := dAX6_night_1.2.2.2.2.2.2.2
set_option maxRecDepth 100000 in
theorem dAX6_night_2 : decode cX6_night 33 = .ok (.iconst 0, 1) ∧ decode cX6_night 34 = .ok (.istore_n 3, 1) ∧ decode cX6_night 35 = .ok (.iload_n 3, 1) ∧ decode cX6_night 36 = .ok (.iload_n 1, 1) ∧ decode cX6_night 37 = .ok (.if_icmp .ge 20, 3) ∧ decode cX6_night 40 = .ok (.aload_n 0, 1) ∧ decode cX6_night 41 = .ok (.getfield 54, 3) ∧ decode cX6_night 44 = .ok (.aload_n 0, 1) := by decide +kernel
theorem dX6_night_33 : decode cX6_night 33 = .ok (.iconst 0, 1) := dAX6_night_2.1
theorem dX6_night_34 : decode cX6_night 34 = .ok (.istore_n 3, 1) := dAX6_night_2.2.1
theorem dX6_night_35 : decode cX6_night 35 = .ok (.iload_n 3, 1) := dAX6_night_2.2.2.1
theorem dX6_night_36 : decode cX6_night 36 = .ok (.iload_n 1, 1) := dAX6_night_2.2.2.2.1
theorem dX6_night_37 : decode cX6_night 37 = .ok (.if_icmp .ge 20, 3) := dAX6_night_2.2.2.2.2.1
theorem dX6_night_40 : decode cX6_night 40 = .ok (.aload_n 0, 1) := dAX6_night_2.2.2.2.2.2.1
theorem dX6_night_41 : decode cX6_night 41 = .ok (.getfield 54, 3) := dAX6_night_2.2.2.2.2.2.2.1
theorem dX6_night_44 : decode cX6_night 44 = .ok (.aload_n 0, 1) := dAX6_night_2.2.2.2.2.2.2.2
set_option maxRecDepth 100000 in
theorem dAX6_night_3 : decode cX6_night 45 = .ok (.getfield 19, 3) ∧ decode cX6_night 48 = .ok (.invokevirtual 268, 3) ∧ decode cX6_night 51 = .ok (.iinc 3 1, 3) ∧ decode cX6_night 54 = .ok (.goto (-19), 3) ∧ decode cX6_night 57 = .ok (.aload_n 0, 1) ∧ decode cX6_night 58 = .ok (.getfield 54, 3) ∧ decode cX6_night 61 = .ok (.getfield 156, 3) ∧ decode cX6_night 64 = .ok (.aload_n 0, 1) := by decide +kernel
theorem dX6_night_45 : decode cX6_night 45 = .ok (.getfield 19, 3) := dAX6_night_3.1
theorem dX6_night_48 : decode cX6_night 48 = .ok (.invokevirtual 268, 3) := dAX6_night_3.2.1
theorem dX6_night_51 : decode cX6_night 51 = .ok (.iinc 3 1, 3) := dAX6_night_3.2.2.1
theorem dX6_night_54 : decode cX6_night 54 = .ok (.goto (-19), 3) := dAX6_night_3.2.2.2.1
theorem dX6_night_57 : decode cX6_night 57 = .ok (.aload_n 0, 1) := dAX6_night_3.2.2.2.2.1
theorem dX6_night_58 : decode cX6_night 58 = .ok (.getfield 54, 3) := dAX6_night_3.2.2.2.2.2.1
theorem dX6_night_61 : decode cX6_night 61 = .ok (.getfield 156, 3) := dAX6_night_3.2.2.2.2.2.2.1
theorem dX6_night_64 : decode cX6_night 64 = .ok (.aload_n 0, 1) := dAX6_night_3.2.2.2.2.2.2.2
set_option maxRecDepth 100000 in
theorem dAX6_night_4 : decode cX6_night 65 = .ok (.getfield 19, 3) ∧ decode cX6_night 68 = .ok (.getfield 144, 3) ∧ decode cX6_night 71 = .ok (.iaload, 1) ∧ decode cX6_night 72 = .ok (.i2l, 1) ∧ decode cX6_night 73 = .ok (.aload_n 0, 1) ∧ decode cX6_night 74 = .ok (.getfield 19, 3) ∧ decode cX6_night 77 = .ok (.getfield 159, 3) ∧ decode cX6_night 80 = .ok (.i2l, 1) := by decide +kernel
theorem dX6_night_65 : decode cX6_night 65 = .ok (.getfield 19, 3) := dAX6_night_4.1
theorem dX6_night_68 : decode cX6_night 68 = .ok (.getfield 144, 3) := dAX6_night_4.2.1
theorem dX6_night_71 : decode cX6_night 71 = .ok (.iaload, 1) := dAX6_night_4.2.2.1
theorem dX6_night_72 : decode cX6_night 72 = .ok (.i2l, 1) := dAX6_night_4.2.2.2.1
theorem dX6_night_73 : decode cX6_night 73 = .ok (.aload_n 0, 1) := dAX6_night_4.2.2.2.2.1
theorem dX6_night_74 : decode cX6_night 74 = .ok (.getfield 19, 3) := dAX6_night_4.2.2.2.2.2.1
theorem dX6_night_77 : decode cX6_night 77 = .ok (.getfield 159, 3) := dAX6_night_4.2.2.2.2.2.2.1
theorem dX6_night_80 : decode cX6_night 80 = .ok (.i2l, 1) := dAX6_night_4.2.2.2.2.2.2.2
set_option maxRecDepth 100000 in
theorem dAX6_night_5 : decode cX6_night 81 = .ok (.iload_n 2, 1) ∧ decode cX6_night 82 = .ok (.invokestatic 162, 3) ∧ decode cX6_night 85 = .ok (.lreturn, 1) := by decide +kernel
theorem dX6_night_81 : decode cX6_night 81 = .ok (.iload_n 2, 1) := dAX6_night_5.1
theorem dX6_night_82 : decode cX6_night 82 = .ok (.invokestatic 162, 3) := dAX6_night_5.2.1
theorem dX6_night_85 : decode cX6_night 85 = .ok (.lreturn, 1) := dAX6_night_5.2.2
set_option maxRecDepth 100000 in
theorem dAX6_node_0 : decode cX6_node 0 = .ok (.aload_n 0, 1) ∧ decode cX6_node 1 = .ok (.iload_n 1, 1) ∧ decode cX6_node 2 = .ok (.invokevirtual 106, 3) ∧ decode cX6_node 5 = .ok (.ifCond .eq 5, 3) ∧ decode cX6_node 8 = .ok (.iconst (-1), 1) ∧ decode cX6_node 9 = .ok (.ireturn, 1) ∧ decode cX6_node 10 = .ok (.iload_n 2, 1) ∧ decode cX6_node 11 = .ok (.tableswitch 83 0 4 #[33, 43, 53, 63, 73], 33) := by decide +kernel
theorem dX6_node_0 : decode cX6_node 0 = .ok (.aload_n 0, 1) := dAX6_node_0.1
theorem dX6_node_1 : decode cX6_node 1 = .ok (.iload_n 1, 1) := dAX6_node_0.2.1
theorem dX6_node_2 : decode cX6_node 2 = .ok (.invokevirtual 106, 3) := dAX6_node_0.2.2.1
theorem dX6_node_5 : decode cX6_node 5 = .ok (.ifCond .eq 5, 3) := dAX6_node_0.2.2.2.1
theorem dX6_node_8 : decode cX6_node 8 = .ok (.iconst (-1), 1) := dAX6_node_0.2.2.2.2.1
theorem dX6_node_9 : decode cX6_node 9 = .ok (.ireturn, 1) := dAX6_node_0.2.2.2.2.2.1
theorem dX6_node_10 : decode cX6_node 10 = .ok (.iload_n 2, 1) := dAX6_node_0.2.2.2.2.2.2.1
theorem dX6_node_11 : decode cX6_node 11 = .ok (.tableswitch 83 0 4 #[33, 43, 53, 63, 73], 33) := dAX6_node_0.2.2.2.2.2.2.2
set_option maxRecDepth 100000 in
theorem dAX6_node_1 : decode cX6_node 44 = .ok (.aload_n 0, 1) ∧ decode cX6_node 45 = .ok (.getfield 19, 3) ∧ decode cX6_node 48 = .ok (.getfield 109, 3) ∧ decode cX6_node 51 = .ok (.iload_n 1, 1) ∧ decode cX6_node 52 = .ok (.iaload, 1) ∧ decode cX6_node 53 = .ok (.ireturn, 1) ∧ decode cX6_node 54 = .ok (.aload_n 0, 1) ∧ decode cX6_node 55 = .ok (.getfield 19, 3) := by decide +kernel
theorem dX6_node_44 : decode cX6_node 44 = .ok (.aload_n 0, 1) := dAX6_node_1.1
theorem dX6_node_45 : decode cX6_node 45 = .ok (.getfield 19, 3) := dAX6_node_1.2.1
theorem dX6_node_48 : decode cX6_node 48 = .ok (.getfield 109, 3) := dAX6_node_1.2.2.1
theorem dX6_node_51 : decode cX6_node 51 = .ok (.iload_n 1, 1) := dAX6_node_1.2.2.2.1
theorem dX6_node_52 : decode cX6_node 52 = .ok (.iaload, 1) := dAX6_node_1.2.2.2.2.1
theorem dX6_node_53 : decode cX6_node 53 = .ok (.ireturn, 1) := dAX6_node_1.2.2.2.2.2.1
theorem dX6_node_54 : decode cX6_node 54 = .ok (.aload_n 0, 1) := dAX6_node_1.2.2.2.2.2.2.1
theorem dX6_node_55 : decode cX6_node 55 = .ok (.getfield 19, 3) := dAX6_node_1.2.2.2.2.2.2.2
set_option maxRecDepth 100000 in
theorem dAX6_node_2 : decode cX6_node 58 = .ok (.getfield 113, 3) ∧ decode cX6_node 61 = .ok (.iload_n 1, 1) ∧ decode cX6_node 62 = .ok (.iaload, 1) ∧ decode cX6_node 63 = .ok (.ireturn, 1) ∧ decode cX6_node 64 = .ok (.aload_n 0, 1) ∧ decode cX6_node 65 = .ok (.getfield 19, 3) ∧ decode cX6_node 68 = .ok (.getfield 116, 3) ∧ decode cX6_node 71 = .ok (.iload_n 1, 1) := by decide +kernel
theorem dX6_node_58 : decode cX6_node 58 = .ok (.getfield 113, 3) := dAX6_node_2.1
theorem dX6_node_61 : decode cX6_node 61 = .ok (.iload_n 1, 1) := dAX6_node_2.2.1
theorem dX6_node_62 : decode cX6_node 62 = .ok (.iaload, 1) := dAX6_node_2.2.2.1
theorem dX6_node_63 : decode cX6_node 63 = .ok (.ireturn, 1) := dAX6_node_2.2.2.2.1
theorem dX6_node_64 : decode cX6_node 64 = .ok (.aload_n 0, 1) := dAX6_node_2.2.2.2.2.1
theorem dX6_node_65 : decode cX6_node 65 = .ok (.getfield 19, 3) := dAX6_node_2.2.2.2.2.2.1
theorem dX6_node_68 : decode cX6_node 68 = .ok (.getfield 116, 3) := dAX6_node_2.2.2.2.2.2.2.1
theorem dX6_node_71 : decode cX6_node 71 = .ok (.iload_n 1, 1) := dAX6_node_2.2.2.2.2.2.2.2
set_option maxRecDepth 100000 in
theorem dAX6_node_3 : decode cX6_node 72 = .ok (.iaload, 1) ∧ decode cX6_node 73 = .ok (.ireturn, 1) ∧ decode cX6_node 74 = .ok (.aload_n 0, 1) ∧ decode cX6_node 75 = .ok (.getfield 19, 3) ∧ decode cX6_node 78 = .ok (.getfield 119, 3) ∧ decode cX6_node 81 = .ok (.iload_n 1, 1) ∧ decode cX6_node 82 = .ok (.iaload, 1) ∧ decode cX6_node 83 = .ok (.ireturn, 1) := by decide +kernel
theorem dX6_node_72 : decode cX6_node 72 = .ok (.iaload, 1) := dAX6_node_3.1
theorem dX6_node_73 : decode cX6_node 73 = .ok (.ireturn, 1) := dAX6_node_3.2.1
theorem dX6_node_74 : decode cX6_node 74 = .ok (.aload_n 0, 1) := dAX6_node_3.2.2.1
theorem dX6_node_75 : decode cX6_node 75 = .ok (.getfield 19, 3) := dAX6_node_3.2.2.2.1
theorem dX6_node_78 : decode cX6_node 78 = .ok (.getfield 119, 3) := dAX6_node_3.2.2.2.2.1
theorem dX6_node_81 : decode cX6_node 81 = .ok (.iload_n 1, 1) := dAX6_node_3.2.2.2.2.2.1
theorem dX6_node_82 : decode cX6_node 82 = .ok (.iaload, 1) := dAX6_node_3.2.2.2.2.2.2.1
theorem dX6_node_83 : decode cX6_node 83 = .ok (.ireturn, 1) := dAX6_node_3.2.2.2.2.2.2.2
set_option maxRecDepth 100000 in
theorem dAX6_node_4 : decode cX6_node 84 = .ok (.aload_n 0, 1) ∧ decode cX6_node 85 = .ok (.getfield 19, 3) ∧ decode cX6_node 88 = .ok (.getfield 122, 3) ∧ decode cX6_node 91 = .ok (.iload_n 1, 1) ∧ decode cX6_node 92 = .ok (.iaload, 1) ∧ decode cX6_node 93 = .ok (.ireturn, 1) ∧ decode cX6_node 94 = .ok (.aload_n 0, 1) ∧ decode cX6_node 95 = .ok (.iconst 1, 1) := by decide +kernel
theorem dX6_node_84 : decode cX6_node 84 = .ok (.aload_n 0, 1) := dAX6_node_4.1
theorem dX6_node_85 : decode cX6_node 85 = .ok (.getfield 19, 3) := dAX6_node_4.2.1
theorem dX6_node_88 : decode cX6_node 88 = .ok (.getfield 122, 3) := dAX6_node_4.2.2.1
theorem dX6_node_91 : decode cX6_node 91 = .ok (.iload_n 1, 1) := dAX6_node_4.2.2.2.1
theorem dX6_node_92 : decode cX6_node 92 = .ok (.iaload, 1) := dAX6_node_4.2.2.2.2.1
theorem dX6_node_93 : decode cX6_node 93 = .ok (.ireturn, 1) := dAX6_node_4.2.2.2.2.2.1
theorem dX6_node_94 : decode cX6_node 94 = .ok (.aload_n 0, 1) := dAX6_node_4.2.2.2.2.2.2.1
theorem dX6_node_95 : decode cX6_node 95 = .ok (.iconst 1, 1) := dAX6_node_4.2.2.2.2.2.2.2
set_option maxRecDepth 100000 in
theorem dAX6_node_5 : decode cX6_node 96 = .ok (.invokevirtual 66, 3) ∧ decode cX6_node 99 = .ok (.ireturn, 1) := by decide +kernel
theorem dX6_node_96 : decode cX6_node 96 = .ok (.invokevirtual 66, 3) := dAX6_node_5.1
theorem dX6_node_99 : decode cX6_node 99 = .ok (.ireturn, 1) := dAX6_node_5.2
set_option maxRecDepth 100000 in
theorem dAX6_odds_0 : decode cX6_odds 0 = .ok (.aload_n 0, 1) ∧ decode cX6_odds 1 = .ok (.iload_n 1, 1) ∧ decode cX6_odds 2 = .ok (.iconst 0, 1) ∧ decode cX6_odds 3 = .ok (.bipush 99, 2) ∧ decode cX6_odds 5 = .ok (.invokevirtual 203, 3) ∧ decode cX6_odds 8 = .ok (.ifCond .eq 7, 3) ∧ decode cX6_odds 11 = .ok (.ldc2_w 147, 3) ∧ decode cX6_odds 14 = .ok (.lreturn, 1) := by decide +kernel
theorem dX6_odds_0 : decode cX6_odds 0 = .ok (.aload_n 0, 1) := dAX6_odds_0.1
theorem dX6_odds_1 : decode cX6_odds 1 = .ok (.iload_n 1, 1) := dAX6_odds_0.2.1
theorem dX6_odds_2 : decode cX6_odds 2 = .ok (.iconst 0, 1) := dAX6_odds_0.2.2.1
theorem dX6_odds_3 : decode cX6_odds 3 = .ok (.bipush 99, 2) := dAX6_odds_0.2.2.2.1
theorem dX6_odds_5 : decode cX6_odds 5 = .ok (.invokevirtual 203, 3) := dAX6_odds_0.2.2.2.2.1
theorem dX6_odds_8 : decode cX6_odds 8 = .ok (.ifCond .eq 7, 3) := dAX6_odds_0.2.2.2.2.2.1
theorem dX6_odds_11 : decode cX6_odds 11 = .ok (.ldc2_w 147, 3) := dAX6_odds_0.2.2.2.2.2.2.1
theorem dX6_odds_14 : decode cX6_odds 14 = .ok (.lreturn, 1) := dAX6_odds_0.2.2.2.2.2.2.2
set_option maxRecDepth 100000 in
theorem dAX6_odds_1 : decode cX6_odds 15 = .ok (.lconst 0, 1) ∧ decode cX6_odds 16 = .ok (.lstore_n 3, 1) ∧ decode cX6_odds 17 = .ok (.iconst 0, 1) ∧ decode cX6_odds 18 = .ok (.istore 5, 2) ∧ decode cX6_odds 20 = .ok (.iload 5, 2) ∧ decode cX6_odds 22 = .ok (.aload_n 0, 1) ∧ decode cX6_odds 23 = .ok (.getfield 19, 3) ∧ decode cX6_odds 26 = .ok (.invokevirtual 290, 3) := by decide +kernel
theorem dX6_odds_15 : decode cX6_odds 15 = .ok (.lconst 0, 1) := dAX6_odds_1.1
theorem dX6_odds_16 : decode cX6_odds 16 = .ok (.lstore_n 3, 1) := dAX6_odds_1.2.1
theorem dX6_odds_17 : decode cX6_odds 17 = .ok (.iconst 0, 1) := dAX6_odds_1.2.2.1
theorem dX6_odds_18 : decode cX6_odds 18 = .ok (.istore 5, 2) := dAX6_odds_1.2.2.2.1
theorem dX6_odds_20 : decode cX6_odds 20 = .ok (.iload 5, 2) := dAX6_odds_1.2.2.2.2.1
theorem dX6_odds_22 : decode cX6_odds 22 = .ok (.aload_n 0, 1) := dAX6_odds_1.2.2.2.2.2.1
theorem dX6_odds_23 : decode cX6_odds 23 = .ok (.getfield 19, 3) := dAX6_odds_1.2.2.2.2.2.2.1
theorem dX6_odds_26 : decode cX6_odds 26 = .ok (.invokevirtual 290, 3) := dAX6_odds_1.2.2.2.2.2.2.2
set_option maxRecDepth 100000 in
theorem dAX6_odds_2 : decode cX6_odds 29 = .ok (.if_icmp .ge 53, 3) ∧ decode cX6_odds 32 = .ok (.aload_n 0, 1) ∧ decode cX6_odds 33 = .ok (.getfield 54, 3) ∧ decode cX6_odds 36 = .ok (.aload_n 0, 1) ∧ decode cX6_odds 37 = .ok (.getfield 19, 3) ∧ decode cX6_odds 40 = .ok (.aload_n 0, 1) ∧ decode cX6_odds 41 = .ok (.getfield 26, 3) ∧ decode cX6_odds 44 = .ok (.getfield 149, 3) := by decide +kernel
theorem dX6_odds_29 : decode cX6_odds 29 = .ok (.if_icmp .ge 53, 3) := dAX6_odds_2.1
theorem dX6_odds_32 : decode cX6_odds 32 = .ok (.aload_n 0, 1) := dAX6_odds_2.2.1
theorem dX6_odds_33 : decode cX6_odds 33 = .ok (.getfield 54, 3) := dAX6_odds_2.2.2.1
theorem dX6_odds_36 : decode cX6_odds 36 = .ok (.aload_n 0, 1) := dAX6_odds_2.2.2.2.1
theorem dX6_odds_37 : decode cX6_odds 37 = .ok (.getfield 19, 3) := dAX6_odds_2.2.2.2.2.1
theorem dX6_odds_40 : decode cX6_odds 40 = .ok (.aload_n 0, 1) := dAX6_odds_2.2.2.2.2.2.1
theorem dX6_odds_41 : decode cX6_odds 41 = .ok (.getfield 26, 3) := dAX6_odds_2.2.2.2.2.2.2.1
theorem dX6_odds_44 : decode cX6_odds 44 = .ok (.getfield 149, 3) := dAX6_odds_2.2.2.2.2.2.2.2
set_option maxRecDepth 100000 in
theorem dAX6_odds_3 : decode cX6_odds 47 = .ok (.iload 5, 2) ∧ decode cX6_odds 49 = .ok (.invokevirtual 305, 3) ∧ decode cX6_odds 52 = .ok (.iload_n 1, 1) ∧ decode cX6_odds 53 = .ok (.aload_n 0, 1) ∧ decode cX6_odds 54 = .ok (.getfield 19, 3) ∧ decode cX6_odds 57 = .ok (.getfield 159, 3) ∧ decode cX6_odds 60 = .ok (.imul, 1) ∧ decode cX6_odds 61 = .ok (.if_icmp .lt 15, 3) := by decide +kernel
theorem dX6_odds_47 : decode cX6_odds 47 = .ok (.iload 5, 2) := dAX6_odds_3.1
theorem dX6_odds_49 : decode cX6_odds 49 = .ok (.invokevirtual 305, 3) := dAX6_odds_3.2.1
theorem dX6_odds_52 : decode cX6_odds 52 = .ok (.iload_n 1, 1) := dAX6_odds_3.2.2.1
theorem dX6_odds_53 : decode cX6_odds 53 = .ok (.aload_n 0, 1) := dAX6_odds_3.2.2.2.1
theorem dX6_odds_54 : decode cX6_odds 54 = .ok (.getfield 19, 3) := dAX6_odds_3.2.2.2.2.1
theorem dX6_odds_57 : decode cX6_odds 57 = .ok (.getfield 159, 3) := dAX6_odds_3.2.2.2.2.2.1
theorem dX6_odds_60 : decode cX6_odds 60 = .ok (.imul, 1) := dAX6_odds_3.2.2.2.2.2.2.1
theorem dX6_odds_61 : decode cX6_odds 61 = .ok (.if_icmp .lt 15, 3) := dAX6_odds_3.2.2.2.2.2.2.2
set_option maxRecDepth 100000 in
theorem dAX6_odds_4 : decode cX6_odds 64 = .ok (.lload_n 3, 1) ∧ decode cX6_odds 65 = .ok (.aload_n 0, 1) ∧ decode cX6_odds 66 = .ok (.getfield 19, 3) ∧ decode cX6_odds 69 = .ok (.iload 5, 2) ∧ decode cX6_odds 71 = .ok (.invokevirtual 318, 3) ∧ decode cX6_odds 74 = .ok (.ladd, 1) ∧ decode cX6_odds 75 = .ok (.lstore_n 3, 1) ∧ decode cX6_odds 76 = .ok (.iinc 5 1, 3) := by decide +kernel
theorem dX6_odds_64 : decode cX6_odds 64 = .ok (.lload_n 3, 1) := dAX6_odds_4.1
theorem dX6_odds_65 : decode cX6_odds 65 = .ok (.aload_n 0, 1) := dAX6_odds_4.2.1
theorem dX6_odds_66 : decode cX6_odds 66 = .ok (.getfield 19, 3) := dAX6_odds_4.2.2.1
theorem dX6_odds_69 : decode cX6_odds 69 = .ok (.iload 5, 2) := dAX6_odds_4.2.2.2.1
theorem dX6_odds_71 : decode cX6_odds 71 = .ok (.invokevirtual 318, 3) := dAX6_odds_4.2.2.2.2.1
theorem dX6_odds_74 : decode cX6_odds 74 = .ok (.ladd, 1) := dAX6_odds_4.2.2.2.2.2.1
theorem dX6_odds_75 : decode cX6_odds 75 = .ok (.lstore_n 3, 1) := dAX6_odds_4.2.2.2.2.2.2.1
theorem dX6_odds_76 : decode cX6_odds 76 = .ok (.iinc 5 1, 3) := dAX6_odds_4.2.2.2.2.2.2.2
set_option maxRecDepth 100000 in
theorem dAX6_odds_5 : decode cX6_odds 79 = .ok (.goto (-59), 3) ∧ decode cX6_odds 82 = .ok (.lload_n 3, 1) ∧ decode cX6_odds 83 = .ok (.aload_n 0, 1) ∧ decode cX6_odds 84 = .ok (.getfield 19, 3) ∧ decode cX6_odds 87 = .ok (.invokevirtual 322, 3) ∧ decode cX6_odds 90 = .ok (.iload_n 2, 1) ∧ decode cX6_odds 91 = .ok (.invokestatic 162, 3) ∧ decode cX6_odds 94 = .ok (.lreturn, 1) := by decide +kernel
theorem dX6_odds_79 : decode cX6_odds 79 = .ok (.goto (-59), 3) := dAX6_odds_5.1
theorem dX6_odds_82 : decode cX6_odds 82 = .ok (.lload_n 3, 1) := dAX6_odds_5.2.1
theorem dX6_odds_83 : decode cX6_odds 83 = .ok (.aload_n 0, 1) := dAX6_odds_5.2.2.1
theorem dX6_odds_84 : decode cX6_odds 84 = .ok (.getfield 19, 3) := dAX6_odds_5.2.2.2.1
theorem dX6_odds_87 : decode cX6_odds 87 = .ok (.invokevirtual 322, 3) := dAX6_odds_5.2.2.2.2.1
theorem dX6_odds_90 : decode cX6_odds 90 = .ok (.iload_n 2, 1) := dAX6_odds_5.2.2.2.2.2.1
theorem dX6_odds_91 : decode cX6_odds 91 = .ok (.invokestatic 162, 3) := dAX6_odds_5.2.2.2.2.2.2.1
theorem dX6_odds_94 : decode cX6_odds 94 = .ok (.lreturn, 1) := dAX6_odds_5.2.2.2.2.2.2.2
set_option maxRecDepth 100000 in
theorem dAX6_orderLeast_0 : decode cX6_orderLeast 0 = .ok (.aload_n 0, 1) ∧ decode cX6_orderLeast 1 = .ok (.iload_n 1, 1) ∧ decode cX6_orderLeast 2 = .ok (.invokevirtual 106, 3) ∧ decode cX6_orderLeast 5 = .ok (.ifCond .eq 5, 3) ∧ decode cX6_orderLeast 8 = .ok (.iconst (-1), 1) ∧ decode cX6_orderLeast 9 = .ok (.ireturn, 1) ∧ decode cX6_orderLeast 10 = .ok (.aload_n 0, 1) ∧ decode cX6_orderLeast 11 = .ok (.iload_n 1, 1) := by decide +kernel
theorem dX6_orderLeast_0 : decode cX6_orderLeast 0 = .ok (.aload_n 0, 1) := dAX6_orderLeast_0.1
theorem dX6_orderLeast_1 : decode cX6_orderLeast 1 = .ok (.iload_n 1, 1) := dAX6_orderLeast_0.2.1
theorem dX6_orderLeast_2 : decode cX6_orderLeast 2 = .ok (.invokevirtual 106, 3) := dAX6_orderLeast_0.2.2.1
theorem dX6_orderLeast_5 : decode cX6_orderLeast 5 = .ok (.ifCond .eq 5, 3) := dAX6_orderLeast_0.2.2.2.1
theorem dX6_orderLeast_8 : decode cX6_orderLeast 8 = .ok (.iconst (-1), 1) := dAX6_orderLeast_0.2.2.2.2.1
theorem dX6_orderLeast_9 : decode cX6_orderLeast 9 = .ok (.ireturn, 1) := dAX6_orderLeast_0.2.2.2.2.2.1
theorem dX6_orderLeast_10 : decode cX6_orderLeast 10 = .ok (.aload_n 0, 1) := dAX6_orderLeast_0.2.2.2.2.2.2.1
theorem dX6_orderLeast_11 : decode cX6_orderLeast 11 = .ok (.iload_n 1, 1) := dAX6_orderLeast_0.2.2.2.2.2.2.2
set_option maxRecDepth 100000 in
theorem dAX6_orderLeast_1 : decode cX6_orderLeast 12 = .ok (.invokevirtual 249, 3) ∧ decode cX6_orderLeast 15 = .ok (.istore_n 2, 1) ∧ decode cX6_orderLeast 16 = .ok (.aload_n 0, 1) ∧ decode cX6_orderLeast 17 = .ok (.iload_n 1, 1) ∧ decode cX6_orderLeast 18 = .ok (.iconst 0, 1) ∧ decode cX6_orderLeast 19 = .ok (.invokevirtual 252, 3) ∧ decode cX6_orderLeast 22 = .ok (.istore_n 3, 1) ∧ decode cX6_orderLeast 23 = .ok (.iconst 1, 1) := by decide +kernel
theorem dX6_orderLeast_12 : decode cX6_orderLeast 12 = .ok (.invokevirtual 249, 3) := dAX6_orderLeast_1.1
theorem dX6_orderLeast_15 : decode cX6_orderLeast 15 = .ok (.istore_n 2, 1) := dAX6_orderLeast_1.2.1
theorem dX6_orderLeast_16 : decode cX6_orderLeast 16 = .ok (.aload_n 0, 1) := dAX6_orderLeast_1.2.2.1
theorem dX6_orderLeast_17 : decode cX6_orderLeast 17 = .ok (.iload_n 1, 1) := dAX6_orderLeast_1.2.2.2.1
theorem dX6_orderLeast_18 : decode cX6_orderLeast 18 = .ok (.iconst 0, 1) := dAX6_orderLeast_1.2.2.2.2.1
theorem dX6_orderLeast_19 : decode cX6_orderLeast 19 = .ok (.invokevirtual 252, 3) := dAX6_orderLeast_1.2.2.2.2.2.1
theorem dX6_orderLeast_22 : decode cX6_orderLeast 22 = .ok (.istore_n 3, 1) := dAX6_orderLeast_1.2.2.2.2.2.2.1
theorem dX6_orderLeast_23 : decode cX6_orderLeast 23 = .ok (.iconst 1, 1) := dAX6_orderLeast_1.2.2.2.2.2.2.2
set_option maxRecDepth 100000 in
theorem dAX6_orderLeast_2 : decode cX6_orderLeast 24 = .ok (.istore 4, 2) ∧ decode cX6_orderLeast 26 = .ok (.iload 4, 2) ∧ decode cX6_orderLeast 28 = .ok (.iload_n 2, 1) ∧ decode cX6_orderLeast 29 = .ok (.if_icmp .ge 21, 3) ∧ decode cX6_orderLeast 32 = .ok (.iload_n 3, 1) ∧ decode cX6_orderLeast 33 = .ok (.aload_n 0, 1) ∧ decode cX6_orderLeast 34 = .ok (.iload_n 1, 1) ∧ decode cX6_orderLeast 35 = .ok (.iload 4, 2) := by decide +kernel
theorem dX6_orderLeast_24 : decode cX6_orderLeast 24 = .ok (.istore 4, 2) := dAX6_orderLeast_2.1
theorem dX6_orderLeast_26 : decode cX6_orderLeast 26 = .ok (.iload 4, 2) := dAX6_orderLeast_2.2.1
theorem dX6_orderLeast_28 : decode cX6_orderLeast 28 = .ok (.iload_n 2, 1) := dAX6_orderLeast_2.2.2.1
theorem dX6_orderLeast_29 : decode cX6_orderLeast 29 = .ok (.if_icmp .ge 21, 3) := dAX6_orderLeast_2.2.2.2.1
theorem dX6_orderLeast_32 : decode cX6_orderLeast 32 = .ok (.iload_n 3, 1) := dAX6_orderLeast_2.2.2.2.2.1
theorem dX6_orderLeast_33 : decode cX6_orderLeast 33 = .ok (.aload_n 0, 1) := dAX6_orderLeast_2.2.2.2.2.2.1
theorem dX6_orderLeast_34 : decode cX6_orderLeast 34 = .ok (.iload_n 1, 1) := dAX6_orderLeast_2.2.2.2.2.2.2.1
theorem dX6_orderLeast_35 : decode cX6_orderLeast 35 = .ok (.iload 4, 2) := dAX6_orderLeast_2.2.2.2.2.2.2.2
set_option maxRecDepth 100000 in
theorem dAX6_orderLeast_3 : decode cX6_orderLeast 37 = .ok (.invokevirtual 252, 3) ∧ decode cX6_orderLeast 40 = .ok (.invokestatic 255, 3) ∧ decode cX6_orderLeast 43 = .ok (.istore_n 3, 1) ∧ decode cX6_orderLeast 44 = .ok (.iinc 4 1, 3) ∧ decode cX6_orderLeast 47 = .ok (.goto (-21), 3) ∧ decode cX6_orderLeast 50 = .ok (.iload_n 3, 1) ∧ decode cX6_orderLeast 51 = .ok (.ireturn, 1) := by decide +kernel
theorem dX6_orderLeast_37 : decode cX6_orderLeast 37 = .ok (.invokevirtual 252, 3) := dAX6_orderLeast_3.1
theorem dX6_orderLeast_40 : decode cX6_orderLeast 40 = .ok (.invokestatic 255, 3) := dAX6_orderLeast_3.2.1
theorem dX6_orderLeast_43 : decode cX6_orderLeast 43 = .ok (.istore_n 3, 1) := dAX6_orderLeast_3.2.2.1
theorem dX6_orderLeast_44 : decode cX6_orderLeast 44 = .ok (.iinc 4 1, 3) := dAX6_orderLeast_3.2.2.2.1
theorem dX6_orderLeast_47 : decode cX6_orderLeast 47 = .ok (.goto (-21), 3) := dAX6_orderLeast_3.2.2.2.2.1
theorem dX6_orderLeast_50 : decode cX6_orderLeast 50 = .ok (.iload_n 3, 1) := dAX6_orderLeast_3.2.2.2.2.2.1
theorem dX6_orderLeast_51 : decode cX6_orderLeast 51 = .ok (.ireturn, 1) := dAX6_orderLeast_3.2.2.2.2.2.2
set_option maxRecDepth 100000 in
theorem dAX6_orderMean_0 : decode cX6_orderMean 0 = .ok (.aload_n 0, 1) ∧ decode cX6_orderMean 1 = .ok (.iload_n 1, 1) ∧ decode cX6_orderMean 2 = .ok (.invokevirtual 106, 3) ∧ decode cX6_orderMean 5 = .ok (.ifCond .eq 7, 3) ∧ decode cX6_orderMean 8 = .ok (.ldc2_w 147, 3) ∧ decode cX6_orderMean 11 = .ok (.lreturn, 1) ∧ decode cX6_orderMean 12 = .ok (.aload_n 0, 1) ∧ decode cX6_orderMean 13 = .ok (.iload_n 1, 1) := by decide +kernel
theorem dX6_orderMean_0 : decode cX6_orderMean 0 = .ok (.aload_n 0, 1) := dAX6_orderMean_0.1
theorem dX6_orderMean_1 : decode cX6_orderMean 1 = .ok (.iload_n 1, 1) := dAX6_orderMean_0.2.1
theorem dX6_orderMean_2 : decode cX6_orderMean 2 = .ok (.invokevirtual 106, 3) := dAX6_orderMean_0.2.2.1
theorem dX6_orderMean_5 : decode cX6_orderMean 5 = .ok (.ifCond .eq 7, 3) := dAX6_orderMean_0.2.2.2.1
theorem dX6_orderMean_8 : decode cX6_orderMean 8 = .ok (.ldc2_w 147, 3) := dAX6_orderMean_0.2.2.2.2.1
theorem dX6_orderMean_11 : decode cX6_orderMean 11 = .ok (.lreturn, 1) := dAX6_orderMean_0.2.2.2.2.2.1
theorem dX6_orderMean_12 : decode cX6_orderMean 12 = .ok (.aload_n 0, 1) := dAX6_orderMean_0.2.2.2.2.2.2.1
theorem dX6_orderMean_13 : decode cX6_orderMean 13 = .ok (.iload_n 1, 1) := dAX6_orderMean_0.2.2.2.2.2.2.2
set_option maxRecDepth 100000 in
theorem dAX6_orderMean_1 : decode cX6_orderMean 14 = .ok (.invokevirtual 249, 3) ∧ decode cX6_orderMean 17 = .ok (.istore_n 3, 1) ∧ decode cX6_orderMean 18 = .ok (.lconst 0, 1) ∧ decode cX6_orderMean 19 = .ok (.lstore 4, 2) ∧ decode cX6_orderMean 21 = .ok (.iconst 0, 1) ∧ decode cX6_orderMean 22 = .ok (.istore 6, 2) ∧ decode cX6_orderMean 24 = .ok (.iload 6, 2) ∧ decode cX6_orderMean 26 = .ok (.iload_n 3, 1) := by decide +kernel
theorem dX6_orderMean_14 : decode cX6_orderMean 14 = .ok (.invokevirtual 249, 3) := dAX6_orderMean_1.1
theorem dX6_orderMean_17 : decode cX6_orderMean 17 = .ok (.istore_n 3, 1) := dAX6_orderMean_1.2.1
theorem dX6_orderMean_18 : decode cX6_orderMean 18 = .ok (.lconst 0, 1) := dAX6_orderMean_1.2.2.1
theorem dX6_orderMean_19 : decode cX6_orderMean 19 = .ok (.lstore 4, 2) := dAX6_orderMean_1.2.2.2.1
theorem dX6_orderMean_21 : decode cX6_orderMean 21 = .ok (.iconst 0, 1) := dAX6_orderMean_1.2.2.2.2.1
theorem dX6_orderMean_22 : decode cX6_orderMean 22 = .ok (.istore 6, 2) := dAX6_orderMean_1.2.2.2.2.2.1
theorem dX6_orderMean_24 : decode cX6_orderMean 24 = .ok (.iload 6, 2) := dAX6_orderMean_1.2.2.2.2.2.2.1
theorem dX6_orderMean_26 : decode cX6_orderMean 26 = .ok (.iload_n 3, 1) := dAX6_orderMean_1.2.2.2.2.2.2.2
set_option maxRecDepth 100000 in
theorem dAX6_orderMean_2 : decode cX6_orderMean 27 = .ok (.if_icmp .ge 22, 3) ∧ decode cX6_orderMean 30 = .ok (.lload 4, 2) ∧ decode cX6_orderMean 32 = .ok (.aload_n 0, 1) ∧ decode cX6_orderMean 33 = .ok (.iload_n 1, 1) ∧ decode cX6_orderMean 34 = .ok (.iload 6, 2) ∧ decode cX6_orderMean 36 = .ok (.invokevirtual 252, 3) ∧ decode cX6_orderMean 39 = .ok (.i2l, 1) ∧ decode cX6_orderMean 40 = .ok (.ladd, 1) := by decide +kernel
theorem dX6_orderMean_27 : decode cX6_orderMean 27 = .ok (.if_icmp .ge 22, 3) := dAX6_orderMean_2.1
theorem dX6_orderMean_30 : decode cX6_orderMean 30 = .ok (.lload 4, 2) := dAX6_orderMean_2.2.1
theorem dX6_orderMean_32 : decode cX6_orderMean 32 = .ok (.aload_n 0, 1) := dAX6_orderMean_2.2.2.1
theorem dX6_orderMean_33 : decode cX6_orderMean 33 = .ok (.iload_n 1, 1) := dAX6_orderMean_2.2.2.2.1
theorem dX6_orderMean_34 : decode cX6_orderMean 34 = .ok (.iload 6, 2) := dAX6_orderMean_2.2.2.2.2.1
theorem dX6_orderMean_36 : decode cX6_orderMean 36 = .ok (.invokevirtual 252, 3) := dAX6_orderMean_2.2.2.2.2.2.1
theorem dX6_orderMean_39 : decode cX6_orderMean 39 = .ok (.i2l, 1) := dAX6_orderMean_2.2.2.2.2.2.2.1
theorem dX6_orderMean_40 : decode cX6_orderMean 40 = .ok (.ladd, 1) := dAX6_orderMean_2.2.2.2.2.2.2.2
set_option maxRecDepth 100000 in
theorem dAX6_orderMean_3 : decode cX6_orderMean 41 = .ok (.lstore 4, 2) ∧ decode cX6_orderMean 43 = .ok (.iinc 6 1, 3) ∧ decode cX6_orderMean 46 = .ok (.goto (-22), 3) ∧ decode cX6_orderMean 49 = .ok (.lload 4, 2) ∧ decode cX6_orderMean 51 = .ok (.iload_n 3, 1) ∧ decode cX6_orderMean 52 = .ok (.i2l, 1) ∧ decode cX6_orderMean 53 = .ok (.iload_n 2, 1) ∧ decode cX6_orderMean 54 = .ok (.invokestatic 162, 3) := by decide +kernel
theorem dX6_orderMean_41 : decode cX6_orderMean 41 = .ok (.lstore 4, 2) := dAX6_orderMean_3.1
theorem dX6_orderMean_43 : decode cX6_orderMean 43 = .ok (.iinc 6 1, 3) := dAX6_orderMean_3.2.1
theorem dX6_orderMean_46 : decode cX6_orderMean 46 = .ok (.goto (-22), 3) := dAX6_orderMean_3.2.2.1
theorem dX6_orderMean_49 : decode cX6_orderMean 49 = .ok (.lload 4, 2) := dAX6_orderMean_3.2.2.2.1
theorem dX6_orderMean_51 : decode cX6_orderMean 51 = .ok (.iload_n 3, 1) := dAX6_orderMean_3.2.2.2.2.1
theorem dX6_orderMean_52 : decode cX6_orderMean 52 = .ok (.i2l, 1) := dAX6_orderMean_3.2.2.2.2.2.1
theorem dX6_orderMean_53 : decode cX6_orderMean 53 = .ok (.iload_n 2, 1) := dAX6_orderMean_3.2.2.2.2.2.2.1
theorem dX6_orderMean_54 : decode cX6_orderMean 54 = .ok (.invokestatic 162, 3) := dAX6_orderMean_3.2.2.2.2.2.2.2
theorem dX6_orderMean_57 : decode cX6_orderMean 57 = .ok (.lreturn, 1) := by decide +kernel
set_option maxRecDepth 100000 in
theorem dAX6_ordersOf_0 : decode cX6_ordersOf 0 = .ok (.iconst 1, 1) ∧ decode cX6_ordersOf 1 = .ok (.istore_n 2, 1) ∧ decode cX6_ordersOf 2 = .ok (.iconst 2, 1) ∧ decode cX6_ordersOf 3 = .ok (.istore_n 3, 1) ∧ decode cX6_ordersOf 4 = .ok (.iload_n 3, 1) ∧ decode cX6_ordersOf 5 = .ok (.aload_n 0, 1) ∧ decode cX6_ordersOf 6 = .ok (.getfield 19, 3) ∧ decode cX6_ordersOf 9 = .ok (.getfield 113, 3) := by decide +kernel
theorem dX6_ordersOf_0 : decode cX6_ordersOf 0 = .ok (.iconst 1, 1) := dAX6_ordersOf_0.1
theorem dX6_ordersOf_1 : decode cX6_ordersOf 1 = .ok (.istore_n 2, 1) := dAX6_ordersOf_0.2.1
theorem dX6_ordersOf_2 : decode cX6_ordersOf 2 = .ok (.iconst 2, 1) := dAX6_ordersOf_0.2.2.1
theorem dX6_ordersOf_3 : decode cX6_ordersOf 3 = .ok (.istore_n 3, 1) := dAX6_ordersOf_0.2.2.2.1
theorem dX6_ordersOf_4 : decode cX6_ordersOf 4 = .ok (.iload_n 3, 1) := dAX6_ordersOf_0.2.2.2.2.1
theorem dX6_ordersOf_5 : decode cX6_ordersOf 5 = .ok (.aload_n 0, 1) := dAX6_ordersOf_0.2.2.2.2.2.1
theorem dX6_ordersOf_6 : decode cX6_ordersOf 6 = .ok (.getfield 19, 3) := dAX6_ordersOf_0.2.2.2.2.2.2.1
theorem dX6_ordersOf_9 : decode cX6_ordersOf 9 = .ok (.getfield 113, 3) := dAX6_ordersOf_0.2.2.2.2.2.2.2
set_option maxRecDepth 100000 in
theorem dAX6_ordersOf_1 : decode cX6_ordersOf 12 = .ok (.iload_n 1, 1) ∧ decode cX6_ordersOf 13 = .ok (.iaload, 1) ∧ decode cX6_ordersOf 14 = .ok (.if_icmp .gt 13, 3) ∧ decode cX6_ordersOf 17 = .ok (.iload_n 2, 1) ∧ decode cX6_ordersOf 18 = .ok (.iload_n 3, 1) ∧ decode cX6_ordersOf 19 = .ok (.imul, 1) ∧ decode cX6_ordersOf 20 = .ok (.istore_n 2, 1) ∧ decode cX6_ordersOf 21 = .ok (.iinc 3 1, 3) := by decide +kernel
theorem dX6_ordersOf_12 : decode cX6_ordersOf 12 = .ok (.iload_n 1, 1) := dAX6_ordersOf_1.1
theorem dX6_ordersOf_13 : decode cX6_ordersOf 13 = .ok (.iaload, 1) := dAX6_ordersOf_1.2.1
theorem dX6_ordersOf_14 : decode cX6_ordersOf 14 = .ok (.if_icmp .gt 13, 3) := dAX6_ordersOf_1.2.2.1
theorem dX6_ordersOf_17 : decode cX6_ordersOf 17 = .ok (.iload_n 2, 1) := dAX6_ordersOf_1.2.2.2.1
theorem dX6_ordersOf_18 : decode cX6_ordersOf 18 = .ok (.iload_n 3, 1) := dAX6_ordersOf_1.2.2.2.2.1
theorem dX6_ordersOf_19 : decode cX6_ordersOf 19 = .ok (.imul, 1) := dAX6_ordersOf_1.2.2.2.2.2.1
theorem dX6_ordersOf_20 : decode cX6_ordersOf 20 = .ok (.istore_n 2, 1) := dAX6_ordersOf_1.2.2.2.2.2.2.1
theorem dX6_ordersOf_21 : decode cX6_ordersOf 21 = .ok (.iinc 3 1, 3) := dAX6_ordersOf_1.2.2.2.2.2.2.2
set_option maxRecDepth 100000 in
theorem dAX6_ordersOf_2 : decode cX6_ordersOf 24 = .ok (.goto (-20), 3) ∧ decode cX6_ordersOf 27 = .ok (.iload_n 2, 1) ∧ decode cX6_ordersOf 28 = .ok (.ireturn, 1) := by decide +kernel
theorem dX6_ordersOf_24 : decode cX6_ordersOf 24 = .ok (.goto (-20), 3) := dAX6_ordersOf_2.1
theorem dX6_ordersOf_27 : decode cX6_ordersOf 27 = .ok (.iload_n 2, 1) := dAX6_ordersOf_2.2.1
theorem dX6_ordersOf_28 : decode cX6_ordersOf 28 = .ok (.ireturn, 1) := dAX6_ordersOf_2.2.2
set_option maxRecDepth 100000 in
theorem dAX6_part_0 : decode cX6_part 0 = .ok (.aload_n 0, 1) ∧ decode cX6_part 1 = .ok (.iload_n 1, 1) ∧ decode cX6_part 2 = .ok (.iload_n 2, 1) ∧ decode cX6_part 3 = .ok (.invokevirtual 125, 3) ∧ decode cX6_part 6 = .ok (.ifCond .eq 7, 3) ∧ decode cX6_part 9 = .ok (.iconst (-1), 1) ∧ decode cX6_part 10 = .ok (.goto 16, 3) ∧ decode cX6_part 13 = .ok (.aload_n 0, 1) := by decide +kernel
theorem dX6_part_0 : decode cX6_part 0 = .ok (.aload_n 0, 1) := dAX6_part_0.1
theorem dX6_part_1 : decode cX6_part 1 = .ok (.iload_n 1, 1) := dAX6_part_0.2.1
theorem dX6_part_2 : decode cX6_part 2 = .ok (.iload_n 2, 1) := dAX6_part_0.2.2.1
theorem dX6_part_3 : decode cX6_part 3 = .ok (.invokevirtual 125, 3) := dAX6_part_0.2.2.2.1
theorem dX6_part_6 : decode cX6_part 6 = .ok (.ifCond .eq 7, 3) := dAX6_part_0.2.2.2.2.1
theorem dX6_part_9 : decode cX6_part 9 = .ok (.iconst (-1), 1) := dAX6_part_0.2.2.2.2.2.1
theorem dX6_part_10 : decode cX6_part 10 = .ok (.goto 16, 3) := dAX6_part_0.2.2.2.2.2.2.1
theorem dX6_part_13 : decode cX6_part 13 = .ok (.aload_n 0, 1) := dAX6_part_0.2.2.2.2.2.2.2
set_option maxRecDepth 100000 in
theorem dAX6_part_1 : decode cX6_part 14 = .ok (.getfield 26, 3) ∧ decode cX6_part 17 = .ok (.aload_n 0, 1) ∧ decode cX6_part 18 = .ok (.getfield 19, 3) ∧ decode cX6_part 21 = .ok (.iload_n 1, 1) ∧ decode cX6_part 22 = .ok (.iload_n 2, 1) ∧ decode cX6_part 23 = .ok (.invokevirtual 129, 3) ∧ decode cX6_part 26 = .ok (.ireturn, 1) := by decide +kernel
theorem dX6_part_14 : decode cX6_part 14 = .ok (.getfield 26, 3) := dAX6_part_1.1
theorem dX6_part_17 : decode cX6_part 17 = .ok (.aload_n 0, 1) := dAX6_part_1.2.1
theorem dX6_part_18 : decode cX6_part 18 = .ok (.getfield 19, 3) := dAX6_part_1.2.2.1
theorem dX6_part_21 : decode cX6_part 21 = .ok (.iload_n 1, 1) := dAX6_part_1.2.2.2.1
theorem dX6_part_22 : decode cX6_part 22 = .ok (.iload_n 2, 1) := dAX6_part_1.2.2.2.2.1
theorem dX6_part_23 : decode cX6_part 23 = .ok (.invokevirtual 129, 3) := dAX6_part_1.2.2.2.2.2.1
theorem dX6_part_26 : decode cX6_part 26 = .ok (.ireturn, 1) := dAX6_part_1.2.2.2.2.2.2
set_option maxRecDepth 100000 in
theorem dAX6_pivot_0 : decode cX6_pivot 0 = .ok (.aload_n 0, 1) ∧ decode cX6_pivot 1 = .ok (.invokevirtual 140, 3) ∧ decode cX6_pivot 4 = .ok (.ifCond .eq 5, 3) ∧ decode cX6_pivot 7 = .ok (.iconst (-1), 1) ∧ decode cX6_pivot 8 = .ok (.ireturn, 1) ∧ decode cX6_pivot 9 = .ok (.bipush (-2), 2) ∧ decode cX6_pivot 11 = .ok (.istore_n 1, 1) ∧ decode cX6_pivot 12 = .ok (.iconst 0, 1) := by decide +kernel
theorem dX6_pivot_0 : decode cX6_pivot 0 = .ok (.aload_n 0, 1) := dAX6_pivot_0.1
theorem dX6_pivot_1 : decode cX6_pivot 1 = .ok (.invokevirtual 140, 3) := dAX6_pivot_0.2.1
theorem dX6_pivot_4 : decode cX6_pivot 4 = .ok (.ifCond .eq 5, 3) := dAX6_pivot_0.2.2.1
theorem dX6_pivot_7 : decode cX6_pivot 7 = .ok (.iconst (-1), 1) := dAX6_pivot_0.2.2.2.1
theorem dX6_pivot_8 : decode cX6_pivot 8 = .ok (.ireturn, 1) := dAX6_pivot_0.2.2.2.2.1
theorem dX6_pivot_9 : decode cX6_pivot 9 = .ok (.bipush (-2), 2) := dAX6_pivot_0.2.2.2.2.2.1
theorem dX6_pivot_11 : decode cX6_pivot 11 = .ok (.istore_n 1, 1) := dAX6_pivot_0.2.2.2.2.2.2.1
theorem dX6_pivot_12 : decode cX6_pivot 12 = .ok (.iconst 0, 1) := dAX6_pivot_0.2.2.2.2.2.2.2
set_option maxRecDepth 100000 in
theorem dAX6_pivot_1 : decode cX6_pivot 13 = .ok (.istore_n 2, 1) ∧ decode cX6_pivot 14 = .ok (.iconst 0, 1) ∧ decode cX6_pivot 15 = .ok (.istore_n 3, 1) ∧ decode cX6_pivot 16 = .ok (.iload_n 3, 1) ∧ decode cX6_pivot 17 = .ok (.aload_n 0, 1) ∧ decode cX6_pivot 18 = .ok (.getfield 19, 3) ∧ decode cX6_pivot 21 = .ok (.getfield 103, 3) ∧ decode cX6_pivot 24 = .ok (.if_icmp .ge 53, 3) := by decide +kernel
theorem dX6_pivot_13 : decode cX6_pivot 13 = .ok (.istore_n 2, 1) := dAX6_pivot_1.1
theorem dX6_pivot_14 : decode cX6_pivot 14 = .ok (.iconst 0, 1) := dAX6_pivot_1.2.1
theorem dX6_pivot_15 : decode cX6_pivot 15 = .ok (.istore_n 3, 1) := dAX6_pivot_1.2.2.1
theorem dX6_pivot_16 : decode cX6_pivot 16 = .ok (.iload_n 3, 1) := dAX6_pivot_1.2.2.2.1
theorem dX6_pivot_17 : decode cX6_pivot 17 = .ok (.aload_n 0, 1) := dAX6_pivot_1.2.2.2.2.1
theorem dX6_pivot_18 : decode cX6_pivot 18 = .ok (.getfield 19, 3) := dAX6_pivot_1.2.2.2.2.2.1
theorem dX6_pivot_21 : decode cX6_pivot 21 = .ok (.getfield 103, 3) := dAX6_pivot_1.2.2.2.2.2.2.1
theorem dX6_pivot_24 : decode cX6_pivot 24 = .ok (.if_icmp .ge 53, 3) := dAX6_pivot_1.2.2.2.2.2.2.2
set_option maxRecDepth 100000 in
theorem dAX6_pivot_2 : decode cX6_pivot 27 = .ok (.aload_n 0, 1) ∧ decode cX6_pivot 28 = .ok (.getfield 19, 3) ∧ decode cX6_pivot 31 = .ok (.getfield 109, 3) ∧ decode cX6_pivot 34 = .ok (.iload_n 3, 1) ∧ decode cX6_pivot 35 = .ok (.iaload, 1) ∧ decode cX6_pivot 36 = .ok (.ifCond .ne 11, 3) ∧ decode cX6_pivot 39 = .ok (.aload_n 0, 1) ∧ decode cX6_pivot 40 = .ok (.iload_n 3, 1) := by decide +kernel
theorem dX6_pivot_27 : decode cX6_pivot 27 = .ok (.aload_n 0, 1) := dAX6_pivot_2.1
theorem dX6_pivot_28 : decode cX6_pivot 28 = .ok (.getfield 19, 3) := dAX6_pivot_2.2.1
theorem dX6_pivot_31 : decode cX6_pivot 31 = .ok (.getfield 109, 3) := dAX6_pivot_2.2.2.1
theorem dX6_pivot_34 : decode cX6_pivot 34 = .ok (.iload_n 3, 1) := dAX6_pivot_2.2.2.2.1
theorem dX6_pivot_35 : decode cX6_pivot 35 = .ok (.iaload, 1) := dAX6_pivot_2.2.2.2.2.1
theorem dX6_pivot_36 : decode cX6_pivot 36 = .ok (.ifCond .ne 11, 3) := dAX6_pivot_2.2.2.2.2.2.1
theorem dX6_pivot_39 : decode cX6_pivot 39 = .ok (.aload_n 0, 1) := dAX6_pivot_2.2.2.2.2.2.2.1
theorem dX6_pivot_40 : decode cX6_pivot 40 = .ok (.iload_n 3, 1) := dAX6_pivot_2.2.2.2.2.2.2.2
set_option maxRecDepth 100000 in
theorem dAX6_pivot_3 : decode cX6_pivot 41 = .ok (.invokevirtual 274, 3) ∧ decode cX6_pivot 44 = .ok (.goto 5, 3) ∧ decode cX6_pivot 47 = .ok (.bipush (-2), 2) ∧ decode cX6_pivot 49 = .ok (.istore 4, 2) ∧ decode cX6_pivot 51 = .ok (.iload 4, 2) ∧ decode cX6_pivot 53 = .ok (.ifCond .lt 18, 3) ∧ decode cX6_pivot 56 = .ok (.iload_n 1, 1) ∧ decode cX6_pivot 57 = .ok (.ifCond .lt 9, 3) := by decide +kernel
theorem dX6_pivot_41 : decode cX6_pivot 41 = .ok (.invokevirtual 274, 3) := dAX6_pivot_3.1
theorem dX6_pivot_44 : decode cX6_pivot 44 = .ok (.goto 5, 3) := dAX6_pivot_3.2.1
theorem dX6_pivot_47 : decode cX6_pivot 47 = .ok (.bipush (-2), 2) := dAX6_pivot_3.2.2.1
theorem dX6_pivot_49 : decode cX6_pivot 49 = .ok (.istore 4, 2) := dAX6_pivot_3.2.2.2.1
theorem dX6_pivot_51 : decode cX6_pivot 51 = .ok (.iload 4, 2) := dAX6_pivot_3.2.2.2.2.1
theorem dX6_pivot_53 : decode cX6_pivot 53 = .ok (.ifCond .lt 18, 3) := dAX6_pivot_3.2.2.2.2.2.1
theorem dX6_pivot_56 : decode cX6_pivot 56 = .ok (.iload_n 1, 1) := dAX6_pivot_3.2.2.2.2.2.2.1
theorem dX6_pivot_57 : decode cX6_pivot 57 = .ok (.ifCond .lt 9, 3) := dAX6_pivot_3.2.2.2.2.2.2.2
set_option maxRecDepth 100000 in
theorem dAX6_pivot_4 : decode cX6_pivot 60 = .ok (.iload 4, 2) ∧ decode cX6_pivot 62 = .ok (.iload_n 2, 1) ∧ decode cX6_pivot 63 = .ok (.if_icmp .ge 8, 3) ∧ decode cX6_pivot 66 = .ok (.iload_n 3, 1) ∧ decode cX6_pivot 67 = .ok (.istore_n 1, 1) ∧ decode cX6_pivot 68 = .ok (.iload 4, 2) ∧ decode cX6_pivot 70 = .ok (.istore_n 2, 1) ∧ decode cX6_pivot 71 = .ok (.iinc 3 1, 3) := by decide +kernel
theorem dX6_pivot_60 : decode cX6_pivot 60 = .ok (.iload 4, 2) := dAX6_pivot_4.1
theorem dX6_pivot_62 : decode cX6_pivot 62 = .ok (.iload_n 2, 1) := dAX6_pivot_4.2.1
theorem dX6_pivot_63 : decode cX6_pivot 63 = .ok (.if_icmp .ge 8, 3) := dAX6_pivot_4.2.2.1
theorem dX6_pivot_66 : decode cX6_pivot 66 = .ok (.iload_n 3, 1) := dAX6_pivot_4.2.2.2.1
theorem dX6_pivot_67 : decode cX6_pivot 67 = .ok (.istore_n 1, 1) := dAX6_pivot_4.2.2.2.2.1
theorem dX6_pivot_68 : decode cX6_pivot 68 = .ok (.iload 4, 2) := dAX6_pivot_4.2.2.2.2.2.1
theorem dX6_pivot_70 : decode cX6_pivot 70 = .ok (.istore_n 2, 1) := dAX6_pivot_4.2.2.2.2.2.2.1
theorem dX6_pivot_71 : decode cX6_pivot 71 = .ok (.iinc 3 1, 3) := dAX6_pivot_4.2.2.2.2.2.2.2
set_option maxRecDepth 100000 in
theorem dAX6_pivot_5 : decode cX6_pivot 74 = .ok (.goto (-58), 3) ∧ decode cX6_pivot 77 = .ok (.iload_n 1, 1) ∧ decode cX6_pivot 78 = .ok (.ireturn, 1) := by decide +kernel
theorem dX6_pivot_74 : decode cX6_pivot 74 = .ok (.goto (-58), 3) := dAX6_pivot_5.1
theorem dX6_pivot_77 : decode cX6_pivot 77 = .ok (.iload_n 1, 1) := dAX6_pivot_5.2.1
theorem dX6_pivot_78 : decode cX6_pivot 78 = .ok (.ireturn, 1) := dAX6_pivot_5.2.2
set_option maxRecDepth 100000 in
theorem dAX6_placeOfFirst_0 : decode cX6_placeOfFirst 0 = .ok (.iconst (-1), 1) ∧ decode cX6_placeOfFirst 1 = .ok (.istore_n 2, 1) ∧ decode cX6_placeOfFirst 2 = .ok (.iconst 0, 1) ∧ decode cX6_placeOfFirst 3 = .ok (.istore_n 3, 1) ∧ decode cX6_placeOfFirst 4 = .ok (.iconst 0, 1) ∧ decode cX6_placeOfFirst 5 = .ok (.istore 4, 2) ∧ decode cX6_placeOfFirst 7 = .ok (.iload 4, 2) ∧ decode cX6_placeOfFirst 9 = .ok (.aload_n 0, 1) := by decide +kernel
theorem dX6_placeOfFirst_0 : decode cX6_placeOfFirst 0 = .ok (.iconst (-1), 1) := dAX6_placeOfFirst_0.1
theorem dX6_placeOfFirst_1 : decode cX6_placeOfFirst 1 = .ok (.istore_n 2, 1) := dAX6_placeOfFirst_0.2.1
theorem dX6_placeOfFirst_2 : decode cX6_placeOfFirst 2 = .ok (.iconst 0, 1) := dAX6_placeOfFirst_0.2.2.1
theorem dX6_placeOfFirst_3 : decode cX6_placeOfFirst 3 = .ok (.istore_n 3, 1) := dAX6_placeOfFirst_0.2.2.2.1
theorem dX6_placeOfFirst_4 : decode cX6_placeOfFirst 4 = .ok (.iconst 0, 1) := dAX6_placeOfFirst_0.2.2.2.2.1
theorem dX6_placeOfFirst_5 : decode cX6_placeOfFirst 5 = .ok (.istore 4, 2) := dAX6_placeOfFirst_0.2.2.2.2.2.1
theorem dX6_placeOfFirst_7 : decode cX6_placeOfFirst 7 = .ok (.iload 4, 2) := dAX6_placeOfFirst_0.2.2.2.2.2.2.1
theorem dX6_placeOfFirst_9 : decode cX6_placeOfFirst 9 = .ok (.aload_n 0, 1) := dAX6_placeOfFirst_0.2.2.2.2.2.2.2
set_option maxRecDepth 100000 in
theorem dAX6_placeOfFirst_1 : decode cX6_placeOfFirst 10 = .ok (.getfield 19, 3) ∧ decode cX6_placeOfFirst 13 = .ok (.getfield 113, 3) ∧ decode cX6_placeOfFirst 16 = .ok (.iload_n 1, 1) ∧ decode cX6_placeOfFirst 17 = .ok (.iaload, 1) ∧ decode cX6_placeOfFirst 18 = .ok (.if_icmp .ge 34, 3) ∧ decode cX6_placeOfFirst 21 = .ok (.aload_n 0, 1) ∧ decode cX6_placeOfFirst 22 = .ok (.iload_n 1, 1) ∧ decode cX6_placeOfFirst 23 = .ok (.iload 4, 2) := by decide +kernel
theorem dX6_placeOfFirst_10 : decode cX6_placeOfFirst 10 = .ok (.getfield 19, 3) := dAX6_placeOfFirst_1.1
theorem dX6_placeOfFirst_13 : decode cX6_placeOfFirst 13 = .ok (.getfield 113, 3) := dAX6_placeOfFirst_1.2.1
theorem dX6_placeOfFirst_16 : decode cX6_placeOfFirst 16 = .ok (.iload_n 1, 1) := dAX6_placeOfFirst_1.2.2.1
theorem dX6_placeOfFirst_17 : decode cX6_placeOfFirst 17 = .ok (.iaload, 1) := dAX6_placeOfFirst_1.2.2.2.1
theorem dX6_placeOfFirst_18 : decode cX6_placeOfFirst 18 = .ok (.if_icmp .ge 34, 3) := dAX6_placeOfFirst_1.2.2.2.2.1
theorem dX6_placeOfFirst_21 : decode cX6_placeOfFirst 21 = .ok (.aload_n 0, 1) := dAX6_placeOfFirst_1.2.2.2.2.2.1
theorem dX6_placeOfFirst_22 : decode cX6_placeOfFirst 22 = .ok (.iload_n 1, 1) := dAX6_placeOfFirst_1.2.2.2.2.2.2.1
theorem dX6_placeOfFirst_23 : decode cX6_placeOfFirst 23 = .ok (.iload 4, 2) := dAX6_placeOfFirst_1.2.2.2.2.2.2.2
set_option maxRecDepth 100000 in
theorem dAX6_placeOfFirst_2 : decode cX6_placeOfFirst 25 = .ok (.invokevirtual 238, 3) ∧ decode cX6_placeOfFirst 28 = .ok (.istore 5, 2) ∧ decode cX6_placeOfFirst 30 = .ok (.iload_n 2, 1) ∧ decode cX6_placeOfFirst 31 = .ok (.ifCond .lt 9, 3) ∧ decode cX6_placeOfFirst 34 = .ok (.iload 5, 2) ∧ decode cX6_placeOfFirst 36 = .ok (.iload_n 3, 1) ∧ decode cX6_placeOfFirst 37 = .ok (.if_icmp .ge 9, 3) ∧ decode cX6_placeOfFirst 40 = .ok (.iload 4, 2) := by decide +kernel
theorem dX6_placeOfFirst_25 : decode cX6_placeOfFirst 25 = .ok (.invokevirtual 238, 3) := dAX6_placeOfFirst_2.1
theorem dX6_placeOfFirst_28 : decode cX6_placeOfFirst 28 = .ok (.istore 5, 2) := dAX6_placeOfFirst_2.2.1
theorem dX6_placeOfFirst_30 : decode cX6_placeOfFirst 30 = .ok (.iload_n 2, 1) := dAX6_placeOfFirst_2.2.2.1
theorem dX6_placeOfFirst_31 : decode cX6_placeOfFirst 31 = .ok (.ifCond .lt 9, 3) := dAX6_placeOfFirst_2.2.2.2.1
theorem dX6_placeOfFirst_34 : decode cX6_placeOfFirst 34 = .ok (.iload 5, 2) := dAX6_placeOfFirst_2.2.2.2.2.1
theorem dX6_placeOfFirst_36 : decode cX6_placeOfFirst 36 = .ok (.iload_n 3, 1) := dAX6_placeOfFirst_2.2.2.2.2.2.1
theorem dX6_placeOfFirst_37 : decode cX6_placeOfFirst 37 = .ok (.if_icmp .ge 9, 3) := dAX6_placeOfFirst_2.2.2.2.2.2.2.1
theorem dX6_placeOfFirst_40 : decode cX6_placeOfFirst 40 = .ok (.iload 4, 2) := dAX6_placeOfFirst_2.2.2.2.2.2.2.2
set_option maxRecDepth 100000 in
theorem dAX6_placeOfFirst_3 : decode cX6_placeOfFirst 42 = .ok (.istore_n 2, 1) ∧ decode cX6_placeOfFirst 43 = .ok (.iload 5, 2) ∧ decode cX6_placeOfFirst 45 = .ok (.istore_n 3, 1) ∧ decode cX6_placeOfFirst 46 = .ok (.iinc 4 1, 3) ∧ decode cX6_placeOfFirst 49 = .ok (.goto (-42), 3) ∧ decode cX6_placeOfFirst 52 = .ok (.iload_n 2, 1) ∧ decode cX6_placeOfFirst 53 = .ok (.ireturn, 1) := by decide +kernel
theorem dX6_placeOfFirst_42 : decode cX6_placeOfFirst 42 = .ok (.istore_n 2, 1) := dAX6_placeOfFirst_3.1
theorem dX6_placeOfFirst_43 : decode cX6_placeOfFirst 43 = .ok (.iload 5, 2) := dAX6_placeOfFirst_3.2.1
theorem dX6_placeOfFirst_45 : decode cX6_placeOfFirst 45 = .ok (.istore_n 3, 1) := dAX6_placeOfFirst_3.2.2.1
theorem dX6_placeOfFirst_46 : decode cX6_placeOfFirst 46 = .ok (.iinc 4 1, 3) := dAX6_placeOfFirst_3.2.2.2.1
theorem dX6_placeOfFirst_49 : decode cX6_placeOfFirst 49 = .ok (.goto (-42), 3) := dAX6_placeOfFirst_3.2.2.2.2.1
theorem dX6_placeOfFirst_52 : decode cX6_placeOfFirst 52 = .ok (.iload_n 2, 1) := dAX6_placeOfFirst_3.2.2.2.2.2.1
theorem dX6_placeOfFirst_53 : decode cX6_placeOfFirst 53 = .ok (.ireturn, 1) := dAX6_placeOfFirst_3.2.2.2.2.2.2
set_option maxRecDepth 100000 in
theorem dAX6_proof_0 : decode cX6_proof 0 = .ok (.aload_n 0, 1) ∧ decode cX6_proof 1 = .ok (.iload_n 1, 1) ∧ decode cX6_proof 2 = .ok (.iconst 0, 1) ∧ decode cX6_proof 3 = .ok (.bipush 100, 2) ∧ decode cX6_proof 5 = .ok (.invokevirtual 203, 3) ∧ decode cX6_proof 8 = .ok (.ifCond .eq 7, 3) ∧ decode cX6_proof 11 = .ok (.iconst (-1), 1) ∧ decode cX6_proof 12 = .ok (.goto 9, 3) := by decide +kernel
theorem dX6_proof_0 : decode cX6_proof 0 = .ok (.aload_n 0, 1) := dAX6_proof_0.1
theorem dX6_proof_1 : decode cX6_proof 1 = .ok (.iload_n 1, 1) := dAX6_proof_0.2.1
theorem dX6_proof_2 : decode cX6_proof 2 = .ok (.iconst 0, 1) := dAX6_proof_0.2.2.1
theorem dX6_proof_3 : decode cX6_proof 3 = .ok (.bipush 100, 2) := dAX6_proof_0.2.2.2.1
theorem dX6_proof_5 : decode cX6_proof 5 = .ok (.invokevirtual 203, 3) := dAX6_proof_0.2.2.2.2.1
theorem dX6_proof_8 : decode cX6_proof 8 = .ok (.ifCond .eq 7, 3) := dAX6_proof_0.2.2.2.2.2.1
theorem dX6_proof_11 : decode cX6_proof 11 = .ok (.iconst (-1), 1) := dAX6_proof_0.2.2.2.2.2.2.1
theorem dX6_proof_12 : decode cX6_proof 12 = .ok (.goto 9, 3) := dAX6_proof_0.2.2.2.2.2.2.2
set_option maxRecDepth 100000 in
theorem dAX6_proof_1 : decode cX6_proof 15 = .ok (.aload_n 0, 1) ∧ decode cX6_proof 16 = .ok (.iconst 0, 1) ∧ decode cX6_proof 17 = .ok (.iload_n 1, 1) ∧ decode cX6_proof 18 = .ok (.invokevirtual 221, 3) ∧ decode cX6_proof 21 = .ok (.ireturn, 1) := by decide +kernel
theorem dX6_proof_15 : decode cX6_proof 15 = .ok (.aload_n 0, 1) := dAX6_proof_1.1
theorem dX6_proof_16 : decode cX6_proof 16 = .ok (.iconst 0, 1) := dAX6_proof_1.2.1
theorem dX6_proof_17 : decode cX6_proof 17 = .ok (.iload_n 1, 1) := dAX6_proof_1.2.2.1
theorem dX6_proof_18 : decode cX6_proof 18 = .ok (.invokevirtual 221, 3) := dAX6_proof_1.2.2.2.1
theorem dX6_proof_21 : decode cX6_proof 21 = .ok (.ireturn, 1) := dAX6_proof_1.2.2.2.2
set_option maxRecDepth 100000 in
theorem dAX6_questions_0 : decode cX6_questions 0 = .ok (.aload_n 0, 1) ∧ decode cX6_questions 1 = .ok (.invokevirtual 140, 3) ∧ decode cX6_questions 4 = .ok (.ifCond .eq 5, 3) ∧ decode cX6_questions 7 = .ok (.iconst (-1), 1) ∧ decode cX6_questions 8 = .ok (.ireturn, 1) ∧ decode cX6_questions 9 = .ok (.aload_n 0, 1) ∧ decode cX6_questions 10 = .ok (.getfield 47, 3) ∧ decode cX6_questions 13 = .ok (.aload_n 0, 1) := by decide +kernel
theorem dX6_questions_0 : decode cX6_questions 0 = .ok (.aload_n 0, 1) := dAX6_questions_0.1
theorem dX6_questions_1 : decode cX6_questions 1 = .ok (.invokevirtual 140, 3) := dAX6_questions_0.2.1
theorem dX6_questions_4 : decode cX6_questions 4 = .ok (.ifCond .eq 5, 3) := dAX6_questions_0.2.2.1
theorem dX6_questions_7 : decode cX6_questions 7 = .ok (.iconst (-1), 1) := dAX6_questions_0.2.2.2.1
theorem dX6_questions_8 : decode cX6_questions 8 = .ok (.ireturn, 1) := dAX6_questions_0.2.2.2.2.1
theorem dX6_questions_9 : decode cX6_questions 9 = .ok (.aload_n 0, 1) := dAX6_questions_0.2.2.2.2.2.1
theorem dX6_questions_10 : decode cX6_questions 10 = .ok (.getfield 47, 3) := dAX6_questions_0.2.2.2.2.2.2.1
theorem dX6_questions_13 : decode cX6_questions 13 = .ok (.aload_n 0, 1) := dAX6_questions_0.2.2.2.2.2.2.2
set_option maxRecDepth 100000 in
theorem dAX6_questions_1 : decode cX6_questions 14 = .ok (.getfield 19, 3) ∧ decode cX6_questions 17 = .ok (.aload_n 0, 1) ∧ decode cX6_questions 18 = .ok (.getfield 26, 3) ∧ decode cX6_questions 21 = .ok (.invokevirtual 211, 3) ∧ decode cX6_questions 24 = .ok (.aload_n 0, 1) ∧ decode cX6_questions 25 = .ok (.getfield 47, 3) ∧ decode cX6_questions 28 = .ok (.getfield 218, 3) ∧ decode cX6_questions 31 = .ok (.ireturn, 1) := by decide +kernel
theorem dX6_questions_14 : decode cX6_questions 14 = .ok (.getfield 19, 3) := dAX6_questions_1.1
theorem dX6_questions_17 : decode cX6_questions 17 = .ok (.aload_n 0, 1) := dAX6_questions_1.2.1
theorem dX6_questions_18 : decode cX6_questions 18 = .ok (.getfield 26, 3) := dAX6_questions_1.2.2.1
theorem dX6_questions_21 : decode cX6_questions 21 = .ok (.invokevirtual 211, 3) := dAX6_questions_1.2.2.2.1
theorem dX6_questions_24 : decode cX6_questions 24 = .ok (.aload_n 0, 1) := dAX6_questions_1.2.2.2.2.1
theorem dX6_questions_25 : decode cX6_questions 25 = .ok (.getfield 47, 3) := dAX6_questions_1.2.2.2.2.2.1
theorem dX6_questions_28 : decode cX6_questions 28 = .ok (.getfield 218, 3) := dAX6_questions_1.2.2.2.2.2.2.1
theorem dX6_questions_31 : decode cX6_questions 31 = .ok (.ireturn, 1) := dAX6_questions_1.2.2.2.2.2.2.2
set_option maxRecDepth 100000 in
theorem dAX6_refuse_0 : decode cX6_refuse 0 = .ok (.aload_n 0, 1) ∧ decode cX6_refuse 1 = .ok (.iload_n 1, 1) ∧ decode cX6_refuse 2 = .ok (.putfield 100, 3) ∧ decode cX6_refuse 5 = .ok (.iconst (-1), 1) ∧ decode cX6_refuse 6 = .ok (.ireturn, 1) := by decide +kernel
theorem dX6_refuse_0 : decode cX6_refuse 0 = .ok (.aload_n 0, 1) := dAX6_refuse_0.1
theorem dX6_refuse_1 : decode cX6_refuse 1 = .ok (.iload_n 1, 1) := dAX6_refuse_0.2.1
theorem dX6_refuse_2 : decode cX6_refuse 2 = .ok (.putfield 100, 3) := dAX6_refuse_0.2.2.1
theorem dX6_refuse_5 : decode cX6_refuse 5 = .ok (.iconst (-1), 1) := dAX6_refuse_0.2.2.2.1
theorem dX6_refuse_6 : decode cX6_refuse 6 = .ok (.ireturn, 1) := dAX6_refuse_0.2.2.2.2
set_option maxRecDepth 100000 in
theorem dAX6_rest_0 : decode cX6_rest 0 = .ok (.aload_n 0, 1) ∧ decode cX6_rest 1 = .ok (.iload_n 1, 1) ∧ decode cX6_rest 2 = .ok (.iconst 0, 1) ∧ decode cX6_rest 3 = .ok (.bipush 9, 2) ∧ decode cX6_rest 5 = .ok (.invokevirtual 203, 3) ∧ decode cX6_rest 8 = .ok (.ifCond .eq 5, 3) ∧ decode cX6_rest 11 = .ok (.iconst (-1), 1) ∧ decode cX6_rest 12 = .ok (.ireturn, 1) := by decide +kernel
theorem dX6_rest_0 : decode cX6_rest 0 = .ok (.aload_n 0, 1) := dAX6_rest_0.1
theorem dX6_rest_1 : decode cX6_rest 1 = .ok (.iload_n 1, 1) := dAX6_rest_0.2.1
theorem dX6_rest_2 : decode cX6_rest 2 = .ok (.iconst 0, 1) := dAX6_rest_0.2.2.1
theorem dX6_rest_3 : decode cX6_rest 3 = .ok (.bipush 9, 2) := dAX6_rest_0.2.2.2.1
theorem dX6_rest_5 : decode cX6_rest 5 = .ok (.invokevirtual 203, 3) := dAX6_rest_0.2.2.2.2.1
theorem dX6_rest_8 : decode cX6_rest 8 = .ok (.ifCond .eq 5, 3) := dAX6_rest_0.2.2.2.2.2.1
theorem dX6_rest_11 : decode cX6_rest 11 = .ok (.iconst (-1), 1) := dAX6_rest_0.2.2.2.2.2.2.1
theorem dX6_rest_12 : decode cX6_rest 12 = .ok (.ireturn, 1) := dAX6_rest_0.2.2.2.2.2.2.2
set_option maxRecDepth 100000 in
theorem dAX6_rest_1 : decode cX6_rest 13 = .ok (.iconst 0, 1) ∧ decode cX6_rest 14 = .ok (.istore_n 2, 1) ∧ decode cX6_rest 15 = .ok (.iload_n 2, 1) ∧ decode cX6_rest 16 = .ok (.iconst 4, 1) ∧ decode cX6_rest 17 = .ok (.if_icmp .ge 49, 3) ∧ decode cX6_rest 20 = .ok (.iload_n 1, 1) ∧ decode cX6_rest 21 = .ok (.iload_n 2, 1) ∧ decode cX6_rest 22 = .ok (.iconst 2, 1) := by decide +kernel
theorem dX6_rest_13 : decode cX6_rest 13 = .ok (.iconst 0, 1) := dAX6_rest_1.1
theorem dX6_rest_14 : decode cX6_rest 14 = .ok (.istore_n 2, 1) := dAX6_rest_1.2.1
theorem dX6_rest_15 : decode cX6_rest 15 = .ok (.iload_n 2, 1) := dAX6_rest_1.2.2.1
theorem dX6_rest_16 : decode cX6_rest 16 = .ok (.iconst 4, 1) := dAX6_rest_1.2.2.2.1
theorem dX6_rest_17 : decode cX6_rest 17 = .ok (.if_icmp .ge 49, 3) := dAX6_rest_1.2.2.2.2.1
theorem dX6_rest_20 : decode cX6_rest 20 = .ok (.iload_n 1, 1) := dAX6_rest_1.2.2.2.2.2.1
theorem dX6_rest_21 : decode cX6_rest 21 = .ok (.iload_n 2, 1) := dAX6_rest_1.2.2.2.2.2.2.1
theorem dX6_rest_22 : decode cX6_rest 22 = .ok (.iconst 2, 1) := dAX6_rest_1.2.2.2.2.2.2.2
set_option maxRecDepth 100000 in
theorem dAX6_rest_2 : decode cX6_rest 23 = .ok (.iand, 1) ∧ decode cX6_rest 24 = .ok (.ifCond .eq 7, 3) ∧ decode cX6_rest 27 = .ok (.iconst 1, 1) ∧ decode cX6_rest 28 = .ok (.goto 4, 3) ∧ decode cX6_rest 31 = .ok (.iconst 0, 1) ∧ decode cX6_rest 32 = .ok (.iload_n 2, 1) ∧ decode cX6_rest 33 = .ok (.iconst 1, 1) ∧ decode cX6_rest 34 = .ok (.iand, 1) := by decide +kernel
theorem dX6_rest_23 : decode cX6_rest 23 = .ok (.iand, 1) := dAX6_rest_2.1
theorem dX6_rest_24 : decode cX6_rest 24 = .ok (.ifCond .eq 7, 3) := dAX6_rest_2.2.1
theorem dX6_rest_27 : decode cX6_rest 27 = .ok (.iconst 1, 1) := dAX6_rest_2.2.2.1
theorem dX6_rest_28 : decode cX6_rest 28 = .ok (.goto 4, 3) := dAX6_rest_2.2.2.2.1
theorem dX6_rest_31 : decode cX6_rest 31 = .ok (.iconst 0, 1) := dAX6_rest_2.2.2.2.2.1
theorem dX6_rest_32 : decode cX6_rest 32 = .ok (.iload_n 2, 1) := dAX6_rest_2.2.2.2.2.2.1
theorem dX6_rest_33 : decode cX6_rest 33 = .ok (.iconst 1, 1) := dAX6_rest_2.2.2.2.2.2.2.1
theorem dX6_rest_34 : decode cX6_rest 34 = .ok (.iand, 1) := dAX6_rest_2.2.2.2.2.2.2.2
set_option maxRecDepth 100000 in
theorem dAX6_rest_3 : decode cX6_rest 35 = .ok (.ifCond .eq 7, 3) ∧ decode cX6_rest 38 = .ok (.iconst 1, 1) ∧ decode cX6_rest 39 = .ok (.goto 4, 3) ∧ decode cX6_rest 42 = .ok (.iconst 0, 1) ∧ decode cX6_rest 43 = .ok (.invokestatic 330, 3) ∧ decode cX6_rest 46 = .ok (.ifCond .eq 14, 3) ∧ decode cX6_rest 49 = .ok (.iload_n 2, 1) ∧ decode cX6_rest 50 = .ok (.iconst 1, 1) := by decide +kernel
theorem dX6_rest_35 : decode cX6_rest 35 = .ok (.ifCond .eq 7, 3) := dAX6_rest_3.1
theorem dX6_rest_38 : decode cX6_rest 38 = .ok (.iconst 1, 1) := dAX6_rest_3.2.1
theorem dX6_rest_39 : decode cX6_rest 39 = .ok (.goto 4, 3) := dAX6_rest_3.2.2.1
theorem dX6_rest_42 : decode cX6_rest 42 = .ok (.iconst 0, 1) := dAX6_rest_3.2.2.2.1
theorem dX6_rest_43 : decode cX6_rest 43 = .ok (.invokestatic 330, 3) := dAX6_rest_3.2.2.2.2.1
theorem dX6_rest_46 : decode cX6_rest 46 = .ok (.ifCond .eq 14, 3) := dAX6_rest_3.2.2.2.2.2.1
theorem dX6_rest_49 : decode cX6_rest 49 = .ok (.iload_n 2, 1) := dAX6_rest_3.2.2.2.2.2.2.1
theorem dX6_rest_50 : decode cX6_rest 50 = .ok (.iconst 1, 1) := dAX6_rest_3.2.2.2.2.2.2.2
set_option maxRecDepth 100000 in
theorem dAX6_rest_4 : decode cX6_rest 51 = .ok (.ishr, 1) ∧ decode cX6_rest 52 = .ok (.bipush 10, 2) ∧ decode cX6_rest 54 = .ok (.imul, 1) ∧ decode cX6_rest 55 = .ok (.iload_n 2, 1) ∧ decode cX6_rest 56 = .ok (.iconst 1, 1) ∧ decode cX6_rest 57 = .ok (.iand, 1) ∧ decode cX6_rest 58 = .ok (.iadd, 1) ∧ decode cX6_rest 59 = .ok (.ireturn, 1) := by decide +kernel
theorem dX6_rest_51 : decode cX6_rest 51 = .ok (.ishr, 1) := dAX6_rest_4.1
theorem dX6_rest_52 : decode cX6_rest 52 = .ok (.bipush 10, 2) := dAX6_rest_4.2.1
theorem dX6_rest_54 : decode cX6_rest 54 = .ok (.imul, 1) := dAX6_rest_4.2.2.1
theorem dX6_rest_55 : decode cX6_rest 55 = .ok (.iload_n 2, 1) := dAX6_rest_4.2.2.2.1
theorem dX6_rest_56 : decode cX6_rest 56 = .ok (.iconst 1, 1) := dAX6_rest_4.2.2.2.2.1
theorem dX6_rest_57 : decode cX6_rest 57 = .ok (.iand, 1) := dAX6_rest_4.2.2.2.2.2.1
theorem dX6_rest_58 : decode cX6_rest 58 = .ok (.iadd, 1) := dAX6_rest_4.2.2.2.2.2.2.1
theorem dX6_rest_59 : decode cX6_rest 59 = .ok (.ireturn, 1) := dAX6_rest_4.2.2.2.2.2.2.2
set_option maxRecDepth 100000 in
theorem dAX6_rest_5 : decode cX6_rest 60 = .ok (.iinc 2 1, 3) ∧ decode cX6_rest 63 = .ok (.goto (-48), 3) ∧ decode cX6_rest 66 = .ok (.bipush (-2), 2) ∧ decode cX6_rest 68 = .ok (.ireturn, 1) := by decide +kernel
theorem dX6_rest_60 : decode cX6_rest 60 = .ok (.iinc 2 1, 3) := dAX6_rest_5.1
theorem dX6_rest_63 : decode cX6_rest 63 = .ok (.goto (-48), 3) := dAX6_rest_5.2.1
theorem dX6_rest_66 : decode cX6_rest 66 = .ok (.bipush (-2), 2) := dAX6_rest_5.2.2.1
theorem dX6_rest_68 : decode cX6_rest 68 = .ok (.ireturn, 1) := dAX6_rest_5.2.2.2
set_option maxRecDepth 100000 in
theorem dAX6_rests_0 : decode cX6_rests 0 = .ok (.aload_n 0, 1) ∧ decode cX6_rests 1 = .ok (.iload_n 1, 1) ∧ decode cX6_rests 2 = .ok (.iconst 0, 1) ∧ decode cX6_rests 3 = .ok (.bipush 9, 2) ∧ decode cX6_rests 5 = .ok (.invokevirtual 203, 3) ∧ decode cX6_rests 8 = .ok (.ifCond .eq 5, 3) ∧ decode cX6_rests 11 = .ok (.iconst (-1), 1) ∧ decode cX6_rests 12 = .ok (.ireturn, 1) := by decide +kernel
theorem dX6_rests_0 : decode cX6_rests 0 = .ok (.aload_n 0, 1) := dAX6_rests_0.1
theorem dX6_rests_1 : decode cX6_rests 1 = .ok (.iload_n 1, 1) := dAX6_rests_0.2.1
theorem dX6_rests_2 : decode cX6_rests 2 = .ok (.iconst 0, 1) := dAX6_rests_0.2.2.1
theorem dX6_rests_3 : decode cX6_rests 3 = .ok (.bipush 9, 2) := dAX6_rests_0.2.2.2.1
theorem dX6_rests_5 : decode cX6_rests 5 = .ok (.invokevirtual 203, 3) := dAX6_rests_0.2.2.2.2.1
theorem dX6_rests_8 : decode cX6_rests 8 = .ok (.ifCond .eq 5, 3) := dAX6_rests_0.2.2.2.2.2.1
theorem dX6_rests_11 : decode cX6_rests 11 = .ok (.iconst (-1), 1) := dAX6_rests_0.2.2.2.2.2.2.1
theorem dX6_rests_12 : decode cX6_rests 12 = .ok (.ireturn, 1) := dAX6_rests_0.2.2.2.2.2.2.2
set_option maxRecDepth 100000 in
theorem dAX6_rests_1 : decode cX6_rests 13 = .ok (.iconst 0, 1) ∧ decode cX6_rests 14 = .ok (.istore_n 2, 1) ∧ decode cX6_rests 15 = .ok (.iconst 0, 1) ∧ decode cX6_rests 16 = .ok (.istore_n 3, 1) ∧ decode cX6_rests 17 = .ok (.iload_n 3, 1) ∧ decode cX6_rests 18 = .ok (.iconst 4, 1) ∧ decode cX6_rests 19 = .ok (.if_icmp .ge 41, 3) ∧ decode cX6_rests 22 = .ok (.iload_n 1, 1) := by decide +kernel
theorem dX6_rests_13 : decode cX6_rests 13 = .ok (.iconst 0, 1) := dAX6_rests_1.1
theorem dX6_rests_14 : decode cX6_rests 14 = .ok (.istore_n 2, 1) := dAX6_rests_1.2.1
theorem dX6_rests_15 : decode cX6_rests 15 = .ok (.iconst 0, 1) := dAX6_rests_1.2.2.1
theorem dX6_rests_16 : decode cX6_rests 16 = .ok (.istore_n 3, 1) := dAX6_rests_1.2.2.2.1
theorem dX6_rests_17 : decode cX6_rests 17 = .ok (.iload_n 3, 1) := dAX6_rests_1.2.2.2.2.1
theorem dX6_rests_18 : decode cX6_rests 18 = .ok (.iconst 4, 1) := dAX6_rests_1.2.2.2.2.2.1
theorem dX6_rests_19 : decode cX6_rests 19 = .ok (.if_icmp .ge 41, 3) := dAX6_rests_1.2.2.2.2.2.2.1
theorem dX6_rests_22 : decode cX6_rests 22 = .ok (.iload_n 1, 1) := dAX6_rests_1.2.2.2.2.2.2.2
set_option maxRecDepth 100000 in
theorem dAX6_rests_2 : decode cX6_rests 23 = .ok (.iload_n 3, 1) ∧ decode cX6_rests 24 = .ok (.iconst 2, 1) ∧ decode cX6_rests 25 = .ok (.iand, 1) ∧ decode cX6_rests 26 = .ok (.ifCond .eq 7, 3) ∧ decode cX6_rests 29 = .ok (.iconst 1, 1) ∧ decode cX6_rests 30 = .ok (.goto 4, 3) ∧ decode cX6_rests 33 = .ok (.iconst 0, 1) ∧ decode cX6_rests 34 = .ok (.iload_n 3, 1) := by decide +kernel
theorem dX6_rests_23 : decode cX6_rests 23 = .ok (.iload_n 3, 1) := dAX6_rests_2.1
theorem dX6_rests_24 : decode cX6_rests 24 = .ok (.iconst 2, 1) := dAX6_rests_2.2.1
theorem dX6_rests_25 : decode cX6_rests 25 = .ok (.iand, 1) := dAX6_rests_2.2.2.1
theorem dX6_rests_26 : decode cX6_rests 26 = .ok (.ifCond .eq 7, 3) := dAX6_rests_2.2.2.2.1
theorem dX6_rests_29 : decode cX6_rests 29 = .ok (.iconst 1, 1) := dAX6_rests_2.2.2.2.2.1
theorem dX6_rests_30 : decode cX6_rests 30 = .ok (.goto 4, 3) := dAX6_rests_2.2.2.2.2.2.1
theorem dX6_rests_33 : decode cX6_rests 33 = .ok (.iconst 0, 1) := dAX6_rests_2.2.2.2.2.2.2.1
theorem dX6_rests_34 : decode cX6_rests 34 = .ok (.iload_n 3, 1) := dAX6_rests_2.2.2.2.2.2.2.2
set_option maxRecDepth 100000 in
theorem dAX6_rests_3 : decode cX6_rests 35 = .ok (.iconst 1, 1) ∧ decode cX6_rests 36 = .ok (.iand, 1) ∧ decode cX6_rests 37 = .ok (.ifCond .eq 7, 3) ∧ decode cX6_rests 40 = .ok (.iconst 1, 1) ∧ decode cX6_rests 41 = .ok (.goto 4, 3) ∧ decode cX6_rests 44 = .ok (.iconst 0, 1) ∧ decode cX6_rests 45 = .ok (.invokestatic 330, 3) ∧ decode cX6_rests 48 = .ok (.ifCond .eq 6, 3) := by decide +kernel
theorem dX6_rests_35 : decode cX6_rests 35 = .ok (.iconst 1, 1) := dAX6_rests_3.1
theorem dX6_rests_36 : decode cX6_rests 36 = .ok (.iand, 1) := dAX6_rests_3.2.1
theorem dX6_rests_37 : decode cX6_rests 37 = .ok (.ifCond .eq 7, 3) := dAX6_rests_3.2.2.1
theorem dX6_rests_40 : decode cX6_rests 40 = .ok (.iconst 1, 1) := dAX6_rests_3.2.2.2.1
theorem dX6_rests_41 : decode cX6_rests 41 = .ok (.goto 4, 3) := dAX6_rests_3.2.2.2.2.1
theorem dX6_rests_44 : decode cX6_rests 44 = .ok (.iconst 0, 1) := dAX6_rests_3.2.2.2.2.2.1
theorem dX6_rests_45 : decode cX6_rests 45 = .ok (.invokestatic 330, 3) := dAX6_rests_3.2.2.2.2.2.2.1
theorem dX6_rests_48 : decode cX6_rests 48 = .ok (.ifCond .eq 6, 3) := dAX6_rests_3.2.2.2.2.2.2.2
set_option maxRecDepth 100000 in
theorem dAX6_rests_4 : decode cX6_rests 51 = .ok (.iinc 2 1, 3) ∧ decode cX6_rests 54 = .ok (.iinc 3 1, 3) ∧ decode cX6_rests 57 = .ok (.goto (-40), 3) ∧ decode cX6_rests 60 = .ok (.iload_n 2, 1) ∧ decode cX6_rests 61 = .ok (.ireturn, 1) := by decide +kernel
theorem dX6_rests_51 : decode cX6_rests 51 = .ok (.iinc 2 1, 3) := dAX6_rests_4.1
theorem dX6_rests_54 : decode cX6_rests 54 = .ok (.iinc 3 1, 3) := dAX6_rests_4.2.1
theorem dX6_rests_57 : decode cX6_rests 57 = .ok (.goto (-40), 3) := dAX6_rests_4.2.2.1
theorem dX6_rests_60 : decode cX6_rests 60 = .ok (.iload_n 2, 1) := dAX6_rests_4.2.2.2.1
theorem dX6_rests_61 : decode cX6_rests 61 = .ok (.ireturn, 1) := dAX6_rests_4.2.2.2.2
set_option maxRecDepth 100000 in
theorem dAX6_say_0 : decode cX6_say 0 = .ok (.aload_n 0, 1) ∧ decode cX6_say 1 = .ok (.iload_n 1, 1) ∧ decode cX6_say 2 = .ok (.invokevirtual 271, 3) ∧ decode cX6_say 5 = .ok (.ifCond .ne 14, 3) ∧ decode cX6_say 8 = .ok (.aload_n 0, 1) ∧ decode cX6_say 9 = .ok (.iload_n 2, 1) ∧ decode cX6_say 10 = .ok (.iconst 0, 1) ∧ decode cX6_say 11 = .ok (.bipush 99, 2) := by decide +kernel
theorem dX6_say_0 : decode cX6_say 0 = .ok (.aload_n 0, 1) := dAX6_say_0.1
theorem dX6_say_1 : decode cX6_say 1 = .ok (.iload_n 1, 1) := dAX6_say_0.2.1
theorem dX6_say_2 : decode cX6_say 2 = .ok (.invokevirtual 271, 3) := dAX6_say_0.2.2.1
theorem dX6_say_5 : decode cX6_say 5 = .ok (.ifCond .ne 14, 3) := dAX6_say_0.2.2.2.1
theorem dX6_say_8 : decode cX6_say 8 = .ok (.aload_n 0, 1) := dAX6_say_0.2.2.2.2.1
theorem dX6_say_9 : decode cX6_say 9 = .ok (.iload_n 2, 1) := dAX6_say_0.2.2.2.2.2.1
theorem dX6_say_10 : decode cX6_say 10 = .ok (.iconst 0, 1) := dAX6_say_0.2.2.2.2.2.2.1
theorem dX6_say_11 : decode cX6_say 11 = .ok (.bipush 99, 2) := dAX6_say_0.2.2.2.2.2.2.2
set_option maxRecDepth 100000 in
theorem dAX6_say_1 : decode cX6_say 13 = .ok (.invokevirtual 203, 3) ∧ decode cX6_say 16 = .ok (.ifCond .eq 5, 3) ∧ decode cX6_say 19 = .ok (.iconst 0, 1) ∧ decode cX6_say 20 = .ok (.ireturn, 1) ∧ decode cX6_say 21 = .ok (.aload_n 0, 1) ∧ decode cX6_say 22 = .ok (.getfield 26, 3) ∧ decode cX6_say 25 = .ok (.getfield 149, 3) ∧ decode cX6_say 28 = .ok (.iload_n 1, 1) := by decide +kernel
theorem dX6_say_13 : decode cX6_say 13 = .ok (.invokevirtual 203, 3) := dAX6_say_1.1
theorem dX6_say_16 : decode cX6_say 16 = .ok (.ifCond .eq 5, 3) := dAX6_say_1.2.1
theorem dX6_say_19 : decode cX6_say 19 = .ok (.iconst 0, 1) := dAX6_say_1.2.2.1
theorem dX6_say_20 : decode cX6_say 20 = .ok (.ireturn, 1) := dAX6_say_1.2.2.2.1
theorem dX6_say_21 : decode cX6_say 21 = .ok (.aload_n 0, 1) := dAX6_say_1.2.2.2.2.1
theorem dX6_say_22 : decode cX6_say 22 = .ok (.getfield 26, 3) := dAX6_say_1.2.2.2.2.2.1
theorem dX6_say_25 : decode cX6_say 25 = .ok (.getfield 149, 3) := dAX6_say_1.2.2.2.2.2.2.1
theorem dX6_say_28 : decode cX6_say 28 = .ok (.iload_n 1, 1) := dAX6_say_1.2.2.2.2.2.2.2
set_option maxRecDepth 100000 in
theorem dAX6_say_2 : decode cX6_say 29 = .ok (.iaload, 1) ∧ decode cX6_say 30 = .ok (.iload_n 2, 1) ∧ decode cX6_say 31 = .ok (.if_icmp .ne 10, 3) ∧ decode cX6_say 34 = .ok (.aload_n 0, 1) ∧ decode cX6_say 35 = .ok (.iconst 5, 1) ∧ decode cX6_say 36 = .ok (.putfield 100, 3) ∧ decode cX6_say 39 = .ok (.iconst 0, 1) ∧ decode cX6_say 40 = .ok (.ireturn, 1) := by decide +kernel
theorem dX6_say_29 : decode cX6_say 29 = .ok (.iaload, 1) := dAX6_say_2.1
theorem dX6_say_30 : decode cX6_say 30 = .ok (.iload_n 2, 1) := dAX6_say_2.2.1
theorem dX6_say_31 : decode cX6_say 31 = .ok (.if_icmp .ne 10, 3) := dAX6_say_2.2.2.1
theorem dX6_say_34 : decode cX6_say 34 = .ok (.aload_n 0, 1) := dAX6_say_2.2.2.2.1
theorem dX6_say_35 : decode cX6_say 35 = .ok (.iconst 5, 1) := dAX6_say_2.2.2.2.2.1
theorem dX6_say_36 : decode cX6_say 36 = .ok (.putfield 100, 3) := dAX6_say_2.2.2.2.2.2.1
theorem dX6_say_39 : decode cX6_say 39 = .ok (.iconst 0, 1) := dAX6_say_2.2.2.2.2.2.2.1
theorem dX6_say_40 : decode cX6_say 40 = .ok (.ireturn, 1) := dAX6_say_2.2.2.2.2.2.2.2
set_option maxRecDepth 100000 in
theorem dAX6_say_3 : decode cX6_say 41 = .ok (.aload_n 0, 1) ∧ decode cX6_say 42 = .ok (.getfield 40, 3) ∧ decode cX6_say 45 = .ok (.iload_n 1, 1) ∧ decode cX6_say 46 = .ok (.aload_n 0, 1) ∧ decode cX6_say 47 = .ok (.getfield 26, 3) ∧ decode cX6_say 50 = .ok (.getfield 149, 3) ∧ decode cX6_say 53 = .ok (.iload_n 1, 1) ∧ decode cX6_say 54 = .ok (.iaload, 1) := by decide +kernel
theorem dX6_say_41 : decode cX6_say 41 = .ok (.aload_n 0, 1) := dAX6_say_3.1
theorem dX6_say_42 : decode cX6_say 42 = .ok (.getfield 40, 3) := dAX6_say_3.2.1
theorem dX6_say_45 : decode cX6_say 45 = .ok (.iload_n 1, 1) := dAX6_say_3.2.2.1
theorem dX6_say_46 : decode cX6_say 46 = .ok (.aload_n 0, 1) := dAX6_say_3.2.2.2.1
theorem dX6_say_47 : decode cX6_say 47 = .ok (.getfield 26, 3) := dAX6_say_3.2.2.2.2.1
theorem dX6_say_50 : decode cX6_say 50 = .ok (.getfield 149, 3) := dAX6_say_3.2.2.2.2.2.1
theorem dX6_say_53 : decode cX6_say 53 = .ok (.iload_n 1, 1) := dAX6_say_3.2.2.2.2.2.2.1
theorem dX6_say_54 : decode cX6_say 54 = .ok (.iaload, 1) := dAX6_say_3.2.2.2.2.2.2.2
set_option maxRecDepth 100000 in
theorem dAX6_say_4 : decode cX6_say 55 = .ok (.iconst 1, 1) ∧ decode cX6_say 56 = .ok (.invokevirtual 346, 3) ∧ decode cX6_say 59 = .ok (.aload_n 0, 1) ∧ decode cX6_say 60 = .ok (.getfield 26, 3) ∧ decode cX6_say 63 = .ok (.getfield 149, 3) ∧ decode cX6_say 66 = .ok (.iload_n 1, 1) ∧ decode cX6_say 67 = .ok (.iload_n 2, 1) ∧ decode cX6_say 68 = .ok (.iastore, 1) := by decide +kernel
theorem dX6_say_55 : decode cX6_say 55 = .ok (.iconst 1, 1) := dAX6_say_4.1
theorem dX6_say_56 : decode cX6_say 56 = .ok (.invokevirtual 346, 3) := dAX6_say_4.2.1
theorem dX6_say_59 : decode cX6_say 59 = .ok (.aload_n 0, 1) := dAX6_say_4.2.2.1
theorem dX6_say_60 : decode cX6_say 60 = .ok (.getfield 26, 3) := dAX6_say_4.2.2.2.1
theorem dX6_say_63 : decode cX6_say 63 = .ok (.getfield 149, 3) := dAX6_say_4.2.2.2.2.1
theorem dX6_say_66 : decode cX6_say 66 = .ok (.iload_n 1, 1) := dAX6_say_4.2.2.2.2.2.1
theorem dX6_say_67 : decode cX6_say 67 = .ok (.iload_n 2, 1) := dAX6_say_4.2.2.2.2.2.2.1
theorem dX6_say_68 : decode cX6_say 68 = .ok (.iastore, 1) := dAX6_say_4.2.2.2.2.2.2.2
set_option maxRecDepth 100000 in
theorem dAX6_say_5 : decode cX6_say 69 = .ok (.iconst 1, 1) ∧ decode cX6_say 70 = .ok (.ireturn, 1) := by decide +kernel
theorem dX6_say_69 : decode cX6_say 69 = .ok (.iconst 1, 1) := dAX6_say_5.1
theorem dX6_say_70 : decode cX6_say 70 = .ok (.ireturn, 1) := dAX6_say_5.2
set_option maxRecDepth 100000 in
theorem dAX6_settles_0 : decode cX6_settles 0 = .ok (.aload_n 0, 1) ∧ decode cX6_settles 1 = .ok (.invokevirtual 140, 3) ∧ decode cX6_settles 4 = .ok (.ifCond .eq 5, 3) ∧ decode cX6_settles 7 = .ok (.iconst (-1), 1) ∧ decode cX6_settles 8 = .ok (.ireturn, 1) ∧ decode cX6_settles 9 = .ok (.aload_n 0, 1) ∧ decode cX6_settles 10 = .ok (.getfield 54, 3) ∧ decode cX6_settles 13 = .ok (.aload_n 0, 1) := by decide +kernel
theorem dX6_settles_0 : decode cX6_settles 0 = .ok (.aload_n 0, 1) := dAX6_settles_0.1
theorem dX6_settles_1 : decode cX6_settles 1 = .ok (.invokevirtual 140, 3) := dAX6_settles_0.2.1
theorem dX6_settles_4 : decode cX6_settles 4 = .ok (.ifCond .eq 5, 3) := dAX6_settles_0.2.2.1
theorem dX6_settles_7 : decode cX6_settles 7 = .ok (.iconst (-1), 1) := dAX6_settles_0.2.2.2.1
theorem dX6_settles_8 : decode cX6_settles 8 = .ok (.ireturn, 1) := dAX6_settles_0.2.2.2.2.1
theorem dX6_settles_9 : decode cX6_settles 9 = .ok (.aload_n 0, 1) := dAX6_settles_0.2.2.2.2.2.1
theorem dX6_settles_10 : decode cX6_settles 10 = .ok (.getfield 54, 3) := dAX6_settles_0.2.2.2.2.2.2.1
theorem dX6_settles_13 : decode cX6_settles 13 = .ok (.aload_n 0, 1) := dAX6_settles_0.2.2.2.2.2.2.2
set_option maxRecDepth 100000 in
theorem dAX6_settles_1 : decode cX6_settles 14 = .ok (.getfield 19, 3) ∧ decode cX6_settles 17 = .ok (.aload_n 0, 1) ∧ decode cX6_settles 18 = .ok (.getfield 26, 3) ∧ decode cX6_settles 21 = .ok (.getfield 149, 3) ∧ decode cX6_settles 24 = .ok (.invokevirtual 152, 3) ∧ decode cX6_settles 27 = .ok (.istore_n 1, 1) ∧ decode cX6_settles 28 = .ok (.iconst 0, 1) ∧ decode cX6_settles 29 = .ok (.istore_n 2, 1) := by decide +kernel
theorem dX6_settles_14 : decode cX6_settles 14 = .ok (.getfield 19, 3) := dAX6_settles_1.1
theorem dX6_settles_17 : decode cX6_settles 17 = .ok (.aload_n 0, 1) := dAX6_settles_1.2.1
theorem dX6_settles_18 : decode cX6_settles 18 = .ok (.getfield 26, 3) := dAX6_settles_1.2.2.1
theorem dX6_settles_21 : decode cX6_settles 21 = .ok (.getfield 149, 3) := dAX6_settles_1.2.2.2.1
theorem dX6_settles_24 : decode cX6_settles 24 = .ok (.invokevirtual 152, 3) := dAX6_settles_1.2.2.2.2.1
theorem dX6_settles_27 : decode cX6_settles 27 = .ok (.istore_n 1, 1) := dAX6_settles_1.2.2.2.2.2.1
theorem dX6_settles_28 : decode cX6_settles 28 = .ok (.iconst 0, 1) := dAX6_settles_1.2.2.2.2.2.2.1
theorem dX6_settles_29 : decode cX6_settles 29 = .ok (.istore_n 2, 1) := dAX6_settles_1.2.2.2.2.2.2.2
set_option maxRecDepth 100000 in
theorem dAX6_settles_2 : decode cX6_settles 30 = .ok (.aload_n 0, 1) ∧ decode cX6_settles 31 = .ok (.getfield 54, 3) ∧ decode cX6_settles 34 = .ok (.aload_n 0, 1) ∧ decode cX6_settles 35 = .ok (.getfield 19, 3) ∧ decode cX6_settles 38 = .ok (.aload_n 0, 1) ∧ decode cX6_settles 39 = .ok (.getfield 26, 3) ∧ decode cX6_settles 42 = .ok (.getfield 149, 3) ∧ decode cX6_settles 45 = .ok (.invokevirtual 264, 3) := by decide +kernel
theorem dX6_settles_30 : decode cX6_settles 30 = .ok (.aload_n 0, 1) := dAX6_settles_2.1
theorem dX6_settles_31 : decode cX6_settles 31 = .ok (.getfield 54, 3) := dAX6_settles_2.2.1
theorem dX6_settles_34 : decode cX6_settles 34 = .ok (.aload_n 0, 1) := dAX6_settles_2.2.2.1
theorem dX6_settles_35 : decode cX6_settles 35 = .ok (.getfield 19, 3) := dAX6_settles_2.2.2.2.1
theorem dX6_settles_38 : decode cX6_settles 38 = .ok (.aload_n 0, 1) := dAX6_settles_2.2.2.2.2.1
theorem dX6_settles_39 : decode cX6_settles 39 = .ok (.getfield 26, 3) := dAX6_settles_2.2.2.2.2.2.1
theorem dX6_settles_42 : decode cX6_settles 42 = .ok (.getfield 149, 3) := dAX6_settles_2.2.2.2.2.2.2.1
theorem dX6_settles_45 : decode cX6_settles 45 = .ok (.invokevirtual 264, 3) := dAX6_settles_2.2.2.2.2.2.2.2
set_option maxRecDepth 100000 in
theorem dAX6_settles_3 : decode cX6_settles 48 = .ok (.iconst 0, 1) ∧ decode cX6_settles 49 = .ok (.istore_n 3, 1) ∧ decode cX6_settles 50 = .ok (.iload_n 3, 1) ∧ decode cX6_settles 51 = .ok (.bipush 9, 2) ∧ decode cX6_settles 53 = .ok (.if_icmp .gt 43, 3) ∧ decode cX6_settles 56 = .ok (.aload_n 0, 1) ∧ decode cX6_settles 57 = .ok (.getfield 54, 3) ∧ decode cX6_settles 60 = .ok (.getfield 156, 3) := by decide +kernel
theorem dX6_settles_48 : decode cX6_settles 48 = .ok (.iconst 0, 1) := dAX6_settles_3.1
theorem dX6_settles_49 : decode cX6_settles 49 = .ok (.istore_n 3, 1) := dAX6_settles_3.2.1
theorem dX6_settles_50 : decode cX6_settles 50 = .ok (.iload_n 3, 1) := dAX6_settles_3.2.2.1
theorem dX6_settles_51 : decode cX6_settles 51 = .ok (.bipush 9, 2) := dAX6_settles_3.2.2.2.1
theorem dX6_settles_53 : decode cX6_settles 53 = .ok (.if_icmp .gt 43, 3) := dAX6_settles_3.2.2.2.2.1
theorem dX6_settles_56 : decode cX6_settles 56 = .ok (.aload_n 0, 1) := dAX6_settles_3.2.2.2.2.2.1
theorem dX6_settles_57 : decode cX6_settles 57 = .ok (.getfield 54, 3) := dAX6_settles_3.2.2.2.2.2.2.1
theorem dX6_settles_60 : decode cX6_settles 60 = .ok (.getfield 156, 3) := dAX6_settles_3.2.2.2.2.2.2.2
set_option maxRecDepth 100000 in
theorem dAX6_settles_4 : decode cX6_settles 63 = .ok (.aload_n 0, 1) ∧ decode cX6_settles 64 = .ok (.getfield 19, 3) ∧ decode cX6_settles 67 = .ok (.getfield 144, 3) ∧ decode cX6_settles 70 = .ok (.iaload, 1) ∧ decode cX6_settles 71 = .ok (.iload_n 1, 1) ∧ decode cX6_settles 72 = .ok (.if_icmp .eq 7, 3) ∧ decode cX6_settles 75 = .ok (.iload_n 3, 1) ∧ decode cX6_settles 76 = .ok (.iconst 1, 1) := by decide +kernel
theorem dX6_settles_63 : decode cX6_settles 63 = .ok (.aload_n 0, 1) := dAX6_settles_4.1
theorem dX6_settles_64 : decode cX6_settles 64 = .ok (.getfield 19, 3) := dAX6_settles_4.2.1
theorem dX6_settles_67 : decode cX6_settles 67 = .ok (.getfield 144, 3) := dAX6_settles_4.2.2.1
theorem dX6_settles_70 : decode cX6_settles 70 = .ok (.iaload, 1) := dAX6_settles_4.2.2.2.1
theorem dX6_settles_71 : decode cX6_settles 71 = .ok (.iload_n 1, 1) := dAX6_settles_4.2.2.2.2.1
theorem dX6_settles_72 : decode cX6_settles 72 = .ok (.if_icmp .eq 7, 3) := dAX6_settles_4.2.2.2.2.2.1
theorem dX6_settles_75 : decode cX6_settles 75 = .ok (.iload_n 3, 1) := dAX6_settles_4.2.2.2.2.2.2.1
theorem dX6_settles_76 : decode cX6_settles 76 = .ok (.iconst 1, 1) := dAX6_settles_4.2.2.2.2.2.2.2
set_option maxRecDepth 100000 in
theorem dAX6_settles_5 : decode cX6_settles 77 = .ok (.iadd, 1) ∧ decode cX6_settles 78 = .ok (.istore_n 2, 1) ∧ decode cX6_settles 79 = .ok (.aload_n 0, 1) ∧ decode cX6_settles 80 = .ok (.getfield 54, 3) ∧ decode cX6_settles 83 = .ok (.aload_n 0, 1) ∧ decode cX6_settles 84 = .ok (.getfield 19, 3) ∧ decode cX6_settles 87 = .ok (.invokevirtual 268, 3) ∧ decode cX6_settles 90 = .ok (.iinc 3 1, 3) := by decide +kernel
theorem dX6_settles_77 : decode cX6_settles 77 = .ok (.iadd, 1) := dAX6_settles_5.1
theorem dX6_settles_78 : decode cX6_settles 78 = .ok (.istore_n 2, 1) := dAX6_settles_5.2.1
theorem dX6_settles_79 : decode cX6_settles 79 = .ok (.aload_n 0, 1) := dAX6_settles_5.2.2.1
theorem dX6_settles_80 : decode cX6_settles 80 = .ok (.getfield 54, 3) := dAX6_settles_5.2.2.2.1
theorem dX6_settles_83 : decode cX6_settles 83 = .ok (.aload_n 0, 1) := dAX6_settles_5.2.2.2.2.1
theorem dX6_settles_84 : decode cX6_settles 84 = .ok (.getfield 19, 3) := dAX6_settles_5.2.2.2.2.2.1
theorem dX6_settles_87 : decode cX6_settles 87 = .ok (.invokevirtual 268, 3) := dAX6_settles_5.2.2.2.2.2.2.1
theorem dX6_settles_90 : decode cX6_settles 90 = .ok (.iinc 3 1, 3) := dAX6_settles_5.2.2.2.2.2.2.2
set_option maxRecDepth 100000 in
theorem dAX6_settles_6 : decode cX6_settles 93 = .ok (.goto (-43), 3) ∧ decode cX6_settles 96 = .ok (.iload_n 2, 1) ∧ decode cX6_settles 97 = .ok (.ireturn, 1) := by decide +kernel
theorem dX6_settles_93 : decode cX6_settles 93 = .ok (.goto (-43), 3) := dAX6_settles_6.1
theorem dX6_settles_96 : decode cX6_settles 96 = .ok (.iload_n 2, 1) := dAX6_settles_6.2.1
theorem dX6_settles_97 : decode cX6_settles 97 = .ok (.ireturn, 1) := dAX6_settles_6.2.2
set_option maxRecDepth 100000 in
theorem dAX6_shareOf_0 : decode cX6_shareOf 0 = .ok (.iload_n 1, 1) ∧ decode cX6_shareOf 1 = .ok (.ifCond .eq 15, 3) ∧ decode cX6_shareOf 4 = .ok (.iload_n 2, 1) ∧ decode cX6_shareOf 5 = .ok (.ifCond .eq 9, 3) ∧ decode cX6_shareOf 8 = .ok (.iconst 2, 1) ∧ decode cX6_shareOf 9 = .ok (.iload_n 0, 1) ∧ decode cX6_shareOf 10 = .ok (.isub, 1) ∧ decode cX6_shareOf 11 = .ok (.goto 4, 3) := by decide +kernel
theorem dX6_shareOf_0 : decode cX6_shareOf 0 = .ok (.iload_n 1, 1) := dAX6_shareOf_0.1
theorem dX6_shareOf_1 : decode cX6_shareOf 1 = .ok (.ifCond .eq 15, 3) := dAX6_shareOf_0.2.1
theorem dX6_shareOf_4 : decode cX6_shareOf 4 = .ok (.iload_n 2, 1) := dAX6_shareOf_0.2.2.1
theorem dX6_shareOf_5 : decode cX6_shareOf 5 = .ok (.ifCond .eq 9, 3) := dAX6_shareOf_0.2.2.2.1
theorem dX6_shareOf_8 : decode cX6_shareOf 8 = .ok (.iconst 2, 1) := dAX6_shareOf_0.2.2.2.2.1
theorem dX6_shareOf_9 : decode cX6_shareOf 9 = .ok (.iload_n 0, 1) := dAX6_shareOf_0.2.2.2.2.2.1
theorem dX6_shareOf_10 : decode cX6_shareOf 10 = .ok (.isub, 1) := dAX6_shareOf_0.2.2.2.2.2.2.1
theorem dX6_shareOf_11 : decode cX6_shareOf 11 = .ok (.goto 4, 3) := dAX6_shareOf_0.2.2.2.2.2.2.2
set_option maxRecDepth 100000 in
theorem dAX6_shareOf_1 : decode cX6_shareOf 14 = .ok (.iconst 5, 1) ∧ decode cX6_shareOf 15 = .ok (.ireturn, 1) ∧ decode cX6_shareOf 16 = .ok (.iload_n 2, 1) ∧ decode cX6_shareOf 17 = .ok (.ifCond .eq 8, 3) ∧ decode cX6_shareOf 20 = .ok (.iload_n 0, 1) ∧ decode cX6_shareOf 21 = .ok (.ineg, 1) ∧ decode cX6_shareOf 22 = .ok (.goto 4, 3) ∧ decode cX6_shareOf 25 = .ok (.iconst 1, 1) := by decide +kernel
theorem dX6_shareOf_14 : decode cX6_shareOf 14 = .ok (.iconst 5, 1) := dAX6_shareOf_1.1
theorem dX6_shareOf_15 : decode cX6_shareOf 15 = .ok (.ireturn, 1) := dAX6_shareOf_1.2.1
theorem dX6_shareOf_16 : decode cX6_shareOf 16 = .ok (.iload_n 2, 1) := dAX6_shareOf_1.2.2.1
theorem dX6_shareOf_17 : decode cX6_shareOf 17 = .ok (.ifCond .eq 8, 3) := dAX6_shareOf_1.2.2.2.1
theorem dX6_shareOf_20 : decode cX6_shareOf 20 = .ok (.iload_n 0, 1) := dAX6_shareOf_1.2.2.2.2.1
theorem dX6_shareOf_21 : decode cX6_shareOf 21 = .ok (.ineg, 1) := dAX6_shareOf_1.2.2.2.2.2.1
theorem dX6_shareOf_22 : decode cX6_shareOf 22 = .ok (.goto 4, 3) := dAX6_shareOf_1.2.2.2.2.2.2.1
theorem dX6_shareOf_25 : decode cX6_shareOf 25 = .ok (.iconst 1, 1) := dAX6_shareOf_1.2.2.2.2.2.2.2
theorem dX6_shareOf_26 : decode cX6_shareOf 26 = .ok (.ireturn, 1) := by decide +kernel
set_option maxRecDepth 100000 in
theorem dAX6_shows_0 : decode cX6_shows 0 = .ok (.iload_n 2, 1) ∧ decode cX6_shows 1 = .ok (.ifCond .ne 38, 3) ∧ decode cX6_shows 4 = .ok (.aload_n 0, 1) ∧ decode cX6_shows 5 = .ok (.getfield 54, 3) ∧ decode cX6_shows 8 = .ok (.aload_n 0, 1) ∧ decode cX6_shows 9 = .ok (.getfield 19, 3) ∧ decode cX6_shows 12 = .ok (.aload_n 0, 1) ∧ decode cX6_shows 13 = .ok (.getfield 26, 3) := by decide +kernel
theorem dX6_shows_0 : decode cX6_shows 0 = .ok (.iload_n 2, 1) := dAX6_shows_0.1
theorem dX6_shows_1 : decode cX6_shows 1 = .ok (.ifCond .ne 38, 3) := dAX6_shows_0.2.1
theorem dX6_shows_4 : decode cX6_shows 4 = .ok (.aload_n 0, 1) := dAX6_shows_0.2.2.1
theorem dX6_shows_5 : decode cX6_shows 5 = .ok (.getfield 54, 3) := dAX6_shows_0.2.2.2.1
theorem dX6_shows_8 : decode cX6_shows 8 = .ok (.aload_n 0, 1) := dAX6_shows_0.2.2.2.2.1
theorem dX6_shows_9 : decode cX6_shows 9 = .ok (.getfield 19, 3) := dAX6_shows_0.2.2.2.2.2.1
theorem dX6_shows_12 : decode cX6_shows 12 = .ok (.aload_n 0, 1) := dAX6_shows_0.2.2.2.2.2.2.1
theorem dX6_shows_13 : decode cX6_shows 13 = .ok (.getfield 26, 3) := dAX6_shows_0.2.2.2.2.2.2.2
set_option maxRecDepth 100000 in
theorem dAX6_shows_1 : decode cX6_shows 16 = .ok (.iload_n 1, 1) ∧ decode cX6_shows 17 = .ok (.iconst 0, 1) ∧ decode cX6_shows 18 = .ok (.invokevirtual 232, 3) ∧ decode cX6_shows 21 = .ok (.iload_n 3, 1) ∧ decode cX6_shows 22 = .ok (.aload_n 0, 1) ∧ decode cX6_shows 23 = .ok (.getfield 19, 3) ∧ decode cX6_shows 26 = .ok (.getfield 159, 3) ∧ decode cX6_shows 29 = .ok (.imul, 1) := by decide +kernel
theorem dX6_shows_16 : decode cX6_shows 16 = .ok (.iload_n 1, 1) := dAX6_shows_1.1
theorem dX6_shows_17 : decode cX6_shows 17 = .ok (.iconst 0, 1) := dAX6_shows_1.2.1
theorem dX6_shows_18 : decode cX6_shows 18 = .ok (.invokevirtual 232, 3) := dAX6_shows_1.2.2.1
theorem dX6_shows_21 : decode cX6_shows 21 = .ok (.iload_n 3, 1) := dAX6_shows_1.2.2.2.1
theorem dX6_shows_22 : decode cX6_shows 22 = .ok (.aload_n 0, 1) := dAX6_shows_1.2.2.2.2.1
theorem dX6_shows_23 : decode cX6_shows 23 = .ok (.getfield 19, 3) := dAX6_shows_1.2.2.2.2.2.1
theorem dX6_shows_26 : decode cX6_shows 26 = .ok (.getfield 159, 3) := dAX6_shows_1.2.2.2.2.2.2.1
theorem dX6_shows_29 : decode cX6_shows 29 = .ok (.imul, 1) := dAX6_shows_1.2.2.2.2.2.2.2
set_option maxRecDepth 100000 in
theorem dAX6_shows_2 : decode cX6_shows 30 = .ok (.if_icmp .lt 7, 3) ∧ decode cX6_shows 33 = .ok (.iconst 1, 1) ∧ decode cX6_shows 34 = .ok (.goto 4, 3) ∧ decode cX6_shows 37 = .ok (.iconst 0, 1) ∧ decode cX6_shows 38 = .ok (.ireturn, 1) ∧ decode cX6_shows 39 = .ok (.aload_n 0, 1) ∧ decode cX6_shows 40 = .ok (.getfield 54, 3) ∧ decode cX6_shows 43 = .ok (.aload_n 0, 1) := by decide +kernel
theorem dX6_shows_30 : decode cX6_shows 30 = .ok (.if_icmp .lt 7, 3) := dAX6_shows_2.1
theorem dX6_shows_33 : decode cX6_shows 33 = .ok (.iconst 1, 1) := dAX6_shows_2.2.1
theorem dX6_shows_34 : decode cX6_shows 34 = .ok (.goto 4, 3) := dAX6_shows_2.2.2.1
theorem dX6_shows_37 : decode cX6_shows 37 = .ok (.iconst 0, 1) := dAX6_shows_2.2.2.2.1
theorem dX6_shows_38 : decode cX6_shows 38 = .ok (.ireturn, 1) := dAX6_shows_2.2.2.2.2.1
theorem dX6_shows_39 : decode cX6_shows 39 = .ok (.aload_n 0, 1) := dAX6_shows_2.2.2.2.2.2.1
theorem dX6_shows_40 : decode cX6_shows 40 = .ok (.getfield 54, 3) := dAX6_shows_2.2.2.2.2.2.2.1
theorem dX6_shows_43 : decode cX6_shows 43 = .ok (.aload_n 0, 1) := dAX6_shows_2.2.2.2.2.2.2.2
set_option maxRecDepth 100000 in
theorem dAX6_shows_3 : decode cX6_shows 44 = .ok (.getfield 19, 3) ∧ decode cX6_shows 47 = .ok (.aload_n 0, 1) ∧ decode cX6_shows 48 = .ok (.getfield 26, 3) ∧ decode cX6_shows 51 = .ok (.iload_n 1, 1) ∧ decode cX6_shows 52 = .ok (.bipush 99, 2) ∧ decode cX6_shows 54 = .ok (.invokevirtual 232, 3) ∧ decode cX6_shows 57 = .ok (.istore 4, 2) ∧ decode cX6_shows 59 = .ok (.iload_n 2, 1) := by decide +kernel
theorem dX6_shows_44 : decode cX6_shows 44 = .ok (.getfield 19, 3) := dAX6_shows_3.1
theorem dX6_shows_47 : decode cX6_shows 47 = .ok (.aload_n 0, 1) := dAX6_shows_3.2.1
theorem dX6_shows_48 : decode cX6_shows 48 = .ok (.getfield 26, 3) := dAX6_shows_3.2.2.1
theorem dX6_shows_51 : decode cX6_shows 51 = .ok (.iload_n 1, 1) := dAX6_shows_3.2.2.2.1
theorem dX6_shows_52 : decode cX6_shows 52 = .ok (.bipush 99, 2) := dAX6_shows_3.2.2.2.2.1
theorem dX6_shows_54 : decode cX6_shows 54 = .ok (.invokevirtual 232, 3) := dAX6_shows_3.2.2.2.2.2.1
theorem dX6_shows_57 : decode cX6_shows 57 = .ok (.istore 4, 2) := dAX6_shows_3.2.2.2.2.2.2.1
theorem dX6_shows_59 : decode cX6_shows 59 = .ok (.iload_n 2, 1) := dAX6_shows_3.2.2.2.2.2.2.2
set_option maxRecDepth 100000 in
theorem dAX6_shows_4 : decode cX6_shows 60 = .ok (.iconst 1, 1) ∧ decode cX6_shows 61 = .ok (.if_icmp .ne 23, 3) ∧ decode cX6_shows 64 = .ok (.iload 4, 2) ∧ decode cX6_shows 66 = .ok (.iload_n 3, 1) ∧ decode cX6_shows 67 = .ok (.aload_n 0, 1) ∧ decode cX6_shows 68 = .ok (.getfield 19, 3) ∧ decode cX6_shows 71 = .ok (.getfield 159, 3) ∧ decode cX6_shows 74 = .ok (.imul, 1) := by decide +kernel
theorem dX6_shows_60 : decode cX6_shows 60 = .ok (.iconst 1, 1) := dAX6_shows_4.1
theorem dX6_shows_61 : decode cX6_shows 61 = .ok (.if_icmp .ne 23, 3) := dAX6_shows_4.2.1
theorem dX6_shows_64 : decode cX6_shows 64 = .ok (.iload 4, 2) := dAX6_shows_4.2.2.1
theorem dX6_shows_66 : decode cX6_shows 66 = .ok (.iload_n 3, 1) := dAX6_shows_4.2.2.2.1
theorem dX6_shows_67 : decode cX6_shows 67 = .ok (.aload_n 0, 1) := dAX6_shows_4.2.2.2.2.1
theorem dX6_shows_68 : decode cX6_shows 68 = .ok (.getfield 19, 3) := dAX6_shows_4.2.2.2.2.2.1
theorem dX6_shows_71 : decode cX6_shows 71 = .ok (.getfield 159, 3) := dAX6_shows_4.2.2.2.2.2.2.1
theorem dX6_shows_74 : decode cX6_shows 74 = .ok (.imul, 1) := dAX6_shows_4.2.2.2.2.2.2.2
set_option maxRecDepth 100000 in
theorem dAX6_shows_5 : decode cX6_shows 75 = .ok (.if_icmp .ge 7, 3) ∧ decode cX6_shows 78 = .ok (.iconst 1, 1) ∧ decode cX6_shows 79 = .ok (.goto 4, 3) ∧ decode cX6_shows 82 = .ok (.iconst 0, 1) ∧ decode cX6_shows 83 = .ok (.ireturn, 1) ∧ decode cX6_shows 84 = .ok (.iload 4, 2) ∧ decode cX6_shows 86 = .ok (.aload_n 0, 1) ∧ decode cX6_shows 87 = .ok (.getfield 54, 3) := by decide +kernel
theorem dX6_shows_75 : decode cX6_shows 75 = .ok (.if_icmp .ge 7, 3) := dAX6_shows_5.1
theorem dX6_shows_78 : decode cX6_shows 78 = .ok (.iconst 1, 1) := dAX6_shows_5.2.1
theorem dX6_shows_79 : decode cX6_shows 79 = .ok (.goto 4, 3) := dAX6_shows_5.2.2.1
theorem dX6_shows_82 : decode cX6_shows 82 = .ok (.iconst 0, 1) := dAX6_shows_5.2.2.2.1
theorem dX6_shows_83 : decode cX6_shows 83 = .ok (.ireturn, 1) := dAX6_shows_5.2.2.2.2.1
theorem dX6_shows_84 : decode cX6_shows 84 = .ok (.iload 4, 2) := dAX6_shows_5.2.2.2.2.2.1
theorem dX6_shows_86 : decode cX6_shows 86 = .ok (.aload_n 0, 1) := dAX6_shows_5.2.2.2.2.2.2.1
theorem dX6_shows_87 : decode cX6_shows 87 = .ok (.getfield 54, 3) := dAX6_shows_5.2.2.2.2.2.2.2
set_option maxRecDepth 100000 in
theorem dAX6_shows_6 : decode cX6_shows 90 = .ok (.aload_n 0, 1) ∧ decode cX6_shows 91 = .ok (.getfield 19, 3) ∧ decode cX6_shows 94 = .ok (.aload_n 0, 1) ∧ decode cX6_shows 95 = .ok (.getfield 26, 3) ∧ decode cX6_shows 98 = .ok (.iload_n 1, 1) ∧ decode cX6_shows 99 = .ok (.iconst 0, 1) ∧ decode cX6_shows 100 = .ok (.invokevirtual 232, 3) ∧ decode cX6_shows 103 = .ok (.if_icmp .ne 7, 3) := by decide +kernel
theorem dX6_shows_90 : decode cX6_shows 90 = .ok (.aload_n 0, 1) := dAX6_shows_6.1
theorem dX6_shows_91 : decode cX6_shows 91 = .ok (.getfield 19, 3) := dAX6_shows_6.2.1
theorem dX6_shows_94 : decode cX6_shows 94 = .ok (.aload_n 0, 1) := dAX6_shows_6.2.2.1
theorem dX6_shows_95 : decode cX6_shows 95 = .ok (.getfield 26, 3) := dAX6_shows_6.2.2.2.1
theorem dX6_shows_98 : decode cX6_shows 98 = .ok (.iload_n 1, 1) := dAX6_shows_6.2.2.2.2.1
theorem dX6_shows_99 : decode cX6_shows 99 = .ok (.iconst 0, 1) := dAX6_shows_6.2.2.2.2.2.1
theorem dX6_shows_100 : decode cX6_shows 100 = .ok (.invokevirtual 232, 3) := dAX6_shows_6.2.2.2.2.2.2.1
theorem dX6_shows_103 : decode cX6_shows 103 = .ok (.if_icmp .ne 7, 3) := dAX6_shows_6.2.2.2.2.2.2.2
set_option maxRecDepth 100000 in
theorem dAX6_shows_7 : decode cX6_shows 106 = .ok (.iconst 1, 1) ∧ decode cX6_shows 107 = .ok (.goto 4, 3) ∧ decode cX6_shows 110 = .ok (.iconst 0, 1) ∧ decode cX6_shows 111 = .ok (.ireturn, 1) := by decide +kernel
theorem dX6_shows_106 : decode cX6_shows 106 = .ok (.iconst 1, 1) := dAX6_shows_7.1
theorem dX6_shows_107 : decode cX6_shows 107 = .ok (.goto 4, 3) := dAX6_shows_7.2.1
theorem dX6_shows_110 : decode cX6_shows 110 = .ok (.iconst 0, 1) := dAX6_shows_7.2.2.1
theorem dX6_shows_111 : decode cX6_shows 111 = .ok (.ireturn, 1) := dAX6_shows_7.2.2.2
set_option maxRecDepth 100000 in
theorem dAX6_size_0 : decode cX6_size 0 = .ok (.iload_n 1, 1) ∧ decode cX6_size 1 = .ok (.tableswitch 116 0 7 #[47, 55, 63, 71, 79, 95, 103, 108], 47) ∧ decode cX6_size 48 = .ok (.aload_n 0, 1) ∧ decode cX6_size 49 = .ok (.getfield 19, 3) ∧ decode cX6_size 52 = .ok (.getfield 367, 3) ∧ decode cX6_size 55 = .ok (.ireturn, 1) ∧ decode cX6_size 56 = .ok (.aload_n 0, 1) ∧ decode cX6_size 57 = .ok (.getfield 19, 3) := by decide +kernel
theorem dX6_size_0 : decode cX6_size 0 = .ok (.iload_n 1, 1) := dAX6_size_0.1
theorem dX6_size_1 : decode cX6_size 1 = .ok (.tableswitch 116 0 7 #[47, 55, 63, 71, 79, 95, 103, 108], 47) := dAX6_size_0.2.1
theorem dX6_size_48 : decode cX6_size 48 = .ok (.aload_n 0, 1) := dAX6_size_0.2.2.1
theorem dX6_size_49 : decode cX6_size 49 = .ok (.getfield 19, 3) := dAX6_size_0.2.2.2.1
theorem dX6_size_52 : decode cX6_size 52 = .ok (.getfield 367, 3) := dAX6_size_0.2.2.2.2.1
theorem dX6_size_55 : decode cX6_size 55 = .ok (.ireturn, 1) := dAX6_size_0.2.2.2.2.2.1
theorem dX6_size_56 : decode cX6_size 56 = .ok (.aload_n 0, 1) := dAX6_size_0.2.2.2.2.2.2.1
theorem dX6_size_57 : decode cX6_size 57 = .ok (.getfield 19, 3) := dAX6_size_0.2.2.2.2.2.2.2
set_option maxRecDepth 100000 in
theorem dAX6_size_1 : decode cX6_size 60 = .ok (.getfield 103, 3) ∧ decode cX6_size 63 = .ok (.ireturn, 1) ∧ decode cX6_size 64 = .ok (.aload_n 0, 1) ∧ decode cX6_size 65 = .ok (.getfield 19, 3) ∧ decode cX6_size 68 = .ok (.getfield 370, 3) ∧ decode cX6_size 71 = .ok (.ireturn, 1) ∧ decode cX6_size 72 = .ok (.aload_n 0, 1) ∧ decode cX6_size 73 = .ok (.getfield 19, 3) := by decide +kernel
theorem dX6_size_60 : decode cX6_size 60 = .ok (.getfield 103, 3) := dAX6_size_1.1
theorem dX6_size_63 : decode cX6_size 63 = .ok (.ireturn, 1) := dAX6_size_1.2.1
theorem dX6_size_64 : decode cX6_size 64 = .ok (.aload_n 0, 1) := dAX6_size_1.2.2.1
theorem dX6_size_65 : decode cX6_size 65 = .ok (.getfield 19, 3) := dAX6_size_1.2.2.2.1
theorem dX6_size_68 : decode cX6_size 68 = .ok (.getfield 370, 3) := dAX6_size_1.2.2.2.2.1
theorem dX6_size_71 : decode cX6_size 71 = .ok (.ireturn, 1) := dAX6_size_1.2.2.2.2.2.1
theorem dX6_size_72 : decode cX6_size 72 = .ok (.aload_n 0, 1) := dAX6_size_1.2.2.2.2.2.2.1
theorem dX6_size_73 : decode cX6_size 73 = .ok (.getfield 19, 3) := dAX6_size_1.2.2.2.2.2.2.2
set_option maxRecDepth 100000 in
theorem dAX6_size_2 : decode cX6_size 76 = .ok (.getfield 315, 3) ∧ decode cX6_size 79 = .ok (.ireturn, 1) ∧ decode cX6_size 80 = .ok (.aload_n 0, 1) ∧ decode cX6_size 81 = .ok (.getfield 19, 3) ∧ decode cX6_size 84 = .ok (.getfield 309, 3) ∧ decode cX6_size 87 = .ok (.ifCond .lt 7, 3) ∧ decode cX6_size 90 = .ok (.iconst 1, 1) ∧ decode cX6_size 91 = .ok (.goto 4, 3) := by decide +kernel
theorem dX6_size_76 : decode cX6_size 76 = .ok (.getfield 315, 3) := dAX6_size_2.1
theorem dX6_size_79 : decode cX6_size 79 = .ok (.ireturn, 1) := dAX6_size_2.2.1
theorem dX6_size_80 : decode cX6_size 80 = .ok (.aload_n 0, 1) := dAX6_size_2.2.2.1
theorem dX6_size_81 : decode cX6_size 81 = .ok (.getfield 19, 3) := dAX6_size_2.2.2.2.1
theorem dX6_size_84 : decode cX6_size 84 = .ok (.getfield 309, 3) := dAX6_size_2.2.2.2.2.1
theorem dX6_size_87 : decode cX6_size 87 = .ok (.ifCond .lt 7, 3) := dAX6_size_2.2.2.2.2.2.1
theorem dX6_size_90 : decode cX6_size 90 = .ok (.iconst 1, 1) := dAX6_size_2.2.2.2.2.2.2.1
theorem dX6_size_91 : decode cX6_size 91 = .ok (.goto 4, 3) := dAX6_size_2.2.2.2.2.2.2.2
set_option maxRecDepth 100000 in
theorem dAX6_size_3 : decode cX6_size 94 = .ok (.iconst 0, 1) ∧ decode cX6_size 95 = .ok (.ireturn, 1) ∧ decode cX6_size 96 = .ok (.aload_n 0, 1) ∧ decode cX6_size 97 = .ok (.getfield 40, 3) ∧ decode cX6_size 100 = .ok (.getfield 350, 3) ∧ decode cX6_size 103 = .ok (.ireturn, 1) ∧ decode cX6_size 104 = .ok (.aload_n 0, 1) ∧ decode cX6_size 105 = .ok (.getfield 97, 3) := by decide +kernel
theorem dX6_size_94 : decode cX6_size 94 = .ok (.iconst 0, 1) := dAX6_size_3.1
theorem dX6_size_95 : decode cX6_size 95 = .ok (.ireturn, 1) := dAX6_size_3.2.1
theorem dX6_size_96 : decode cX6_size 96 = .ok (.aload_n 0, 1) := dAX6_size_3.2.2.1
theorem dX6_size_97 : decode cX6_size 97 = .ok (.getfield 40, 3) := dAX6_size_3.2.2.2.1
theorem dX6_size_100 : decode cX6_size 100 = .ok (.getfield 350, 3) := dAX6_size_3.2.2.2.2.1
theorem dX6_size_103 : decode cX6_size 103 = .ok (.ireturn, 1) := dAX6_size_3.2.2.2.2.2.1
theorem dX6_size_104 : decode cX6_size 104 = .ok (.aload_n 0, 1) := dAX6_size_3.2.2.2.2.2.2.1
theorem dX6_size_105 : decode cX6_size 105 = .ok (.getfield 97, 3) := dAX6_size_3.2.2.2.2.2.2.2
set_option maxRecDepth 100000 in
theorem dAX6_size_4 : decode cX6_size 108 = .ok (.ireturn, 1) ∧ decode cX6_size 109 = .ok (.aload_n 0, 1) ∧ decode cX6_size 110 = .ok (.getfield 10, 3) ∧ decode cX6_size 113 = .ok (.getfield 58, 3) ∧ decode cX6_size 116 = .ok (.ireturn, 1) ∧ decode cX6_size 117 = .ok (.iconst (-1), 1) ∧ decode cX6_size 118 = .ok (.ireturn, 1) := by decide +kernel
theorem dX6_size_108 : decode cX6_size 108 = .ok (.ireturn, 1) := dAX6_size_4.1
theorem dX6_size_109 : decode cX6_size 109 = .ok (.aload_n 0, 1) := dAX6_size_4.2.1
theorem dX6_size_110 : decode cX6_size 110 = .ok (.getfield 10, 3) := dAX6_size_4.2.2.1
theorem dX6_size_113 : decode cX6_size 113 = .ok (.getfield 58, 3) := dAX6_size_4.2.2.2.1
theorem dX6_size_116 : decode cX6_size 116 = .ok (.ireturn, 1) := dAX6_size_4.2.2.2.2.1
theorem dX6_size_117 : decode cX6_size 117 = .ok (.iconst (-1), 1) := dAX6_size_4.2.2.2.2.2.1
theorem dX6_size_118 : decode cX6_size 118 = .ok (.ireturn, 1) := dAX6_size_4.2.2.2.2.2.2
set_option maxRecDepth 100000 in
theorem dAX6_speaks_0 : decode cX6_speaks 0 = .ok (.aload_n 0, 1) ∧ decode cX6_speaks 1 = .ok (.iload_n 1, 1) ∧ decode cX6_speaks 2 = .ok (.iconst 0, 1) ∧ decode cX6_speaks 3 = .ok (.bipush 9, 2) ∧ decode cX6_speaks 5 = .ok (.invokevirtual 203, 3) ∧ decode cX6_speaks 8 = .ok (.ifCond .eq 6, 3) ∧ decode cX6_speaks 11 = .ok (.bipush (-100), 2) ∧ decode cX6_speaks 13 = .ok (.ireturn, 1) := by decide +kernel
theorem dX6_speaks_0 : decode cX6_speaks 0 = .ok (.aload_n 0, 1) := dAX6_speaks_0.1
theorem dX6_speaks_1 : decode cX6_speaks 1 = .ok (.iload_n 1, 1) := dAX6_speaks_0.2.1
theorem dX6_speaks_2 : decode cX6_speaks 2 = .ok (.iconst 0, 1) := dAX6_speaks_0.2.2.1
theorem dX6_speaks_3 : decode cX6_speaks 3 = .ok (.bipush 9, 2) := dAX6_speaks_0.2.2.2.1
theorem dX6_speaks_5 : decode cX6_speaks 5 = .ok (.invokevirtual 203, 3) := dAX6_speaks_0.2.2.2.2.1
theorem dX6_speaks_8 : decode cX6_speaks 8 = .ok (.ifCond .eq 6, 3) := dAX6_speaks_0.2.2.2.2.2.1
theorem dX6_speaks_11 : decode cX6_speaks 11 = .ok (.bipush (-100), 2) := dAX6_speaks_0.2.2.2.2.2.2.1
theorem dX6_speaks_13 : decode cX6_speaks 13 = .ok (.ireturn, 1) := dAX6_speaks_0.2.2.2.2.2.2.2
set_option maxRecDepth 100000 in
theorem dAX6_speaks_1 : decode cX6_speaks 14 = .ok (.iload 4, 2) ∧ decode cX6_speaks 16 = .ok (.ifCond .eq 12, 3) ∧ decode cX6_speaks 19 = .ok (.iload_n 1, 1) ∧ decode cX6_speaks 20 = .ok (.iload_n 3, 1) ∧ decode cX6_speaks 21 = .ok (.iload_n 2, 1) ∧ decode cX6_speaks 22 = .ok (.invokestatic 326, 3) ∧ decode cX6_speaks 25 = .ok (.goto 9, 3) ∧ decode cX6_speaks 28 = .ok (.iload_n 1, 1) := by decide +kernel
theorem dX6_speaks_14 : decode cX6_speaks 14 = .ok (.iload 4, 2) := dAX6_speaks_1.1
theorem dX6_speaks_16 : decode cX6_speaks 16 = .ok (.ifCond .eq 12, 3) := dAX6_speaks_1.2.1
theorem dX6_speaks_19 : decode cX6_speaks 19 = .ok (.iload_n 1, 1) := dAX6_speaks_1.2.2.1
theorem dX6_speaks_20 : decode cX6_speaks 20 = .ok (.iload_n 3, 1) := dAX6_speaks_1.2.2.2.1
theorem dX6_speaks_21 : decode cX6_speaks 21 = .ok (.iload_n 2, 1) := dAX6_speaks_1.2.2.2.2.1
theorem dX6_speaks_22 : decode cX6_speaks 22 = .ok (.invokestatic 326, 3) := dAX6_speaks_1.2.2.2.2.2.1
theorem dX6_speaks_25 : decode cX6_speaks 25 = .ok (.goto 9, 3) := dAX6_speaks_1.2.2.2.2.2.2.1
theorem dX6_speaks_28 : decode cX6_speaks 28 = .ok (.iload_n 1, 1) := dAX6_speaks_1.2.2.2.2.2.2.2
set_option maxRecDepth 100000 in
theorem dAX6_speaks_2 : decode cX6_speaks 29 = .ok (.iload_n 2, 1) ∧ decode cX6_speaks 30 = .ok (.iload_n 3, 1) ∧ decode cX6_speaks 31 = .ok (.invokestatic 326, 3) ∧ decode cX6_speaks 34 = .ok (.ireturn, 1) := by decide +kernel
theorem dX6_speaks_29 : decode cX6_speaks 29 = .ok (.iload_n 2, 1) := dAX6_speaks_2.1
theorem dX6_speaks_30 : decode cX6_speaks 30 = .ok (.iload_n 3, 1) := dAX6_speaks_2.2.1
theorem dX6_speaks_31 : decode cX6_speaks 31 = .ok (.invokestatic 326, 3) := dAX6_speaks_2.2.2.1
theorem dX6_speaks_34 : decode cX6_speaks 34 = .ok (.ireturn, 1) := dAX6_speaks_2.2.2.2
set_option maxRecDepth 100000 in
theorem dAX6_sure_0 : decode cX6_sure 0 = .ok (.aload_n 0, 1) ∧ decode cX6_sure 1 = .ok (.invokevirtual 140, 3) ∧ decode cX6_sure 4 = .ok (.ifCond .eq 7, 3) ∧ decode cX6_sure 7 = .ok (.iconst (-1), 1) ∧ decode cX6_sure 8 = .ok (.goto 9, 3) ∧ decode cX6_sure 11 = .ok (.aload_n 0, 1) ∧ decode cX6_sure 12 = .ok (.iconst 2, 1) ∧ decode cX6_sure 13 = .ok (.iconst 0, 1) := by decide +kernel
theorem dX6_sure_0 : decode cX6_sure 0 = .ok (.aload_n 0, 1) := dAX6_sure_0.1
theorem dX6_sure_1 : decode cX6_sure 1 = .ok (.invokevirtual 140, 3) := dAX6_sure_0.2.1
theorem dX6_sure_4 : decode cX6_sure 4 = .ok (.ifCond .eq 7, 3) := dAX6_sure_0.2.2.1
theorem dX6_sure_7 : decode cX6_sure 7 = .ok (.iconst (-1), 1) := dAX6_sure_0.2.2.2.1
theorem dX6_sure_8 : decode cX6_sure 8 = .ok (.goto 9, 3) := dAX6_sure_0.2.2.2.2.1
theorem dX6_sure_11 : decode cX6_sure 11 = .ok (.aload_n 0, 1) := dAX6_sure_0.2.2.2.2.2.1
theorem dX6_sure_12 : decode cX6_sure 12 = .ok (.iconst 2, 1) := dAX6_sure_0.2.2.2.2.2.2.1
theorem dX6_sure_13 : decode cX6_sure 13 = .ok (.iconst 0, 1) := dAX6_sure_0.2.2.2.2.2.2.2
set_option maxRecDepth 100000 in
theorem dAX6_sure_1 : decode cX6_sure 14 = .ok (.invokevirtual 221, 3) ∧ decode cX6_sure 17 = .ok (.ireturn, 1) := by decide +kernel
theorem dX6_sure_14 : decode cX6_sure 14 = .ok (.invokevirtual 221, 3) := dAX6_sure_1.1
theorem dX6_sure_17 : decode cX6_sure 17 = .ok (.ireturn, 1) := dAX6_sure_1.2
set_option maxRecDepth 100000 in
theorem dAX6_surely_0 : decode cX6_surely 0 = .ok (.aload_n 0, 1) ∧ decode cX6_surely 1 = .ok (.invokevirtual 140, 3) ∧ decode cX6_surely 4 = .ok (.ifCond .eq 5, 3) ∧ decode cX6_surely 7 = .ok (.iconst (-1), 1) ∧ decode cX6_surely 8 = .ok (.ireturn, 1) ∧ decode cX6_surely 9 = .ok (.aload_n 0, 1) ∧ decode cX6_surely 10 = .ok (.invokevirtual 287, 3) ∧ decode cX6_surely 13 = .ok (.istore_n 1, 1) := by decide +kernel
theorem dX6_surely_0 : decode cX6_surely 0 = .ok (.aload_n 0, 1) := dAX6_surely_0.1
theorem dX6_surely_1 : decode cX6_surely 1 = .ok (.invokevirtual 140, 3) := dAX6_surely_0.2.1
theorem dX6_surely_4 : decode cX6_surely 4 = .ok (.ifCond .eq 5, 3) := dAX6_surely_0.2.2.1
theorem dX6_surely_7 : decode cX6_surely 7 = .ok (.iconst (-1), 1) := dAX6_surely_0.2.2.2.1
theorem dX6_surely_8 : decode cX6_surely 8 = .ok (.ireturn, 1) := dAX6_surely_0.2.2.2.2.1
theorem dX6_surely_9 : decode cX6_surely 9 = .ok (.aload_n 0, 1) := dAX6_surely_0.2.2.2.2.2.1
theorem dX6_surely_10 : decode cX6_surely 10 = .ok (.invokevirtual 287, 3) := dAX6_surely_0.2.2.2.2.2.2.1
theorem dX6_surely_13 : decode cX6_surely 13 = .ok (.istore_n 1, 1) := dAX6_surely_0.2.2.2.2.2.2.2
set_option maxRecDepth 100000 in
theorem dAX6_surely_1 : decode cX6_surely 14 = .ok (.iload_n 1, 1) ∧ decode cX6_surely 15 = .ok (.ifCond .ne 7, 3) ∧ decode cX6_surely 18 = .ok (.iconst 0, 1) ∧ decode cX6_surely 19 = .ok (.goto 12, 3) ∧ decode cX6_surely 22 = .ok (.aload_n 0, 1) ∧ decode cX6_surely 23 = .ok (.getfield 19, 3) ∧ decode cX6_surely 26 = .ok (.invokevirtual 290, 3) ∧ decode cX6_surely 29 = .ok (.iconst 1, 1) := by decide +kernel
theorem dX6_surely_14 : decode cX6_surely 14 = .ok (.iload_n 1, 1) := dAX6_surely_1.1
theorem dX6_surely_15 : decode cX6_surely 15 = .ok (.ifCond .ne 7, 3) := dAX6_surely_1.2.1
theorem dX6_surely_18 : decode cX6_surely 18 = .ok (.iconst 0, 1) := dAX6_surely_1.2.2.1
theorem dX6_surely_19 : decode cX6_surely 19 = .ok (.goto 12, 3) := dAX6_surely_1.2.2.2.1
theorem dX6_surely_22 : decode cX6_surely 22 = .ok (.aload_n 0, 1) := dAX6_surely_1.2.2.2.2.1
theorem dX6_surely_23 : decode cX6_surely 23 = .ok (.getfield 19, 3) := dAX6_surely_1.2.2.2.2.2.1
theorem dX6_surely_26 : decode cX6_surely 26 = .ok (.invokevirtual 290, 3) := dAX6_surely_1.2.2.2.2.2.2.1
theorem dX6_surely_29 : decode cX6_surely 29 = .ok (.iconst 1, 1) := dAX6_surely_1.2.2.2.2.2.2.2
set_option maxRecDepth 100000 in
theorem dAX6_surely_2 : decode cX6_surely 30 = .ok (.isub, 1) ∧ decode cX6_surely 31 = .ok (.istore_n 2, 1) ∧ decode cX6_surely 32 = .ok (.iconst 0, 1) ∧ decode cX6_surely 33 = .ok (.istore_n 3, 1) ∧ decode cX6_surely 34 = .ok (.iload_n 3, 1) ∧ decode cX6_surely 35 = .ok (.aload_n 0, 1) ∧ decode cX6_surely 36 = .ok (.getfield 19, 3) ∧ decode cX6_surely 39 = .ok (.invokevirtual 290, 3) := by decide +kernel
theorem dX6_surely_30 : decode cX6_surely 30 = .ok (.isub, 1) := dAX6_surely_2.1
theorem dX6_surely_31 : decode cX6_surely 31 = .ok (.istore_n 2, 1) := dAX6_surely_2.2.1
theorem dX6_surely_32 : decode cX6_surely 32 = .ok (.iconst 0, 1) := dAX6_surely_2.2.2.1
theorem dX6_surely_33 : decode cX6_surely 33 = .ok (.istore_n 3, 1) := dAX6_surely_2.2.2.2.1
theorem dX6_surely_34 : decode cX6_surely 34 = .ok (.iload_n 3, 1) := dAX6_surely_2.2.2.2.2.1
theorem dX6_surely_35 : decode cX6_surely 35 = .ok (.aload_n 0, 1) := dAX6_surely_2.2.2.2.2.2.1
theorem dX6_surely_36 : decode cX6_surely 36 = .ok (.getfield 19, 3) := dAX6_surely_2.2.2.2.2.2.2.1
theorem dX6_surely_39 : decode cX6_surely 39 = .ok (.invokevirtual 290, 3) := dAX6_surely_2.2.2.2.2.2.2.2
set_option maxRecDepth 100000 in
theorem dAX6_surely_3 : decode cX6_surely 42 = .ok (.if_icmp .ge 22, 3) ∧ decode cX6_surely 45 = .ok (.iload_n 1, 1) ∧ decode cX6_surely 46 = .ok (.iload_n 3, 1) ∧ decode cX6_surely 47 = .ok (.ishr, 1) ∧ decode cX6_surely 48 = .ok (.iconst 1, 1) ∧ decode cX6_surely 49 = .ok (.iand, 1) ∧ decode cX6_surely 50 = .ok (.iconst 1, 1) ∧ decode cX6_surely 51 = .ok (.if_icmp .ne 7, 3) := by decide +kernel
theorem dX6_surely_42 : decode cX6_surely 42 = .ok (.if_icmp .ge 22, 3) := dAX6_surely_3.1
theorem dX6_surely_45 : decode cX6_surely 45 = .ok (.iload_n 1, 1) := dAX6_surely_3.2.1
theorem dX6_surely_46 : decode cX6_surely 46 = .ok (.iload_n 3, 1) := dAX6_surely_3.2.2.1
theorem dX6_surely_47 : decode cX6_surely 47 = .ok (.ishr, 1) := dAX6_surely_3.2.2.2.1
theorem dX6_surely_48 : decode cX6_surely 48 = .ok (.iconst 1, 1) := dAX6_surely_3.2.2.2.2.1
theorem dX6_surely_49 : decode cX6_surely 49 = .ok (.iand, 1) := dAX6_surely_3.2.2.2.2.2.1
theorem dX6_surely_50 : decode cX6_surely 50 = .ok (.iconst 1, 1) := dAX6_surely_3.2.2.2.2.2.2.1
theorem dX6_surely_51 : decode cX6_surely 51 = .ok (.if_icmp .ne 7, 3) := dAX6_surely_3.2.2.2.2.2.2.2
set_option maxRecDepth 100000 in
theorem dAX6_surely_4 : decode cX6_surely 54 = .ok (.iload_n 2, 1) ∧ decode cX6_surely 55 = .ok (.iload_n 3, 1) ∧ decode cX6_surely 56 = .ok (.iand, 1) ∧ decode cX6_surely 57 = .ok (.istore_n 2, 1) ∧ decode cX6_surely 58 = .ok (.iinc 3 1, 3) ∧ decode cX6_surely 61 = .ok (.goto (-27), 3) ∧ decode cX6_surely 64 = .ok (.iload_n 2, 1) ∧ decode cX6_surely 65 = .ok (.ireturn, 1) := by decide +kernel
theorem dX6_surely_54 : decode cX6_surely 54 = .ok (.iload_n 2, 1) := dAX6_surely_4.1
theorem dX6_surely_55 : decode cX6_surely 55 = .ok (.iload_n 3, 1) := dAX6_surely_4.2.1
theorem dX6_surely_56 : decode cX6_surely 56 = .ok (.iand, 1) := dAX6_surely_4.2.2.1
theorem dX6_surely_57 : decode cX6_surely 57 = .ok (.istore_n 2, 1) := dAX6_surely_4.2.2.2.1
theorem dX6_surely_58 : decode cX6_surely 58 = .ok (.iinc 3 1, 3) := dAX6_surely_4.2.2.2.2.1
theorem dX6_surely_61 : decode cX6_surely 61 = .ok (.goto (-27), 3) := dAX6_surely_4.2.2.2.2.2.1
theorem dX6_surely_64 : decode cX6_surely 64 = .ok (.iload_n 2, 1) := dAX6_surely_4.2.2.2.2.2.2.1
theorem dX6_surely_65 : decode cX6_surely 65 = .ok (.ireturn, 1) := dAX6_surely_4.2.2.2.2.2.2.2
set_option maxRecDepth 100000 in
theorem dAX6_throne_0 : decode cX6_throne 0 = .ok (.aload_n 0, 1) ∧ decode cX6_throne 1 = .ok (.invokevirtual 140, 3) ∧ decode cX6_throne 4 = .ok (.ifCond .eq 7, 3) ∧ decode cX6_throne 7 = .ok (.iconst (-1), 1) ∧ decode cX6_throne 8 = .ok (.goto 10, 3) ∧ decode cX6_throne 11 = .ok (.aload_n 0, 1) ∧ decode cX6_throne 12 = .ok (.getfield 19, 3) ∧ decode cX6_throne 15 = .ok (.getfield 144, 3) := by decide +kernel
theorem dX6_throne_0 : decode cX6_throne 0 = .ok (.aload_n 0, 1) := dAX6_throne_0.1
theorem dX6_throne_1 : decode cX6_throne 1 = .ok (.invokevirtual 140, 3) := dAX6_throne_0.2.1
theorem dX6_throne_4 : decode cX6_throne 4 = .ok (.ifCond .eq 7, 3) := dAX6_throne_0.2.2.1
theorem dX6_throne_7 : decode cX6_throne 7 = .ok (.iconst (-1), 1) := dAX6_throne_0.2.2.2.1
theorem dX6_throne_8 : decode cX6_throne 8 = .ok (.goto 10, 3) := dAX6_throne_0.2.2.2.2.1
theorem dX6_throne_11 : decode cX6_throne 11 = .ok (.aload_n 0, 1) := dAX6_throne_0.2.2.2.2.2.1
theorem dX6_throne_12 : decode cX6_throne 12 = .ok (.getfield 19, 3) := dAX6_throne_0.2.2.2.2.2.2.1
theorem dX6_throne_15 : decode cX6_throne 15 = .ok (.getfield 144, 3) := dAX6_throne_0.2.2.2.2.2.2.2
theorem dX6_throne_18 : decode cX6_throne 18 = .ok (.ireturn, 1) := by decide +kernel
set_option maxRecDepth 100000 in
theorem dAX6_trouble_0 : decode cX6_trouble 0 = .ok (.aload_n 0, 1) ∧ decode cX6_trouble 1 = .ok (.getfield 100, 3) ∧ decode cX6_trouble 4 = .ok (.ireturn, 1) := by decide +kernel
theorem dX6_trouble_0 : decode cX6_trouble 0 = .ok (.aload_n 0, 1) := dAX6_trouble_0.1
theorem dX6_trouble_1 : decode cX6_trouble 1 = .ok (.getfield 100, 3) := dAX6_trouble_0.2.1
theorem dX6_trouble_4 : decode cX6_trouble 4 = .ok (.ireturn, 1) := dAX6_trouble_0.2.2
set_option maxRecDepth 100000 in
theorem dAX6_turn_0 : decode cX6_turn 0 = .ok (.aload_n 0, 1) ∧ decode cX6_turn 1 = .ok (.iload_n 1, 1) ∧ decode cX6_turn 2 = .ok (.invokevirtual 271, 3) ∧ decode cX6_turn 5 = .ok (.ifCond .eq 5, 3) ∧ decode cX6_turn 8 = .ok (.iconst (-1), 1) ∧ decode cX6_turn 9 = .ok (.ireturn, 1) ∧ decode cX6_turn 10 = .ok (.aload_n 0, 1) ∧ decode cX6_turn 11 = .ok (.iload_n 1, 1) := by decide +kernel
theorem dX6_turn_0 : decode cX6_turn 0 = .ok (.aload_n 0, 1) := dAX6_turn_0.1
theorem dX6_turn_1 : decode cX6_turn 1 = .ok (.iload_n 1, 1) := dAX6_turn_0.2.1
theorem dX6_turn_2 : decode cX6_turn 2 = .ok (.invokevirtual 271, 3) := dAX6_turn_0.2.2.1
theorem dX6_turn_5 : decode cX6_turn 5 = .ok (.ifCond .eq 5, 3) := dAX6_turn_0.2.2.2.1
theorem dX6_turn_8 : decode cX6_turn 8 = .ok (.iconst (-1), 1) := dAX6_turn_0.2.2.2.2.1
theorem dX6_turn_9 : decode cX6_turn 9 = .ok (.ireturn, 1) := dAX6_turn_0.2.2.2.2.2.1
theorem dX6_turn_10 : decode cX6_turn 10 = .ok (.aload_n 0, 1) := dAX6_turn_0.2.2.2.2.2.2.1
theorem dX6_turn_11 : decode cX6_turn 11 = .ok (.iload_n 1, 1) := dAX6_turn_0.2.2.2.2.2.2.2
set_option maxRecDepth 100000 in
theorem dAX6_turn_1 : decode cX6_turn 12 = .ok (.invokevirtual 274, 3) ∧ decode cX6_turn 15 = .ok (.ireturn, 1) := by decide +kernel
theorem dX6_turn_12 : decode cX6_turn 12 = .ok (.invokevirtual 274, 3) := dAX6_turn_1.1
theorem dX6_turn_15 : decode cX6_turn 15 = .ok (.ireturn, 1) := dAX6_turn_1.2
set_option maxRecDepth 100000 in
theorem dAX6_undo_0 : decode cX6_undo 0 = .ok (.aload_n 0, 1) ∧ decode cX6_undo 1 = .ok (.aload_n 0, 1) ∧ decode cX6_undo 2 = .ok (.getfield 40, 3) ∧ decode cX6_undo 5 = .ok (.getfield 350, 3) ∧ decode cX6_undo 8 = .ok (.ifCond .le 7, 3) ∧ decode cX6_undo 11 = .ok (.iconst 0, 1) ∧ decode cX6_undo 12 = .ok (.goto 5, 3) ∧ decode cX6_undo 15 = .ok (.bipush 6, 2) := by decide +kernel
theorem dX6_undo_0 : decode cX6_undo 0 = .ok (.aload_n 0, 1) := dAX6_undo_0.1
theorem dX6_undo_1 : decode cX6_undo 1 = .ok (.aload_n 0, 1) := dAX6_undo_0.2.1
theorem dX6_undo_2 : decode cX6_undo 2 = .ok (.getfield 40, 3) := dAX6_undo_0.2.2.1
theorem dX6_undo_5 : decode cX6_undo 5 = .ok (.getfield 350, 3) := dAX6_undo_0.2.2.2.1
theorem dX6_undo_8 : decode cX6_undo 8 = .ok (.ifCond .le 7, 3) := dAX6_undo_0.2.2.2.2.1
theorem dX6_undo_11 : decode cX6_undo 11 = .ok (.iconst 0, 1) := dAX6_undo_0.2.2.2.2.2.1
theorem dX6_undo_12 : decode cX6_undo 12 = .ok (.goto 5, 3) := dAX6_undo_0.2.2.2.2.2.2.1
theorem dX6_undo_15 : decode cX6_undo 15 = .ok (.bipush 6, 2) := dAX6_undo_0.2.2.2.2.2.2.2
set_option maxRecDepth 100000 in
theorem dAX6_undo_1 : decode cX6_undo 17 = .ok (.putfield 100, 3) ∧ decode cX6_undo 20 = .ok (.aload_n 0, 1) ∧ decode cX6_undo 21 = .ok (.getfield 100, 3) ∧ decode cX6_undo 24 = .ok (.ifCond .ne 21, 3) ∧ decode cX6_undo 27 = .ok (.aload_n 0, 1) ∧ decode cX6_undo 28 = .ok (.getfield 40, 3) ∧ decode cX6_undo 31 = .ok (.aload_n 0, 1) ∧ decode cX6_undo 32 = .ok (.getfield 26, 3) := by decide +kernel
theorem dX6_undo_17 : decode cX6_undo 17 = .ok (.putfield 100, 3) := dAX6_undo_1.1
theorem dX6_undo_20 : decode cX6_undo 20 = .ok (.aload_n 0, 1) := dAX6_undo_1.2.1
theorem dX6_undo_21 : decode cX6_undo 21 = .ok (.getfield 100, 3) := dAX6_undo_1.2.2.1
theorem dX6_undo_24 : decode cX6_undo 24 = .ok (.ifCond .ne 21, 3) := dAX6_undo_1.2.2.2.1
theorem dX6_undo_27 : decode cX6_undo 27 = .ok (.aload_n 0, 1) := dAX6_undo_1.2.2.2.2.1
theorem dX6_undo_28 : decode cX6_undo 28 = .ok (.getfield 40, 3) := dAX6_undo_1.2.2.2.2.2.1
theorem dX6_undo_31 : decode cX6_undo 31 = .ok (.aload_n 0, 1) := dAX6_undo_1.2.2.2.2.2.2.1
theorem dX6_undo_32 : decode cX6_undo 32 = .ok (.getfield 26, 3) := dAX6_undo_1.2.2.2.2.2.2.2
set_option maxRecDepth 100000 in
theorem dAX6_undo_2 : decode cX6_undo 35 = .ok (.invokevirtual 353, 3) ∧ decode cX6_undo 38 = .ok (.ifCond .eq 7, 3) ∧ decode cX6_undo 41 = .ok (.iconst 1, 1) ∧ decode cX6_undo 42 = .ok (.goto 4, 3) ∧ decode cX6_undo 45 = .ok (.iconst 0, 1) ∧ decode cX6_undo 46 = .ok (.ireturn, 1) := by decide +kernel
theorem dX6_undo_35 : decode cX6_undo 35 = .ok (.invokevirtual 353, 3) := dAX6_undo_2.1
theorem dX6_undo_38 : decode cX6_undo 38 = .ok (.ifCond .eq 7, 3) := dAX6_undo_2.2.1
theorem dX6_undo_41 : decode cX6_undo 41 = .ok (.iconst 1, 1) := dAX6_undo_2.2.2.1
theorem dX6_undo_42 : decode cX6_undo 42 = .ok (.goto 4, 3) := dAX6_undo_2.2.2.2.1
theorem dX6_undo_45 : decode cX6_undo 45 = .ok (.iconst 0, 1) := dAX6_undo_2.2.2.2.2.1
theorem dX6_undo_46 : decode cX6_undo 46 = .ok (.ireturn, 1) := dAX6_undo_2.2.2.2.2.2
set_option maxRecDepth 100000 in
theorem dAX6_unheardWord_0 : decode cX6_unheardWord 0 = .ok (.aload_n 0, 1) ∧ decode cX6_unheardWord 1 = .ok (.getfield 47, 3) ∧ decode cX6_unheardWord 4 = .ok (.aload_n 0, 1) ∧ decode cX6_unheardWord 5 = .ok (.getfield 19, 3) ∧ decode cX6_unheardWord 8 = .ok (.aload_n 0, 1) ∧ decode cX6_unheardWord 9 = .ok (.getfield 26, 3) ∧ decode cX6_unheardWord 12 = .ok (.invokevirtual 177, 3) ∧ decode cX6_unheardWord 15 = .ok (.pop, 1) := by decide +kernel
theorem dX6_unheardWord_0 : decode cX6_unheardWord 0 = .ok (.aload_n 0, 1) := dAX6_unheardWord_0.1
theorem dX6_unheardWord_1 : decode cX6_unheardWord 1 = .ok (.getfield 47, 3) := dAX6_unheardWord_0.2.1
theorem dX6_unheardWord_4 : decode cX6_unheardWord 4 = .ok (.aload_n 0, 1) := dAX6_unheardWord_0.2.2.1
theorem dX6_unheardWord_5 : decode cX6_unheardWord 5 = .ok (.getfield 19, 3) := dAX6_unheardWord_0.2.2.2.1
theorem dX6_unheardWord_8 : decode cX6_unheardWord 8 = .ok (.aload_n 0, 1) := dAX6_unheardWord_0.2.2.2.2.1
theorem dX6_unheardWord_9 : decode cX6_unheardWord 9 = .ok (.getfield 26, 3) := dAX6_unheardWord_0.2.2.2.2.2.1
theorem dX6_unheardWord_12 : decode cX6_unheardWord 12 = .ok (.invokevirtual 177, 3) := dAX6_unheardWord_0.2.2.2.2.2.2.1
theorem dX6_unheardWord_15 : decode cX6_unheardWord 15 = .ok (.pop, 1) := dAX6_unheardWord_0.2.2.2.2.2.2.2
set_option maxRecDepth 100000 in
theorem dAX6_unheardWord_1 : decode cX6_unheardWord 16 = .ok (.iconst 0, 1) ∧ decode cX6_unheardWord 17 = .ok (.istore_n 2, 1) ∧ decode cX6_unheardWord 18 = .ok (.iconst 0, 1) ∧ decode cX6_unheardWord 19 = .ok (.istore_n 3, 1) ∧ decode cX6_unheardWord 20 = .ok (.iload_n 3, 1) ∧ decode cX6_unheardWord 21 = .ok (.aload_n 0, 1) ∧ decode cX6_unheardWord 22 = .ok (.getfield 19, 3) ∧ decode cX6_unheardWord 25 = .ok (.getfield 103, 3) := by decide +kernel
theorem dX6_unheardWord_16 : decode cX6_unheardWord 16 = .ok (.iconst 0, 1) := dAX6_unheardWord_1.1
theorem dX6_unheardWord_17 : decode cX6_unheardWord 17 = .ok (.istore_n 2, 1) := dAX6_unheardWord_1.2.1
theorem dX6_unheardWord_18 : decode cX6_unheardWord 18 = .ok (.iconst 0, 1) := dAX6_unheardWord_1.2.2.1
theorem dX6_unheardWord_19 : decode cX6_unheardWord 19 = .ok (.istore_n 3, 1) := dAX6_unheardWord_1.2.2.2.1
theorem dX6_unheardWord_20 : decode cX6_unheardWord 20 = .ok (.iload_n 3, 1) := dAX6_unheardWord_1.2.2.2.2.1
theorem dX6_unheardWord_21 : decode cX6_unheardWord 21 = .ok (.aload_n 0, 1) := dAX6_unheardWord_1.2.2.2.2.2.1
theorem dX6_unheardWord_22 : decode cX6_unheardWord 22 = .ok (.getfield 19, 3) := dAX6_unheardWord_1.2.2.2.2.2.2.1
theorem dX6_unheardWord_25 : decode cX6_unheardWord 25 = .ok (.getfield 103, 3) := dAX6_unheardWord_1.2.2.2.2.2.2.2
set_option maxRecDepth 100000 in
theorem dAX6_unheardWord_2 : decode cX6_unheardWord 28 = .ok (.if_icmp .ge 45, 3) ∧ decode cX6_unheardWord 31 = .ok (.aload_n 0, 1) ∧ decode cX6_unheardWord 32 = .ok (.getfield 19, 3) ∧ decode cX6_unheardWord 35 = .ok (.getfield 109, 3) ∧ decode cX6_unheardWord 38 = .ok (.iload_n 3, 1) ∧ decode cX6_unheardWord 39 = .ok (.iaload, 1) ∧ decode cX6_unheardWord 40 = .ok (.ifCond .ne 27, 3) ∧ decode cX6_unheardWord 43 = .ok (.aload_n 0, 1) := by decide +kernel
theorem dX6_unheardWord_28 : decode cX6_unheardWord 28 = .ok (.if_icmp .ge 45, 3) := dAX6_unheardWord_2.1
theorem dX6_unheardWord_31 : decode cX6_unheardWord 31 = .ok (.aload_n 0, 1) := dAX6_unheardWord_2.2.1
theorem dX6_unheardWord_32 : decode cX6_unheardWord 32 = .ok (.getfield 19, 3) := dAX6_unheardWord_2.2.2.1
theorem dX6_unheardWord_35 : decode cX6_unheardWord 35 = .ok (.getfield 109, 3) := dAX6_unheardWord_2.2.2.2.1
theorem dX6_unheardWord_38 : decode cX6_unheardWord 38 = .ok (.iload_n 3, 1) := dAX6_unheardWord_2.2.2.2.2.1
theorem dX6_unheardWord_39 : decode cX6_unheardWord 39 = .ok (.iaload, 1) := dAX6_unheardWord_2.2.2.2.2.2.1
theorem dX6_unheardWord_40 : decode cX6_unheardWord 40 = .ok (.ifCond .ne 27, 3) := dAX6_unheardWord_2.2.2.2.2.2.2.1
theorem dX6_unheardWord_43 : decode cX6_unheardWord 43 = .ok (.aload_n 0, 1) := dAX6_unheardWord_2.2.2.2.2.2.2.2
set_option maxRecDepth 100000 in
theorem dAX6_unheardWord_3 : decode cX6_unheardWord 44 = .ok (.getfield 47, 3) ∧ decode cX6_unheardWord 47 = .ok (.getfield 184, 3) ∧ decode cX6_unheardWord 50 = .ok (.iload_n 3, 1) ∧ decode cX6_unheardWord 51 = .ok (.ishr, 1) ∧ decode cX6_unheardWord 52 = .ok (.iconst 1, 1) ∧ decode cX6_unheardWord 53 = .ok (.iand, 1) ∧ decode cX6_unheardWord 54 = .ok (.ifCond .ne 13, 3) ∧ decode cX6_unheardWord 57 = .ok (.iload_n 2, 1) := by decide +kernel
theorem dX6_unheardWord_44 : decode cX6_unheardWord 44 = .ok (.getfield 47, 3) := dAX6_unheardWord_3.1
theorem dX6_unheardWord_47 : decode cX6_unheardWord 47 = .ok (.getfield 184, 3) := dAX6_unheardWord_3.2.1
theorem dX6_unheardWord_50 : decode cX6_unheardWord 50 = .ok (.iload_n 3, 1) := dAX6_unheardWord_3.2.2.1
theorem dX6_unheardWord_51 : decode cX6_unheardWord 51 = .ok (.ishr, 1) := dAX6_unheardWord_3.2.2.2.1
theorem dX6_unheardWord_52 : decode cX6_unheardWord 52 = .ok (.iconst 1, 1) := dAX6_unheardWord_3.2.2.2.2.1
theorem dX6_unheardWord_53 : decode cX6_unheardWord 53 = .ok (.iand, 1) := dAX6_unheardWord_3.2.2.2.2.2.1
theorem dX6_unheardWord_54 : decode cX6_unheardWord 54 = .ok (.ifCond .ne 13, 3) := dAX6_unheardWord_3.2.2.2.2.2.2.1
theorem dX6_unheardWord_57 : decode cX6_unheardWord 57 = .ok (.iload_n 2, 1) := dAX6_unheardWord_3.2.2.2.2.2.2.2
set_option maxRecDepth 100000 in
theorem dAX6_unheardWord_4 : decode cX6_unheardWord 58 = .ok (.iload_n 1, 1) ∧ decode cX6_unheardWord 59 = .ok (.if_icmp .ne 5, 3) ∧ decode cX6_unheardWord 62 = .ok (.iload_n 3, 1) ∧ decode cX6_unheardWord 63 = .ok (.ireturn, 1) ∧ decode cX6_unheardWord 64 = .ok (.iinc 2 1, 3) ∧ decode cX6_unheardWord 67 = .ok (.iinc 3 1, 3) ∧ decode cX6_unheardWord 70 = .ok (.goto (-50), 3) ∧ decode cX6_unheardWord 73 = .ok (.iconst (-1), 1) := by decide +kernel
theorem dX6_unheardWord_58 : decode cX6_unheardWord 58 = .ok (.iload_n 1, 1) := dAX6_unheardWord_4.1
theorem dX6_unheardWord_59 : decode cX6_unheardWord 59 = .ok (.if_icmp .ne 5, 3) := dAX6_unheardWord_4.2.1
theorem dX6_unheardWord_62 : decode cX6_unheardWord 62 = .ok (.iload_n 3, 1) := dAX6_unheardWord_4.2.2.1
theorem dX6_unheardWord_63 : decode cX6_unheardWord 63 = .ok (.ireturn, 1) := dAX6_unheardWord_4.2.2.2.1
theorem dX6_unheardWord_64 : decode cX6_unheardWord 64 = .ok (.iinc 2 1, 3) := dAX6_unheardWord_4.2.2.2.2.1
theorem dX6_unheardWord_67 : decode cX6_unheardWord 67 = .ok (.iinc 3 1, 3) := dAX6_unheardWord_4.2.2.2.2.2.1
theorem dX6_unheardWord_70 : decode cX6_unheardWord 70 = .ok (.goto (-50), 3) := dAX6_unheardWord_4.2.2.2.2.2.2.1
theorem dX6_unheardWord_73 : decode cX6_unheardWord 73 = .ok (.iconst (-1), 1) := dAX6_unheardWord_4.2.2.2.2.2.2.2
theorem dX6_unheardWord_74 : decode cX6_unheardWord 74 = .ok (.ireturn, 1) := by decide +kernel
set_option maxRecDepth 100000 in
theorem dAX6_unsureToAsk_0 : decode cX6_unsureToAsk 0 = .ok (.iconst (-1), 1) ∧ decode cX6_unsureToAsk 1 = .ok (.istore_n 2, 1) ∧ decode cX6_unsureToAsk 2 = .ok (.iconst 0, 1) ∧ decode cX6_unsureToAsk 3 = .ok (.istore_n 3, 1) ∧ decode cX6_unsureToAsk 4 = .ok (.iconst 0, 1) ∧ decode cX6_unsureToAsk 5 = .ok (.istore 4, 2) ∧ decode cX6_unsureToAsk 7 = .ok (.iload_n 1, 1) ∧ decode cX6_unsureToAsk 8 = .ok (.ifCond .eq 46, 3) := by decide +kernel
theorem dX6_unsureToAsk_0 : decode cX6_unsureToAsk 0 = .ok (.iconst (-1), 1) := dAX6_unsureToAsk_0.1
theorem dX6_unsureToAsk_1 : decode cX6_unsureToAsk 1 = .ok (.istore_n 2, 1) := dAX6_unsureToAsk_0.2.1
theorem dX6_unsureToAsk_2 : decode cX6_unsureToAsk 2 = .ok (.iconst 0, 1) := dAX6_unsureToAsk_0.2.2.1
theorem dX6_unsureToAsk_3 : decode cX6_unsureToAsk 3 = .ok (.istore_n 3, 1) := dAX6_unsureToAsk_0.2.2.2.1
theorem dX6_unsureToAsk_4 : decode cX6_unsureToAsk 4 = .ok (.iconst 0, 1) := dAX6_unsureToAsk_0.2.2.2.2.1
theorem dX6_unsureToAsk_5 : decode cX6_unsureToAsk 5 = .ok (.istore 4, 2) := dAX6_unsureToAsk_0.2.2.2.2.2.1
theorem dX6_unsureToAsk_7 : decode cX6_unsureToAsk 7 = .ok (.iload_n 1, 1) := dAX6_unsureToAsk_0.2.2.2.2.2.2.1
theorem dX6_unsureToAsk_8 : decode cX6_unsureToAsk 8 = .ok (.ifCond .eq 46, 3) := dAX6_unsureToAsk_0.2.2.2.2.2.2.2
set_option maxRecDepth 100000 in
theorem dAX6_unsureToAsk_1 : decode cX6_unsureToAsk 11 = .ok (.iload 4, 2) ∧ decode cX6_unsureToAsk 13 = .ok (.aload_n 0, 1) ∧ decode cX6_unsureToAsk 14 = .ok (.getfield 19, 3) ∧ decode cX6_unsureToAsk 17 = .ok (.getfield 315, 3) ∧ decode cX6_unsureToAsk 20 = .ok (.if_icmp .ge 34, 3) ∧ decode cX6_unsureToAsk 23 = .ok (.aload_n 0, 1) ∧ decode cX6_unsureToAsk 24 = .ok (.iload_n 1, 1) ∧ decode cX6_unsureToAsk 25 = .ok (.iload 4, 2) := by decide +kernel
theorem dX6_unsureToAsk_11 : decode cX6_unsureToAsk 11 = .ok (.iload 4, 2) := dAX6_unsureToAsk_1.1
theorem dX6_unsureToAsk_13 : decode cX6_unsureToAsk 13 = .ok (.aload_n 0, 1) := dAX6_unsureToAsk_1.2.1
theorem dX6_unsureToAsk_14 : decode cX6_unsureToAsk 14 = .ok (.getfield 19, 3) := dAX6_unsureToAsk_1.2.2.1
theorem dX6_unsureToAsk_17 : decode cX6_unsureToAsk 17 = .ok (.getfield 315, 3) := dAX6_unsureToAsk_1.2.2.2.1
theorem dX6_unsureToAsk_20 : decode cX6_unsureToAsk 20 = .ok (.if_icmp .ge 34, 3) := dAX6_unsureToAsk_1.2.2.2.2.1
theorem dX6_unsureToAsk_23 : decode cX6_unsureToAsk 23 = .ok (.aload_n 0, 1) := dAX6_unsureToAsk_1.2.2.2.2.2.1
theorem dX6_unsureToAsk_24 : decode cX6_unsureToAsk 24 = .ok (.iload_n 1, 1) := dAX6_unsureToAsk_1.2.2.2.2.2.2.1
theorem dX6_unsureToAsk_25 : decode cX6_unsureToAsk 25 = .ok (.iload 4, 2) := dAX6_unsureToAsk_1.2.2.2.2.2.2.2
set_option maxRecDepth 100000 in
theorem dAX6_unsureToAsk_2 : decode cX6_unsureToAsk 27 = .ok (.invokevirtual 299, 3) ∧ decode cX6_unsureToAsk 30 = .ok (.istore 5, 2) ∧ decode cX6_unsureToAsk 32 = .ok (.iload_n 2, 1) ∧ decode cX6_unsureToAsk 33 = .ok (.ifCond .lt 9, 3) ∧ decode cX6_unsureToAsk 36 = .ok (.iload 5, 2) ∧ decode cX6_unsureToAsk 38 = .ok (.iload_n 3, 1) ∧ decode cX6_unsureToAsk 39 = .ok (.if_icmp .ge 9, 3) ∧ decode cX6_unsureToAsk 42 = .ok (.iload 4, 2) := by decide +kernel
theorem dX6_unsureToAsk_27 : decode cX6_unsureToAsk 27 = .ok (.invokevirtual 299, 3) := dAX6_unsureToAsk_2.1
theorem dX6_unsureToAsk_30 : decode cX6_unsureToAsk 30 = .ok (.istore 5, 2) := dAX6_unsureToAsk_2.2.1
theorem dX6_unsureToAsk_32 : decode cX6_unsureToAsk 32 = .ok (.iload_n 2, 1) := dAX6_unsureToAsk_2.2.2.1
theorem dX6_unsureToAsk_33 : decode cX6_unsureToAsk 33 = .ok (.ifCond .lt 9, 3) := dAX6_unsureToAsk_2.2.2.2.1
theorem dX6_unsureToAsk_36 : decode cX6_unsureToAsk 36 = .ok (.iload 5, 2) := dAX6_unsureToAsk_2.2.2.2.2.1
theorem dX6_unsureToAsk_38 : decode cX6_unsureToAsk 38 = .ok (.iload_n 3, 1) := dAX6_unsureToAsk_2.2.2.2.2.2.1
theorem dX6_unsureToAsk_39 : decode cX6_unsureToAsk 39 = .ok (.if_icmp .ge 9, 3) := dAX6_unsureToAsk_2.2.2.2.2.2.2.1
theorem dX6_unsureToAsk_42 : decode cX6_unsureToAsk 42 = .ok (.iload 4, 2) := dAX6_unsureToAsk_2.2.2.2.2.2.2.2
set_option maxRecDepth 100000 in
theorem dAX6_unsureToAsk_3 : decode cX6_unsureToAsk 44 = .ok (.istore_n 2, 1) ∧ decode cX6_unsureToAsk 45 = .ok (.iload 5, 2) ∧ decode cX6_unsureToAsk 47 = .ok (.istore_n 3, 1) ∧ decode cX6_unsureToAsk 48 = .ok (.iinc 4 1, 3) ∧ decode cX6_unsureToAsk 51 = .ok (.goto (-44), 3) ∧ decode cX6_unsureToAsk 54 = .ok (.iload_n 2, 1) ∧ decode cX6_unsureToAsk 55 = .ok (.ireturn, 1) := by decide +kernel
theorem dX6_unsureToAsk_44 : decode cX6_unsureToAsk 44 = .ok (.istore_n 2, 1) := dAX6_unsureToAsk_3.1
theorem dX6_unsureToAsk_45 : decode cX6_unsureToAsk 45 = .ok (.iload 5, 2) := dAX6_unsureToAsk_3.2.1
theorem dX6_unsureToAsk_47 : decode cX6_unsureToAsk 47 = .ok (.istore_n 3, 1) := dAX6_unsureToAsk_3.2.2.1
theorem dX6_unsureToAsk_48 : decode cX6_unsureToAsk 48 = .ok (.iinc 4 1, 3) := dAX6_unsureToAsk_3.2.2.2.1
theorem dX6_unsureToAsk_51 : decode cX6_unsureToAsk 51 = .ok (.goto (-44), 3) := dAX6_unsureToAsk_3.2.2.2.2.1
theorem dX6_unsureToAsk_54 : decode cX6_unsureToAsk 54 = .ok (.iload_n 2, 1) := dAX6_unsureToAsk_3.2.2.2.2.2.1
theorem dX6_unsureToAsk_55 : decode cX6_unsureToAsk 55 = .ok (.ireturn, 1) := dAX6_unsureToAsk_3.2.2.2.2.2.2
set_option maxRecDepth 100000 in
theorem dAX6_weight_0 : decode cX6_weight 0 = .ok (.aload_n 0, 1) ∧ decode cX6_weight 1 = .ok (.iload_n 1, 1) ∧ decode cX6_weight 2 = .ok (.invokevirtual 106, 3) ∧ decode cX6_weight 5 = .ok (.ifCond .eq 5, 3) ∧ decode cX6_weight 8 = .ok (.iconst (-1), 1) ∧ decode cX6_weight 9 = .ok (.ireturn, 1) ∧ decode cX6_weight 10 = .ok (.aload_n 0, 1) ∧ decode cX6_weight 11 = .ok (.getfield 19, 3) := by decide +kernel
theorem dX6_weight_0 : decode cX6_weight 0 = .ok (.aload_n 0, 1) := dAX6_weight_0.1
theorem dX6_weight_1 : decode cX6_weight 1 = .ok (.iload_n 1, 1) := dAX6_weight_0.2.1
theorem dX6_weight_2 : decode cX6_weight 2 = .ok (.invokevirtual 106, 3) := dAX6_weight_0.2.2.1
theorem dX6_weight_5 : decode cX6_weight 5 = .ok (.ifCond .eq 5, 3) := dAX6_weight_0.2.2.2.1
theorem dX6_weight_8 : decode cX6_weight 8 = .ok (.iconst (-1), 1) := dAX6_weight_0.2.2.2.2.1
theorem dX6_weight_9 : decode cX6_weight 9 = .ok (.ireturn, 1) := dAX6_weight_0.2.2.2.2.2.1
theorem dX6_weight_10 : decode cX6_weight 10 = .ok (.aload_n 0, 1) := dAX6_weight_0.2.2.2.2.2.2.1
theorem dX6_weight_11 : decode cX6_weight 11 = .ok (.getfield 19, 3) := dAX6_weight_0.2.2.2.2.2.2.2
set_option maxRecDepth 100000 in
theorem dAX6_weight_1 : decode cX6_weight 14 = .ok (.iload_n 1, 1) ∧ decode cX6_weight 15 = .ok (.iload_n 2, 1) ∧ decode cX6_weight 16 = .ok (.invokevirtual 133, 3) ∧ decode cX6_weight 19 = .ok (.istore_n 3, 1) ∧ decode cX6_weight 20 = .ok (.aload_n 0, 1) ∧ decode cX6_weight 21 = .ok (.getfield 19, 3) ∧ decode cX6_weight 24 = .ok (.getfield 109, 3) ∧ decode cX6_weight 27 = .ok (.iload_n 1, 1) := by decide +kernel
theorem dX6_weight_14 : decode cX6_weight 14 = .ok (.iload_n 1, 1) := dAX6_weight_1.1
theorem dX6_weight_15 : decode cX6_weight 15 = .ok (.iload_n 2, 1) := dAX6_weight_1.2.1
theorem dX6_weight_16 : decode cX6_weight 16 = .ok (.invokevirtual 133, 3) := dAX6_weight_1.2.2.1
theorem dX6_weight_19 : decode cX6_weight 19 = .ok (.istore_n 3, 1) := dAX6_weight_1.2.2.2.1
theorem dX6_weight_20 : decode cX6_weight 20 = .ok (.aload_n 0, 1) := dAX6_weight_1.2.2.2.2.1
theorem dX6_weight_21 : decode cX6_weight 21 = .ok (.getfield 19, 3) := dAX6_weight_1.2.2.2.2.2.1
theorem dX6_weight_24 : decode cX6_weight 24 = .ok (.getfield 109, 3) := dAX6_weight_1.2.2.2.2.2.2.1
theorem dX6_weight_27 : decode cX6_weight 27 = .ok (.iload_n 1, 1) := dAX6_weight_1.2.2.2.2.2.2.2
set_option maxRecDepth 100000 in
theorem dAX6_weight_2 : decode cX6_weight 28 = .ok (.iaload, 1) ∧ decode cX6_weight 29 = .ok (.iconst 3, 1) ∧ decode cX6_weight 30 = .ok (.if_icmp .ne 7, 3) ∧ decode cX6_weight 33 = .ok (.iload_n 3, 1) ∧ decode cX6_weight 34 = .ok (.ifCond .ge 9, 3) ∧ decode cX6_weight 37 = .ok (.aload_n 0, 1) ∧ decode cX6_weight 38 = .ok (.iconst 1, 1) ∧ decode cX6_weight 39 = .ok (.invokevirtual 66, 3) := by decide +kernel
theorem dX6_weight_28 : decode cX6_weight 28 = .ok (.iaload, 1) := dAX6_weight_2.1
theorem dX6_weight_29 : decode cX6_weight 29 = .ok (.iconst 3, 1) := dAX6_weight_2.2.1
theorem dX6_weight_30 : decode cX6_weight 30 = .ok (.if_icmp .ne 7, 3) := dAX6_weight_2.2.2.1
theorem dX6_weight_33 : decode cX6_weight 33 = .ok (.iload_n 3, 1) := dAX6_weight_2.2.2.2.1
theorem dX6_weight_34 : decode cX6_weight 34 = .ok (.ifCond .ge 9, 3) := dAX6_weight_2.2.2.2.2.1
theorem dX6_weight_37 : decode cX6_weight 37 = .ok (.aload_n 0, 1) := dAX6_weight_2.2.2.2.2.2.1
theorem dX6_weight_38 : decode cX6_weight 38 = .ok (.iconst 1, 1) := dAX6_weight_2.2.2.2.2.2.2.1
theorem dX6_weight_39 : decode cX6_weight 39 = .ok (.invokevirtual 66, 3) := dAX6_weight_2.2.2.2.2.2.2.2
set_option maxRecDepth 100000 in
theorem dAX6_weight_3 : decode cX6_weight 42 = .ok (.ireturn, 1) ∧ decode cX6_weight 43 = .ok (.aload_n 0, 1) ∧ decode cX6_weight 44 = .ok (.getfield 19, 3) ∧ decode cX6_weight 47 = .ok (.getfield 137, 3) ∧ decode cX6_weight 50 = .ok (.iload_n 1, 1) ∧ decode cX6_weight 51 = .ok (.iconst 4, 1) ∧ decode cX6_weight 52 = .ok (.imul, 1) ∧ decode cX6_weight 53 = .ok (.iload_n 3, 1) := by decide +kernel
theorem dX6_weight_42 : decode cX6_weight 42 = .ok (.ireturn, 1) := dAX6_weight_3.1
theorem dX6_weight_43 : decode cX6_weight 43 = .ok (.aload_n 0, 1) := dAX6_weight_3.2.1
theorem dX6_weight_44 : decode cX6_weight 44 = .ok (.getfield 19, 3) := dAX6_weight_3.2.2.1
theorem dX6_weight_47 : decode cX6_weight 47 = .ok (.getfield 137, 3) := dAX6_weight_3.2.2.2.1
theorem dX6_weight_50 : decode cX6_weight 50 = .ok (.iload_n 1, 1) := dAX6_weight_3.2.2.2.2.1
theorem dX6_weight_51 : decode cX6_weight 51 = .ok (.iconst 4, 1) := dAX6_weight_3.2.2.2.2.2.1
theorem dX6_weight_52 : decode cX6_weight 52 = .ok (.imul, 1) := dAX6_weight_3.2.2.2.2.2.2.1
theorem dX6_weight_53 : decode cX6_weight 53 = .ok (.iload_n 3, 1) := dAX6_weight_3.2.2.2.2.2.2.2
set_option maxRecDepth 100000 in
theorem dAX6_weight_4 : decode cX6_weight 54 = .ok (.iadd, 1) ∧ decode cX6_weight 55 = .ok (.iaload, 1) ∧ decode cX6_weight 56 = .ok (.ireturn, 1) := by decide +kernel
theorem dX6_weight_54 : decode cX6_weight 54 = .ok (.iadd, 1) := dAX6_weight_4.1
theorem dX6_weight_55 : decode cX6_weight 55 = .ok (.iaload, 1) := dAX6_weight_4.2.1
theorem dX6_weight_56 : decode cX6_weight 56 = .ok (.ireturn, 1) := dAX6_weight_4.2.2
set_option maxRecDepth 100000 in
theorem dAX6_where_0 : decode cX6_where 0 = .ok (.aload_n 0, 1) ∧ decode cX6_where 1 = .ok (.getfield 100, 3) ∧ decode cX6_where 4 = .ok (.iconst 4, 1) ∧ decode cX6_where 5 = .ok (.if_icmp .ne 10, 3) ∧ decode cX6_where 8 = .ok (.aload_n 0, 1) ∧ decode cX6_where 9 = .ok (.getfield 83, 3) ∧ decode cX6_where 12 = .ok (.goto 4, 3) ∧ decode cX6_where 15 = .ok (.iconst (-1), 1) := by decide +kernel
theorem dX6_where_0 : decode cX6_where 0 = .ok (.aload_n 0, 1) := dAX6_where_0.1
theorem dX6_where_1 : decode cX6_where 1 = .ok (.getfield 100, 3) := dAX6_where_0.2.1
theorem dX6_where_4 : decode cX6_where 4 = .ok (.iconst 4, 1) := dAX6_where_0.2.2.1
theorem dX6_where_5 : decode cX6_where 5 = .ok (.if_icmp .ne 10, 3) := dAX6_where_0.2.2.2.1
theorem dX6_where_8 : decode cX6_where 8 = .ok (.aload_n 0, 1) := dAX6_where_0.2.2.2.2.1
theorem dX6_where_9 : decode cX6_where 9 = .ok (.getfield 83, 3) := dAX6_where_0.2.2.2.2.2.1
theorem dX6_where_12 : decode cX6_where 12 = .ok (.goto 4, 3) := dAX6_where_0.2.2.2.2.2.2.1
theorem dX6_where_15 : decode cX6_where 15 = .ok (.iconst (-1), 1) := dAX6_where_0.2.2.2.2.2.2.2
theorem dX6_where_16 : decode cX6_where 16 = .ok (.ireturn, 1) := by decide +kernel
set_option maxRecDepth 100000 in
theorem dAX6_whole_0 : decode cX6_whole 0 = .ok (.aload_n 0, 1) ∧ decode cX6_whole 1 = .ok (.invokevirtual 140, 3) ∧ decode cX6_whole 4 = .ok (.ifCond .eq 7, 3) ∧ decode cX6_whole 7 = .ok (.iconst (-1), 1) ∧ decode cX6_whole 8 = .ok (.goto 14, 3) ∧ decode cX6_whole 11 = .ok (.aload_n 0, 1) ∧ decode cX6_whole 12 = .ok (.getfield 54, 3) ∧ decode cX6_whole 15 = .ok (.aload_n 0, 1) := by decide +kernel
theorem dX6_whole_0 : decode cX6_whole 0 = .ok (.aload_n 0, 1) := dAX6_whole_0.1
theorem dX6_whole_1 : decode cX6_whole 1 = .ok (.invokevirtual 140, 3) := dAX6_whole_0.2.1
theorem dX6_whole_4 : decode cX6_whole 4 = .ok (.ifCond .eq 7, 3) := dAX6_whole_0.2.2.1
theorem dX6_whole_7 : decode cX6_whole 7 = .ok (.iconst (-1), 1) := dAX6_whole_0.2.2.2.1
theorem dX6_whole_8 : decode cX6_whole 8 = .ok (.goto 14, 3) := dAX6_whole_0.2.2.2.2.1
theorem dX6_whole_11 : decode cX6_whole 11 = .ok (.aload_n 0, 1) := dAX6_whole_0.2.2.2.2.2.1
theorem dX6_whole_12 : decode cX6_whole 12 = .ok (.getfield 54, 3) := dAX6_whole_0.2.2.2.2.2.2.1
theorem dX6_whole_15 : decode cX6_whole 15 = .ok (.aload_n 0, 1) := dAX6_whole_0.2.2.2.2.2.2.2
set_option maxRecDepth 100000 in
theorem dAX6_whole_1 : decode cX6_whole 16 = .ok (.getfield 19, 3) ∧ decode cX6_whole 19 = .ok (.invokevirtual 173, 3) ∧ decode cX6_whole 22 = .ok (.ireturn, 1) := by decide +kernel
theorem dX6_whole_16 : decode cX6_whole 16 = .ok (.getfield 19, 3) := dAX6_whole_1.1
theorem dX6_whole_19 : decode cX6_whole 19 = .ok (.invokevirtual 173, 3) := dAX6_whole_1.2.1
theorem dX6_whole_22 : decode cX6_whole 22 = .ok (.ireturn, 1) := dAX6_whole_1.2.2
set_option maxRecDepth 100000 in
theorem dAX6_wholeOf_0 : decode cX6_wholeOf 0 = .ok (.iload_n 1, 1) ∧ decode cX6_wholeOf 1 = .ok (.ifCond .le 9, 3) ∧ decode cX6_wholeOf 4 = .ok (.iload_n 0, 1) ∧ decode cX6_wholeOf 5 = .ok (.iload_n 1, 1) ∧ decode cX6_wholeOf 6 = .ok (.idiv, 1) ∧ decode cX6_wholeOf 7 = .ok (.goto 4, 3) ∧ decode cX6_wholeOf 10 = .ok (.iconst 0, 1) ∧ decode cX6_wholeOf 11 = .ok (.ireturn, 1) := by decide +kernel
theorem dX6_wholeOf_0 : decode cX6_wholeOf 0 = .ok (.iload_n 1, 1) := dAX6_wholeOf_0.1
theorem dX6_wholeOf_1 : decode cX6_wholeOf 1 = .ok (.ifCond .le 9, 3) := dAX6_wholeOf_0.2.1
theorem dX6_wholeOf_4 : decode cX6_wholeOf 4 = .ok (.iload_n 0, 1) := dAX6_wholeOf_0.2.2.1
theorem dX6_wholeOf_5 : decode cX6_wholeOf 5 = .ok (.iload_n 1, 1) := dAX6_wholeOf_0.2.2.2.1
theorem dX6_wholeOf_6 : decode cX6_wholeOf 6 = .ok (.idiv, 1) := dAX6_wholeOf_0.2.2.2.2.1
theorem dX6_wholeOf_7 : decode cX6_wholeOf 7 = .ok (.goto 4, 3) := dAX6_wholeOf_0.2.2.2.2.2.1
theorem dX6_wholeOf_10 : decode cX6_wholeOf 10 = .ok (.iconst 0, 1) := dAX6_wholeOf_0.2.2.2.2.2.2.1
theorem dX6_wholeOf_11 : decode cX6_wholeOf 11 = .ok (.ireturn, 1) := dAX6_wholeOf_0.2.2.2.2.2.2.2
set_option maxRecDepth 100000 in
theorem dAX6_worth_0 : decode cX6_worth 0 = .ok (.aload_n 0, 1) ∧ decode cX6_worth 1 = .ok (.iload_n 1, 1) ∧ decode cX6_worth 2 = .ok (.invokevirtual 106, 3) ∧ decode cX6_worth 5 = .ok (.ifCond .eq 7, 3) ∧ decode cX6_worth 8 = .ok (.ldc2_w 147, 3) ∧ decode cX6_worth 11 = .ok (.lreturn, 1) ∧ decode cX6_worth 12 = .ok (.aload_n 0, 1) ∧ decode cX6_worth 13 = .ok (.getfield 54, 3) := by decide +kernel
theorem dX6_worth_0 : decode cX6_worth 0 = .ok (.aload_n 0, 1) := dAX6_worth_0.1
theorem dX6_worth_1 : decode cX6_worth 1 = .ok (.iload_n 1, 1) := dAX6_worth_0.2.1
theorem dX6_worth_2 : decode cX6_worth 2 = .ok (.invokevirtual 106, 3) := dAX6_worth_0.2.2.1
theorem dX6_worth_5 : decode cX6_worth 5 = .ok (.ifCond .eq 7, 3) := dAX6_worth_0.2.2.2.1
theorem dX6_worth_8 : decode cX6_worth 8 = .ok (.ldc2_w 147, 3) := dAX6_worth_0.2.2.2.2.1
theorem dX6_worth_11 : decode cX6_worth 11 = .ok (.lreturn, 1) := dAX6_worth_0.2.2.2.2.2.1
theorem dX6_worth_12 : decode cX6_worth 12 = .ok (.aload_n 0, 1) := dAX6_worth_0.2.2.2.2.2.2.1
theorem dX6_worth_13 : decode cX6_worth 13 = .ok (.getfield 54, 3) := dAX6_worth_0.2.2.2.2.2.2.2
set_option maxRecDepth 100000 in
theorem dAX6_worth_1 : decode cX6_worth 16 = .ok (.aload_n 0, 1) ∧ decode cX6_worth 17 = .ok (.getfield 19, 3) ∧ decode cX6_worth 20 = .ok (.aload_n 0, 1) ∧ decode cX6_worth 21 = .ok (.getfield 26, 3) ∧ decode cX6_worth 24 = .ok (.getfield 149, 3) ∧ decode cX6_worth 27 = .ok (.invokevirtual 152, 3) ∧ decode cX6_worth 30 = .ok (.pop, 1) ∧ decode cX6_worth 31 = .ok (.aload_n 0, 1) := by decide +kernel
theorem dX6_worth_16 : decode cX6_worth 16 = .ok (.aload_n 0, 1) := dAX6_worth_1.1
theorem dX6_worth_17 : decode cX6_worth 17 = .ok (.getfield 19, 3) := dAX6_worth_1.2.1
theorem dX6_worth_20 : decode cX6_worth 20 = .ok (.aload_n 0, 1) := dAX6_worth_1.2.2.1
theorem dX6_worth_21 : decode cX6_worth 21 = .ok (.getfield 26, 3) := dAX6_worth_1.2.2.2.1
theorem dX6_worth_24 : decode cX6_worth 24 = .ok (.getfield 149, 3) := dAX6_worth_1.2.2.2.2.1
theorem dX6_worth_27 : decode cX6_worth 27 = .ok (.invokevirtual 152, 3) := dAX6_worth_1.2.2.2.2.2.1
theorem dX6_worth_30 : decode cX6_worth 30 = .ok (.pop, 1) := dAX6_worth_1.2.2.2.2.2.2.1
theorem dX6_worth_31 : decode cX6_worth 31 = .ok (.aload_n 0, 1) := dAX6_worth_1.2.2.2.2.2.2.2
set_option maxRecDepth 100000 in
theorem dAX6_worth_2 : decode cX6_worth 32 = .ok (.getfield 54, 3) ∧ decode cX6_worth 35 = .ok (.getfield 156, 3) ∧ decode cX6_worth 38 = .ok (.iload_n 1, 1) ∧ decode cX6_worth 39 = .ok (.iaload, 1) ∧ decode cX6_worth 40 = .ok (.i2l, 1) ∧ decode cX6_worth 41 = .ok (.aload_n 0, 1) ∧ decode cX6_worth 42 = .ok (.getfield 19, 3) ∧ decode cX6_worth 45 = .ok (.getfield 159, 3) := by decide +kernel
theorem dX6_worth_32 : decode cX6_worth 32 = .ok (.getfield 54, 3) := dAX6_worth_2.1
theorem dX6_worth_35 : decode cX6_worth 35 = .ok (.getfield 156, 3) := dAX6_worth_2.2.1
theorem dX6_worth_38 : decode cX6_worth 38 = .ok (.iload_n 1, 1) := dAX6_worth_2.2.2.1
theorem dX6_worth_39 : decode cX6_worth 39 = .ok (.iaload, 1) := dAX6_worth_2.2.2.2.1
theorem dX6_worth_40 : decode cX6_worth 40 = .ok (.i2l, 1) := dAX6_worth_2.2.2.2.2.1
theorem dX6_worth_41 : decode cX6_worth 41 = .ok (.aload_n 0, 1) := dAX6_worth_2.2.2.2.2.2.1
theorem dX6_worth_42 : decode cX6_worth 42 = .ok (.getfield 19, 3) := dAX6_worth_2.2.2.2.2.2.2.1
theorem dX6_worth_45 : decode cX6_worth 45 = .ok (.getfield 159, 3) := dAX6_worth_2.2.2.2.2.2.2.2
set_option maxRecDepth 100000 in
theorem dAX6_worth_3 : decode cX6_worth 48 = .ok (.i2l, 1) ∧ decode cX6_worth 49 = .ok (.iload_n 2, 1) ∧ decode cX6_worth 50 = .ok (.invokestatic 162, 3) ∧ decode cX6_worth 53 = .ok (.lreturn, 1) := by decide +kernel
theorem dX6_worth_48 : decode cX6_worth 48 = .ok (.i2l, 1) := dAX6_worth_3.1
theorem dX6_worth_49 : decode cX6_worth 49 = .ok (.iload_n 2, 1) := dAX6_worth_3.2.1
theorem dX6_worth_50 : decode cX6_worth 50 = .ok (.invokestatic 162, 3) := dAX6_worth_3.2.2.1
theorem dX6_worth_53 : decode cX6_worth 53 = .ok (.lreturn, 1) := dAX6_worth_3.2.2.2
