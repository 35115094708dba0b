set_option maxRecDepth 100000 in
theorem dAX0_dropOldest_0 : decode cX0_dropOldest 0 = .ok (.iconst 1, 1) ∧ decode cX0_dropOldest 1 = .ok (.istore_n 1, 1) ∧ decode cX0_dropOldest 2 = .ok (.iload_n 1, 1) ∧ decode cX0_dropOldest 3 = .ok (.bipush 16, 2) ∧ decode cX0_dropOldest 5 = .ok (.if_icmp .ge 51, 3) ∧ decode cX0_dropOldest 8 = .ok (.aload_n 0, 1) ∧ decode cX0_dropOldest 9 = .ok (.getfield 9, 3) ∧ decode cX0_dropOldest 12 = .ok (.iload_n 1, 1) := by decide +kernel
theorem dX0_dropOldest_0 : decode cX0_dropOldest 0 = .ok (.iconst 1, 1) := dAX0_dropOldest_0.1
theorem dX0_dropOldest_1 : decode cX0_dropOldest 1 = .ok (.istore_n 1, 1) := dAX0_dropOldest_0.2.1
theorem dX0_dropOldest_2 : decode cX0_dropOldest 2 = .ok (.iload_n 1, 1) := dAX0_dropOldest_0.2.2.1
theorem dX0_dropOldest_3 : decode cX0_dropOldest 3 = .ok (.bipush 16, 2) := dAX0_dropOldest_0.2.2.2.1
theorem dX0_dropOldest_5 : decode cX0_dropOldest 5 = .ok (.if_icmp .ge 51, 3) := dAX0_dropOldest_0.2.2.2.2.1
theorem dX0_dropOldest_8 : decode cX0_dropOldest 8 = .ok (.aload_n 0, 1) := dAX0_dropOldest_0.2.2.2.2.2.1
theorem dX0_dropOldest_9 : decode cX0_dropOldest 9 = .ok (.getfield 9, 3) := dAX0_dropOldest_0.2.2.2.2.2.2.1
theorem dX0_dropOldest_12 : decode cX0_dropOldest 12 = .ok (.iload_n 1, 1) := dAX0_dropOldest_0.2.2.2.2.2.2.2
set_option maxRecDepth 100000 in
theorem dAX0_dropOldest_1 : decode cX0_dropOldest 13 = .ok (.iconst 1, 1) ∧ decode cX0_dropOldest 14 = .ok (.isub, 1) ∧ decode cX0_dropOldest 15 = .ok (.aload_n 0, 1) ∧ decode cX0_dropOldest 16 = .ok (.getfield 9, 3) ∧ decode cX0_dropOldest 19 = .ok (.iload_n 1, 1) ∧ decode cX0_dropOldest 20 = .ok (.iaload, 1) ∧ decode cX0_dropOldest 21 = .ok (.iastore, 1) ∧ decode cX0_dropOldest 22 = .ok (.aload_n 0, 1) := by decide +kernel
theorem dX0_dropOldest_13 : decode cX0_dropOldest 13 = .ok (.iconst 1, 1) := dAX0_dropOldest_1.1
theorem dX0_dropOldest_14 : decode cX0_dropOldest 14 = .ok (.isub, 1) := dAX0_dropOldest_1.2.1
theorem dX0_dropOldest_15 : decode cX0_dropOldest 15 = .ok (.aload_n 0, 1) := dAX0_dropOldest_1.2.2.1
theorem dX0_dropOldest_16 : decode cX0_dropOldest 16 = .ok (.getfield 9, 3) := dAX0_dropOldest_1.2.2.2.1
theorem dX0_dropOldest_19 : decode cX0_dropOldest 19 = .ok (.iload_n 1, 1) := dAX0_dropOldest_1.2.2.2.2.1
theorem dX0_dropOldest_20 : decode cX0_dropOldest 20 = .ok (.iaload, 1) := dAX0_dropOldest_1.2.2.2.2.2.1
theorem dX0_dropOldest_21 : decode cX0_dropOldest 21 = .ok (.iastore, 1) := dAX0_dropOldest_1.2.2.2.2.2.2.1
theorem dX0_dropOldest_22 : decode cX0_dropOldest 22 = .ok (.aload_n 0, 1) := dAX0_dropOldest_1.2.2.2.2.2.2.2
set_option maxRecDepth 100000 in
theorem dAX0_dropOldest_2 : decode cX0_dropOldest 23 = .ok (.getfield 15, 3) ∧ decode cX0_dropOldest 26 = .ok (.iload_n 1, 1) ∧ decode cX0_dropOldest 27 = .ok (.iconst 1, 1) ∧ decode cX0_dropOldest 28 = .ok (.isub, 1) ∧ decode cX0_dropOldest 29 = .ok (.aload_n 0, 1) ∧ decode cX0_dropOldest 30 = .ok (.getfield 15, 3) ∧ decode cX0_dropOldest 33 = .ok (.iload_n 1, 1) ∧ decode cX0_dropOldest 34 = .ok (.iaload, 1) := by decide +kernel
theorem dX0_dropOldest_23 : decode cX0_dropOldest 23 = .ok (.getfield 15, 3) := dAX0_dropOldest_2.1
theorem dX0_dropOldest_26 : decode cX0_dropOldest 26 = .ok (.iload_n 1, 1) := dAX0_dropOldest_2.2.1
theorem dX0_dropOldest_27 : decode cX0_dropOldest 27 = .ok (.iconst 1, 1) := dAX0_dropOldest_2.2.2.1
theorem dX0_dropOldest_28 : decode cX0_dropOldest 28 = .ok (.isub, 1) := dAX0_dropOldest_2.2.2.2.1
theorem dX0_dropOldest_29 : decode cX0_dropOldest 29 = .ok (.aload_n 0, 1) := dAX0_dropOldest_2.2.2.2.2.1
theorem dX0_dropOldest_30 : decode cX0_dropOldest 30 = .ok (.getfield 15, 3) := dAX0_dropOldest_2.2.2.2.2.2.1
theorem dX0_dropOldest_33 : decode cX0_dropOldest 33 = .ok (.iload_n 1, 1) := dAX0_dropOldest_2.2.2.2.2.2.2.1
theorem dX0_dropOldest_34 : decode cX0_dropOldest 34 = .ok (.iaload, 1) := dAX0_dropOldest_2.2.2.2.2.2.2.2
set_option maxRecDepth 100000 in
theorem dAX0_dropOldest_3 : decode cX0_dropOldest 35 = .ok (.iastore, 1) ∧ decode cX0_dropOldest 36 = .ok (.aload_n 0, 1) ∧ decode cX0_dropOldest 37 = .ok (.getfield 18, 3) ∧ decode cX0_dropOldest 40 = .ok (.iload_n 1, 1) ∧ decode cX0_dropOldest 41 = .ok (.iconst 1, 1) ∧ decode cX0_dropOldest 42 = .ok (.isub, 1) ∧ decode cX0_dropOldest 43 = .ok (.aload_n 0, 1) ∧ decode cX0_dropOldest 44 = .ok (.getfield 18, 3) := by decide +kernel
theorem dX0_dropOldest_35 : decode cX0_dropOldest 35 = .ok (.iastore, 1) := dAX0_dropOldest_3.1
theorem dX0_dropOldest_36 : decode cX0_dropOldest 36 = .ok (.aload_n 0, 1) := dAX0_dropOldest_3.2.1
theorem dX0_dropOldest_37 : decode cX0_dropOldest 37 = .ok (.getfield 18, 3) := dAX0_dropOldest_3.2.2.1
theorem dX0_dropOldest_40 : decode cX0_dropOldest 40 = .ok (.iload_n 1, 1) := dAX0_dropOldest_3.2.2.2.1
theorem dX0_dropOldest_41 : decode cX0_dropOldest 41 = .ok (.iconst 1, 1) := dAX0_dropOldest_3.2.2.2.2.1
theorem dX0_dropOldest_42 : decode cX0_dropOldest 42 = .ok (.isub, 1) := dAX0_dropOldest_3.2.2.2.2.2.1
theorem dX0_dropOldest_43 : decode cX0_dropOldest 43 = .ok (.aload_n 0, 1) := dAX0_dropOldest_3.2.2.2.2.2.2.1
theorem dX0_dropOldest_44 : decode cX0_dropOldest 44 = .ok (.getfield 18, 3) := dAX0_dropOldest_3.2.2.2.2.2.2.2
set_option maxRecDepth 100000 in
theorem dAX0_dropOldest_4 : decode cX0_dropOldest 47 = .ok (.iload_n 1, 1) ∧ decode cX0_dropOldest 48 = .ok (.baload, 1) ∧ decode cX0_dropOldest 49 = .ok (.bastore, 1) ∧ decode cX0_dropOldest 50 = .ok (.iinc 1 1, 3) ∧ decode cX0_dropOldest 53 = .ok (.goto (-51), 3) ∧ decode cX0_dropOldest 56 = .ok (.aload_n 0, 1) ∧ decode cX0_dropOldest 57 = .ok (.bipush 15, 2) ∧ decode cX0_dropOldest 59 = .ok (.putfield 22, 3) := by decide +kernel
theorem dX0_dropOldest_47 : decode cX0_dropOldest 47 = .ok (.iload_n 1, 1) := dAX0_dropOldest_4.1
theorem dX0_dropOldest_48 : decode cX0_dropOldest 48 = .ok (.baload, 1) := dAX0_dropOldest_4.2.1
theorem dX0_dropOldest_49 : decode cX0_dropOldest 49 = .ok (.bastore, 1) := dAX0_dropOldest_4.2.2.1
theorem dX0_dropOldest_50 : decode cX0_dropOldest 50 = .ok (.iinc 1 1, 3) := dAX0_dropOldest_4.2.2.2.1
theorem dX0_dropOldest_53 : decode cX0_dropOldest 53 = .ok (.goto (-51), 3) := dAX0_dropOldest_4.2.2.2.2.1
theorem dX0_dropOldest_56 : decode cX0_dropOldest 56 = .ok (.aload_n 0, 1) := dAX0_dropOldest_4.2.2.2.2.2.1
theorem dX0_dropOldest_57 : decode cX0_dropOldest 57 = .ok (.bipush 15, 2) := dAX0_dropOldest_4.2.2.2.2.2.2.1
theorem dX0_dropOldest_59 : decode cX0_dropOldest 59 = .ok (.putfield 22, 3) := dAX0_dropOldest_4.2.2.2.2.2.2.2
theorem dX0_dropOldest_62 : decode cX0_dropOldest 62 = .ok (.return_, 1) := by decide +kernel
set_option maxRecDepth 100000 in
theorem dAX0_forget_0 : decode cX0_forget 0 = .ok (.aload_n 0, 1) ∧ decode cX0_forget 1 = .ok (.iconst 0, 1) ∧ decode cX0_forget 2 = .ok (.putfield 22, 3) ∧ decode cX0_forget 5 = .ok (.return_, 1) := by decide +kernel
theorem dX0_forget_0 : decode cX0_forget 0 = .ok (.aload_n 0, 1) := dAX0_forget_0.1
theorem dX0_forget_1 : decode cX0_forget 1 = .ok (.iconst 0, 1) := dAX0_forget_0.2.1
theorem dX0_forget_2 : decode cX0_forget 2 = .ok (.putfield 22, 3) := dAX0_forget_0.2.2.1
theorem dX0_forget_5 : decode cX0_forget 5 = .ok (.return_, 1) := dAX0_forget_0.2.2.2
set_option maxRecDepth 100000 in
theorem dAX0_init_0 : decode cX0_init 0 = .ok (.aload_n 0, 1) ∧ decode cX0_init 1 = .ok (.invokespecial 3, 3) ∧ decode cX0_init 4 = .ok (.aload_n 0, 1) ∧ decode cX0_init 5 = .ok (.bipush 16, 2) ∧ decode cX0_init 7 = .ok (.newarray .int, 2) ∧ decode cX0_init 9 = .ok (.putfield 9, 3) ∧ decode cX0_init 12 = .ok (.aload_n 0, 1) ∧ decode cX0_init 13 = .ok (.bipush 16, 2) := by decide +kernel
theorem dX0_init_0 : decode cX0_init 0 = .ok (.aload_n 0, 1) := dAX0_init_0.1
theorem dX0_init_1 : decode cX0_init 1 = .ok (.invokespecial 3, 3) := dAX0_init_0.2.1
theorem dX0_init_4 : decode cX0_init 4 = .ok (.aload_n 0, 1) := dAX0_init_0.2.2.1
theorem dX0_init_5 : decode cX0_init 5 = .ok (.bipush 16, 2) := dAX0_init_0.2.2.2.1
theorem dX0_init_7 : decode cX0_init 7 = .ok (.newarray .int, 2) := dAX0_init_0.2.2.2.2.1
theorem dX0_init_9 : decode cX0_init 9 = .ok (.putfield 9, 3) := dAX0_init_0.2.2.2.2.2.1
theorem dX0_init_12 : decode cX0_init 12 = .ok (.aload_n 0, 1) := dAX0_init_0.2.2.2.2.2.2.1
theorem dX0_init_13 : decode cX0_init 13 = .ok (.bipush 16, 2) := dAX0_init_0.2.2.2.2.2.2.2
set_option maxRecDepth 100000 in
theorem dAX0_init_1 : decode cX0_init 15 = .ok (.newarray .int, 2) ∧ decode cX0_init 17 = .ok (.putfield 15, 3) ∧ decode cX0_init 20 = .ok (.aload_n 0, 1) ∧ decode cX0_init 21 = .ok (.bipush 16, 2) ∧ decode cX0_init 23 = .ok (.newarray .boolean, 2) ∧ decode cX0_init 25 = .ok (.putfield 18, 3) ∧ decode cX0_init 28 = .ok (.return_, 1) := by decide +kernel
theorem dX0_init_15 : decode cX0_init 15 = .ok (.newarray .int, 2) := dAX0_init_1.1
theorem dX0_init_17 : decode cX0_init 17 = .ok (.putfield 15, 3) := dAX0_init_1.2.1
theorem dX0_init_20 : decode cX0_init 20 = .ok (.aload_n 0, 1) := dAX0_init_1.2.2.1
theorem dX0_init_21 : decode cX0_init 21 = .ok (.bipush 16, 2) := dAX0_init_1.2.2.2.1
theorem dX0_init_23 : decode cX0_init 23 = .ok (.newarray .boolean, 2) := dAX0_init_1.2.2.2.2.1
theorem dX0_init_25 : decode cX0_init 25 = .ok (.putfield 18, 3) := dAX0_init_1.2.2.2.2.2.1
theorem dX0_init_28 : decode cX0_init 28 = .ok (.return_, 1) := dAX0_init_1.2.2.2.2.2.2
set_option maxRecDepth 100000 in
theorem dAX0_keep_0 : decode cX0_keep 0 = .ok (.aload_n 0, 1) ∧ decode cX0_keep 1 = .ok (.getfield 22, 3) ∧ decode cX0_keep 4 = .ok (.bipush 16, 2) ∧ decode cX0_keep 6 = .ok (.if_icmp .ne 7, 3) ∧ decode cX0_keep 9 = .ok (.aload_n 0, 1) ∧ decode cX0_keep 10 = .ok (.invokevirtual 26, 3) ∧ decode cX0_keep 13 = .ok (.aload_n 0, 1) ∧ decode cX0_keep 14 = .ok (.getfield 9, 3) := by decide +kernel
theorem dX0_keep_0 : decode cX0_keep 0 = .ok (.aload_n 0, 1) := dAX0_keep_0.1
theorem dX0_keep_1 : decode cX0_keep 1 = .ok (.getfield 22, 3) := dAX0_keep_0.2.1
theorem dX0_keep_4 : decode cX0_keep 4 = .ok (.bipush 16, 2) := dAX0_keep_0.2.2.1
theorem dX0_keep_6 : decode cX0_keep 6 = .ok (.if_icmp .ne 7, 3) := dAX0_keep_0.2.2.2.1
theorem dX0_keep_9 : decode cX0_keep 9 = .ok (.aload_n 0, 1) := dAX0_keep_0.2.2.2.2.1
theorem dX0_keep_10 : decode cX0_keep 10 = .ok (.invokevirtual 26, 3) := dAX0_keep_0.2.2.2.2.2.1
theorem dX0_keep_13 : decode cX0_keep 13 = .ok (.aload_n 0, 1) := dAX0_keep_0.2.2.2.2.2.2.1
theorem dX0_keep_14 : decode cX0_keep 14 = .ok (.getfield 9, 3) := dAX0_keep_0.2.2.2.2.2.2.2
set_option maxRecDepth 100000 in
theorem dAX0_keep_1 : decode cX0_keep 17 = .ok (.aload_n 0, 1) ∧ decode cX0_keep 18 = .ok (.getfield 22, 3) ∧ decode cX0_keep 21 = .ok (.iload_n 1, 1) ∧ decode cX0_keep 22 = .ok (.iastore, 1) ∧ decode cX0_keep 23 = .ok (.aload_n 0, 1) ∧ decode cX0_keep 24 = .ok (.getfield 15, 3) ∧ decode cX0_keep 27 = .ok (.aload_n 0, 1) ∧ decode cX0_keep 28 = .ok (.getfield 22, 3) := by decide +kernel
theorem dX0_keep_17 : decode cX0_keep 17 = .ok (.aload_n 0, 1) := dAX0_keep_1.1
theorem dX0_keep_18 : decode cX0_keep 18 = .ok (.getfield 22, 3) := dAX0_keep_1.2.1
theorem dX0_keep_21 : decode cX0_keep 21 = .ok (.iload_n 1, 1) := dAX0_keep_1.2.2.1
theorem dX0_keep_22 : decode cX0_keep 22 = .ok (.iastore, 1) := dAX0_keep_1.2.2.2.1
theorem dX0_keep_23 : decode cX0_keep 23 = .ok (.aload_n 0, 1) := dAX0_keep_1.2.2.2.2.1
theorem dX0_keep_24 : decode cX0_keep 24 = .ok (.getfield 15, 3) := dAX0_keep_1.2.2.2.2.2.1
theorem dX0_keep_27 : decode cX0_keep 27 = .ok (.aload_n 0, 1) := dAX0_keep_1.2.2.2.2.2.2.1
theorem dX0_keep_28 : decode cX0_keep 28 = .ok (.getfield 22, 3) := dAX0_keep_1.2.2.2.2.2.2.2
set_option maxRecDepth 100000 in
theorem dAX0_keep_2 : decode cX0_keep 31 = .ok (.iload_n 2, 1) ∧ decode cX0_keep 32 = .ok (.iastore, 1) ∧ decode cX0_keep 33 = .ok (.aload_n 0, 1) ∧ decode cX0_keep 34 = .ok (.getfield 18, 3) ∧ decode cX0_keep 37 = .ok (.aload_n 0, 1) ∧ decode cX0_keep 38 = .ok (.getfield 22, 3) ∧ decode cX0_keep 41 = .ok (.iload_n 3, 1) ∧ decode cX0_keep 42 = .ok (.bastore, 1) := by decide +kernel
theorem dX0_keep_31 : decode cX0_keep 31 = .ok (.iload_n 2, 1) := dAX0_keep_2.1
theorem dX0_keep_32 : decode cX0_keep 32 = .ok (.iastore, 1) := dAX0_keep_2.2.1
theorem dX0_keep_33 : decode cX0_keep 33 = .ok (.aload_n 0, 1) := dAX0_keep_2.2.2.1
theorem dX0_keep_34 : decode cX0_keep 34 = .ok (.getfield 18, 3) := dAX0_keep_2.2.2.2.1
theorem dX0_keep_37 : decode cX0_keep 37 = .ok (.aload_n 0, 1) := dAX0_keep_2.2.2.2.2.1
theorem dX0_keep_38 : decode cX0_keep 38 = .ok (.getfield 22, 3) := dAX0_keep_2.2.2.2.2.2.1
theorem dX0_keep_41 : decode cX0_keep 41 = .ok (.iload_n 3, 1) := dAX0_keep_2.2.2.2.2.2.2.1
theorem dX0_keep_42 : decode cX0_keep 42 = .ok (.bastore, 1) := dAX0_keep_2.2.2.2.2.2.2.2
set_option maxRecDepth 100000 in
theorem dAX0_keep_3 : decode cX0_keep 43 = .ok (.aload_n 0, 1) ∧ decode cX0_keep 44 = .ok (.dup, 1) ∧ decode cX0_keep 45 = .ok (.getfield 22, 3) ∧ decode cX0_keep 48 = .ok (.iconst 1, 1) ∧ decode cX0_keep 49 = .ok (.iadd, 1) ∧ decode cX0_keep 50 = .ok (.putfield 22, 3) ∧ decode cX0_keep 53 = .ok (.return_, 1) := by decide +kernel
theorem dX0_keep_43 : decode cX0_keep 43 = .ok (.aload_n 0, 1) := dAX0_keep_3.1
theorem dX0_keep_44 : decode cX0_keep 44 = .ok (.dup, 1) := dAX0_keep_3.2.1
theorem dX0_keep_45 : decode cX0_keep 45 = .ok (.getfield 22, 3) := dAX0_keep_3.2.2.1
theorem dX0_keep_48 : decode cX0_keep 48 = .ok (.iconst 1, 1) := dAX0_keep_3.2.2.2.1
theorem dX0_keep_49 : decode cX0_keep 49 = .ok (.iadd, 1) := dAX0_keep_3.2.2.2.2.1
theorem dX0_keep_50 : decode cX0_keep 50 = .ok (.putfield 22, 3) := dAX0_keep_3.2.2.2.2.2.1
theorem dX0_keep_53 : decode cX0_keep 53 = .ok (.return_, 1) := dAX0_keep_3.2.2.2.2.2.2
set_option maxRecDepth 100000 in
theorem dAX0_takeBack_0 : decode cX0_takeBack 0 = .ok (.aload_n 0, 1) ∧ decode cX0_takeBack 1 = .ok (.getfield 22, 3) ∧ decode cX0_takeBack 4 = .ok (.ifCond .ne 5, 3) ∧ decode cX0_takeBack 7 = .ok (.iconst 0, 1) ∧ decode cX0_takeBack 8 = .ok (.ireturn, 1) ∧ decode cX0_takeBack 9 = .ok (.aload_n 0, 1) ∧ decode cX0_takeBack 10 = .ok (.dup, 1) ∧ decode cX0_takeBack 11 = .ok (.getfield 22, 3) := by decide +kernel
theorem dX0_takeBack_0 : decode cX0_takeBack 0 = .ok (.aload_n 0, 1) := dAX0_takeBack_0.1
theorem dX0_takeBack_1 : decode cX0_takeBack 1 = .ok (.getfield 22, 3) := dAX0_takeBack_0.2.1
theorem dX0_takeBack_4 : decode cX0_takeBack 4 = .ok (.ifCond .ne 5, 3) := dAX0_takeBack_0.2.2.1
theorem dX0_takeBack_7 : decode cX0_takeBack 7 = .ok (.iconst 0, 1) := dAX0_takeBack_0.2.2.2.1
theorem dX0_takeBack_8 : decode cX0_takeBack 8 = .ok (.ireturn, 1) := dAX0_takeBack_0.2.2.2.2.1
theorem dX0_takeBack_9 : decode cX0_takeBack 9 = .ok (.aload_n 0, 1) := dAX0_takeBack_0.2.2.2.2.2.1
theorem dX0_takeBack_10 : decode cX0_takeBack 10 = .ok (.dup, 1) := dAX0_takeBack_0.2.2.2.2.2.2.1
theorem dX0_takeBack_11 : decode cX0_takeBack 11 = .ok (.getfield 22, 3) := dAX0_takeBack_0.2.2.2.2.2.2.2
set_option maxRecDepth 100000 in
theorem dAX0_takeBack_1 : decode cX0_takeBack 14 = .ok (.iconst 1, 1) ∧ decode cX0_takeBack 15 = .ok (.isub, 1) ∧ decode cX0_takeBack 16 = .ok (.putfield 22, 3) ∧ decode cX0_takeBack 19 = .ok (.aload_n 0, 1) ∧ decode cX0_takeBack 20 = .ok (.getfield 18, 3) ∧ decode cX0_takeBack 23 = .ok (.aload_n 0, 1) ∧ decode cX0_takeBack 24 = .ok (.getfield 22, 3) ∧ decode cX0_takeBack 27 = .ok (.baload, 1) := by decide +kernel
theorem dX0_takeBack_14 : decode cX0_takeBack 14 = .ok (.iconst 1, 1) := dAX0_takeBack_1.1
theorem dX0_takeBack_15 : decode cX0_takeBack 15 = .ok (.isub, 1) := dAX0_takeBack_1.2.1
theorem dX0_takeBack_16 : decode cX0_takeBack 16 = .ok (.putfield 22, 3) := dAX0_takeBack_1.2.2.1
theorem dX0_takeBack_19 : decode cX0_takeBack 19 = .ok (.aload_n 0, 1) := dAX0_takeBack_1.2.2.2.1
theorem dX0_takeBack_20 : decode cX0_takeBack 20 = .ok (.getfield 18, 3) := dAX0_takeBack_1.2.2.2.2.1
theorem dX0_takeBack_23 : decode cX0_takeBack 23 = .ok (.aload_n 0, 1) := dAX0_takeBack_1.2.2.2.2.2.1
theorem dX0_takeBack_24 : decode cX0_takeBack 24 = .ok (.getfield 22, 3) := dAX0_takeBack_1.2.2.2.2.2.2.1
theorem dX0_takeBack_27 : decode cX0_takeBack 27 = .ok (.baload, 1) := dAX0_takeBack_1.2.2.2.2.2.2.2
set_option maxRecDepth 100000 in
theorem dAX0_takeBack_2 : decode cX0_takeBack 28 = .ok (.ifCond .eq 29, 3) ∧ decode cX0_takeBack 31 = .ok (.aload_n 1, 1) ∧ decode cX0_takeBack 32 = .ok (.getfield 29, 3) ∧ decode cX0_takeBack 35 = .ok (.aload_n 0, 1) ∧ decode cX0_takeBack 36 = .ok (.getfield 9, 3) ∧ decode cX0_takeBack 39 = .ok (.aload_n 0, 1) ∧ decode cX0_takeBack 40 = .ok (.getfield 22, 3) ∧ decode cX0_takeBack 43 = .ok (.iaload, 1) := by decide +kernel
theorem dX0_takeBack_28 : decode cX0_takeBack 28 = .ok (.ifCond .eq 29, 3) := dAX0_takeBack_2.1
theorem dX0_takeBack_31 : decode cX0_takeBack 31 = .ok (.aload_n 1, 1) := dAX0_takeBack_2.2.1
theorem dX0_takeBack_32 : decode cX0_takeBack 32 = .ok (.getfield 29, 3) := dAX0_takeBack_2.2.2.1
theorem dX0_takeBack_35 : decode cX0_takeBack 35 = .ok (.aload_n 0, 1) := dAX0_takeBack_2.2.2.2.1
theorem dX0_takeBack_36 : decode cX0_takeBack 36 = .ok (.getfield 9, 3) := dAX0_takeBack_2.2.2.2.2.1
theorem dX0_takeBack_39 : decode cX0_takeBack 39 = .ok (.aload_n 0, 1) := dAX0_takeBack_2.2.2.2.2.2.1
theorem dX0_takeBack_40 : decode cX0_takeBack 40 = .ok (.getfield 22, 3) := dAX0_takeBack_2.2.2.2.2.2.2.1
theorem dX0_takeBack_43 : decode cX0_takeBack 43 = .ok (.iaload, 1) := dAX0_takeBack_2.2.2.2.2.2.2.2
set_option maxRecDepth 100000 in
theorem dAX0_takeBack_3 : decode cX0_takeBack 44 = .ok (.aload_n 0, 1) ∧ decode cX0_takeBack 45 = .ok (.getfield 15, 3) ∧ decode cX0_takeBack 48 = .ok (.aload_n 0, 1) ∧ decode cX0_takeBack 49 = .ok (.getfield 22, 3) ∧ decode cX0_takeBack 52 = .ok (.iaload, 1) ∧ decode cX0_takeBack 53 = .ok (.iastore, 1) ∧ decode cX0_takeBack 54 = .ok (.goto 25, 3) ∧ decode cX0_takeBack 57 = .ok (.aload_n 1, 1) := by decide +kernel
theorem dX0_takeBack_44 : decode cX0_takeBack 44 = .ok (.aload_n 0, 1) := dAX0_takeBack_3.1
theorem dX0_takeBack_45 : decode cX0_takeBack 45 = .ok (.getfield 15, 3) := dAX0_takeBack_3.2.1
theorem dX0_takeBack_48 : decode cX0_takeBack 48 = .ok (.aload_n 0, 1) := dAX0_takeBack_3.2.2.1
theorem dX0_takeBack_49 : decode cX0_takeBack 49 = .ok (.getfield 22, 3) := dAX0_takeBack_3.2.2.2.1
theorem dX0_takeBack_52 : decode cX0_takeBack 52 = .ok (.iaload, 1) := dAX0_takeBack_3.2.2.2.2.1
theorem dX0_takeBack_53 : decode cX0_takeBack 53 = .ok (.iastore, 1) := dAX0_takeBack_3.2.2.2.2.2.1
theorem dX0_takeBack_54 : decode cX0_takeBack 54 = .ok (.goto 25, 3) := dAX0_takeBack_3.2.2.2.2.2.2.1
theorem dX0_takeBack_57 : decode cX0_takeBack 57 = .ok (.aload_n 1, 1) := dAX0_takeBack_3.2.2.2.2.2.2.2
set_option maxRecDepth 100000 in
theorem dAX0_takeBack_4 : decode cX0_takeBack 58 = .ok (.aload_n 0, 1) ∧ decode cX0_takeBack 59 = .ok (.getfield 9, 3) ∧ decode cX0_takeBack 62 = .ok (.aload_n 0, 1) ∧ decode cX0_takeBack 63 = .ok (.getfield 22, 3) ∧ decode cX0_takeBack 66 = .ok (.iaload, 1) ∧ decode cX0_takeBack 67 = .ok (.aload_n 0, 1) ∧ decode cX0_takeBack 68 = .ok (.getfield 15, 3) ∧ decode cX0_takeBack 71 = .ok (.aload_n 0, 1) := by decide +kernel
theorem dX0_takeBack_58 : decode cX0_takeBack 58 = .ok (.aload_n 0, 1) := dAX0_takeBack_4.1
theorem dX0_takeBack_59 : decode cX0_takeBack 59 = .ok (.getfield 9, 3) := dAX0_takeBack_4.2.1
theorem dX0_takeBack_62 : decode cX0_takeBack 62 = .ok (.aload_n 0, 1) := dAX0_takeBack_4.2.2.1
theorem dX0_takeBack_63 : decode cX0_takeBack 63 = .ok (.getfield 22, 3) := dAX0_takeBack_4.2.2.2.1
theorem dX0_takeBack_66 : decode cX0_takeBack 66 = .ok (.iaload, 1) := dAX0_takeBack_4.2.2.2.2.1
theorem dX0_takeBack_67 : decode cX0_takeBack 67 = .ok (.aload_n 0, 1) := dAX0_takeBack_4.2.2.2.2.2.1
theorem dX0_takeBack_68 : decode cX0_takeBack 68 = .ok (.getfield 15, 3) := dAX0_takeBack_4.2.2.2.2.2.2.1
theorem dX0_takeBack_71 : decode cX0_takeBack 71 = .ok (.aload_n 0, 1) := dAX0_takeBack_4.2.2.2.2.2.2.2
set_option maxRecDepth 100000 in
theorem dAX0_takeBack_5 : decode cX0_takeBack 72 = .ok (.getfield 22, 3) ∧ decode cX0_takeBack 75 = .ok (.iaload, 1) ∧ decode cX0_takeBack 76 = .ok (.invokevirtual 34, 3) ∧ decode cX0_takeBack 79 = .ok (.iconst 1, 1) ∧ decode cX0_takeBack 80 = .ok (.ireturn, 1) := by decide +kernel
theorem dX0_takeBack_72 : decode cX0_takeBack 72 = .ok (.getfield 22, 3) := dAX0_takeBack_5.1
theorem dX0_takeBack_75 : decode cX0_takeBack 75 = .ok (.iaload, 1) := dAX0_takeBack_5.2.1
theorem dX0_takeBack_76 : decode cX0_takeBack 76 = .ok (.invokevirtual 34, 3) := dAX0_takeBack_5.2.2.1
theorem dX0_takeBack_79 : decode cX0_takeBack 79 = .ok (.iconst 1, 1) := dAX0_takeBack_5.2.2.2.1
theorem dX0_takeBack_80 : decode cX0_takeBack 80 = .ok (.ireturn, 1) := dAX0_takeBack_5.2.2.2.2
