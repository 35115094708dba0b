set_option maxRecDepth 100000 in
theorem dAX5_bringFirst_0 : decode cX5_bringFirst 0 = .ok (.iload_n 1, 1) ∧ decode cX5_bringFirst 1 = .ok (.iconst 4, 1) ∧ decode cX5_bringFirst 2 = .ok (.imul, 1) ∧ decode cX5_bringFirst 3 = .ok (.istore_n 3, 1) ∧ decode cX5_bringFirst 4 = .ok (.aload_n 0, 1) ∧ decode cX5_bringFirst 5 = .ok (.getfield 15, 3) ∧ decode cX5_bringFirst 8 = .ok (.iload_n 3, 1) ∧ decode cX5_bringFirst 9 = .ok (.iload_n 2, 1) := by decide +kernel
theorem dX5_bringFirst_0 : decode cX5_bringFirst 0 = .ok (.iload_n 1, 1) := dAX5_bringFirst_0.1
theorem dX5_bringFirst_1 : decode cX5_bringFirst 1 = .ok (.iconst 4, 1) := dAX5_bringFirst_0.2.1
theorem dX5_bringFirst_2 : decode cX5_bringFirst 2 = .ok (.imul, 1) := dAX5_bringFirst_0.2.2.1
theorem dX5_bringFirst_3 : decode cX5_bringFirst 3 = .ok (.istore_n 3, 1) := dAX5_bringFirst_0.2.2.2.1
theorem dX5_bringFirst_4 : decode cX5_bringFirst 4 = .ok (.aload_n 0, 1) := dAX5_bringFirst_0.2.2.2.2.1
theorem dX5_bringFirst_5 : decode cX5_bringFirst 5 = .ok (.getfield 15, 3) := dAX5_bringFirst_0.2.2.2.2.2.1
theorem dX5_bringFirst_8 : decode cX5_bringFirst 8 = .ok (.iload_n 3, 1) := dAX5_bringFirst_0.2.2.2.2.2.2.1
theorem dX5_bringFirst_9 : decode cX5_bringFirst 9 = .ok (.iload_n 2, 1) := dAX5_bringFirst_0.2.2.2.2.2.2.2
set_option maxRecDepth 100000 in
theorem dAX5_bringFirst_1 : decode cX5_bringFirst 10 = .ok (.iadd, 1) ∧ decode cX5_bringFirst 11 = .ok (.iaload, 1) ∧ decode cX5_bringFirst 12 = .ok (.istore 4, 2) ∧ decode cX5_bringFirst 14 = .ok (.iload_n 2, 1) ∧ decode cX5_bringFirst 15 = .ok (.istore 5, 2) ∧ decode cX5_bringFirst 17 = .ok (.iload 5, 2) ∧ decode cX5_bringFirst 19 = .ok (.ifCond .le 29, 3) ∧ decode cX5_bringFirst 22 = .ok (.aload_n 0, 1) := by decide +kernel
theorem dX5_bringFirst_10 : decode cX5_bringFirst 10 = .ok (.iadd, 1) := dAX5_bringFirst_1.1
theorem dX5_bringFirst_11 : decode cX5_bringFirst 11 = .ok (.iaload, 1) := dAX5_bringFirst_1.2.1
theorem dX5_bringFirst_12 : decode cX5_bringFirst 12 = .ok (.istore 4, 2) := dAX5_bringFirst_1.2.2.1
theorem dX5_bringFirst_14 : decode cX5_bringFirst 14 = .ok (.iload_n 2, 1) := dAX5_bringFirst_1.2.2.2.1
theorem dX5_bringFirst_15 : decode cX5_bringFirst 15 = .ok (.istore 5, 2) := dAX5_bringFirst_1.2.2.2.2.1
theorem dX5_bringFirst_17 : decode cX5_bringFirst 17 = .ok (.iload 5, 2) := dAX5_bringFirst_1.2.2.2.2.2.1
theorem dX5_bringFirst_19 : decode cX5_bringFirst 19 = .ok (.ifCond .le 29, 3) := dAX5_bringFirst_1.2.2.2.2.2.2.1
theorem dX5_bringFirst_22 : decode cX5_bringFirst 22 = .ok (.aload_n 0, 1) := dAX5_bringFirst_1.2.2.2.2.2.2.2
set_option maxRecDepth 100000 in
theorem dAX5_bringFirst_2 : decode cX5_bringFirst 23 = .ok (.getfield 15, 3) ∧ decode cX5_bringFirst 26 = .ok (.iload_n 3, 1) ∧ decode cX5_bringFirst 27 = .ok (.iload 5, 2) ∧ decode cX5_bringFirst 29 = .ok (.iadd, 1) ∧ decode cX5_bringFirst 30 = .ok (.aload_n 0, 1) ∧ decode cX5_bringFirst 31 = .ok (.getfield 15, 3) ∧ decode cX5_bringFirst 34 = .ok (.iload_n 3, 1) ∧ decode cX5_bringFirst 35 = .ok (.iload 5, 2) := by decide +kernel
theorem dX5_bringFirst_23 : decode cX5_bringFirst 23 = .ok (.getfield 15, 3) := dAX5_bringFirst_2.1
theorem dX5_bringFirst_26 : decode cX5_bringFirst 26 = .ok (.iload_n 3, 1) := dAX5_bringFirst_2.2.1
theorem dX5_bringFirst_27 : decode cX5_bringFirst 27 = .ok (.iload 5, 2) := dAX5_bringFirst_2.2.2.1
theorem dX5_bringFirst_29 : decode cX5_bringFirst 29 = .ok (.iadd, 1) := dAX5_bringFirst_2.2.2.2.1
theorem dX5_bringFirst_30 : decode cX5_bringFirst 30 = .ok (.aload_n 0, 1) := dAX5_bringFirst_2.2.2.2.2.1
theorem dX5_bringFirst_31 : decode cX5_bringFirst 31 = .ok (.getfield 15, 3) := dAX5_bringFirst_2.2.2.2.2.2.1
theorem dX5_bringFirst_34 : decode cX5_bringFirst 34 = .ok (.iload_n 3, 1) := dAX5_bringFirst_2.2.2.2.2.2.2.1
theorem dX5_bringFirst_35 : decode cX5_bringFirst 35 = .ok (.iload 5, 2) := dAX5_bringFirst_2.2.2.2.2.2.2.2
set_option maxRecDepth 100000 in
theorem dAX5_bringFirst_3 : decode cX5_bringFirst 37 = .ok (.iadd, 1) ∧ decode cX5_bringFirst 38 = .ok (.iconst 1, 1) ∧ decode cX5_bringFirst 39 = .ok (.isub, 1) ∧ decode cX5_bringFirst 40 = .ok (.iaload, 1) ∧ decode cX5_bringFirst 41 = .ok (.iastore, 1) ∧ decode cX5_bringFirst 42 = .ok (.iinc 5 (-1), 3) ∧ decode cX5_bringFirst 45 = .ok (.goto (-28), 3) ∧ decode cX5_bringFirst 48 = .ok (.aload_n 0, 1) := by decide +kernel
theorem dX5_bringFirst_37 : decode cX5_bringFirst 37 = .ok (.iadd, 1) := dAX5_bringFirst_3.1
theorem dX5_bringFirst_38 : decode cX5_bringFirst 38 = .ok (.iconst 1, 1) := dAX5_bringFirst_3.2.1
theorem dX5_bringFirst_39 : decode cX5_bringFirst 39 = .ok (.isub, 1) := dAX5_bringFirst_3.2.2.1
theorem dX5_bringFirst_40 : decode cX5_bringFirst 40 = .ok (.iaload, 1) := dAX5_bringFirst_3.2.2.2.1
theorem dX5_bringFirst_41 : decode cX5_bringFirst 41 = .ok (.iastore, 1) := dAX5_bringFirst_3.2.2.2.2.1
theorem dX5_bringFirst_42 : decode cX5_bringFirst 42 = .ok (.iinc 5 (-1), 3) := dAX5_bringFirst_3.2.2.2.2.2.1
theorem dX5_bringFirst_45 : decode cX5_bringFirst 45 = .ok (.goto (-28), 3) := dAX5_bringFirst_3.2.2.2.2.2.2.1
theorem dX5_bringFirst_48 : decode cX5_bringFirst 48 = .ok (.aload_n 0, 1) := dAX5_bringFirst_3.2.2.2.2.2.2.2
set_option maxRecDepth 100000 in
theorem dAX5_bringFirst_4 : decode cX5_bringFirst 49 = .ok (.getfield 15, 3) ∧ decode cX5_bringFirst 52 = .ok (.iload_n 3, 1) ∧ decode cX5_bringFirst 53 = .ok (.iload 4, 2) ∧ decode cX5_bringFirst 55 = .ok (.iastore, 1) ∧ decode cX5_bringFirst 56 = .ok (.return_, 1) := by decide +kernel
theorem dX5_bringFirst_49 : decode cX5_bringFirst 49 = .ok (.getfield 15, 3) := dAX5_bringFirst_4.1
theorem dX5_bringFirst_52 : decode cX5_bringFirst 52 = .ok (.iload_n 3, 1) := dAX5_bringFirst_4.2.1
theorem dX5_bringFirst_53 : decode cX5_bringFirst 53 = .ok (.iload 4, 2) := dAX5_bringFirst_4.2.2.1
theorem dX5_bringFirst_55 : decode cX5_bringFirst 55 = .ok (.iastore, 1) := dAX5_bringFirst_4.2.2.2.1
theorem dX5_bringFirst_56 : decode cX5_bringFirst 56 = .ok (.return_, 1) := dAX5_bringFirst_4.2.2.2.2
set_option maxRecDepth 100000 in
theorem dAX5_copyFrom_0 : decode cX5_copyFrom 0 = .ok (.aload_n 1, 1) ∧ decode cX5_copyFrom 1 = .ok (.getfield 9, 3) ∧ decode cX5_copyFrom 4 = .ok (.iconst 0, 1) ∧ decode cX5_copyFrom 5 = .ok (.aload_n 0, 1) ∧ decode cX5_copyFrom 6 = .ok (.getfield 9, 3) ∧ decode cX5_copyFrom 9 = .ok (.iconst 0, 1) ∧ decode cX5_copyFrom 10 = .ok (.bipush 18, 2) ∧ decode cX5_copyFrom 12 = .ok (.invokestatic 26, 3) := by decide +kernel
theorem dX5_copyFrom_0 : decode cX5_copyFrom 0 = .ok (.aload_n 1, 1) := dAX5_copyFrom_0.1
theorem dX5_copyFrom_1 : decode cX5_copyFrom 1 = .ok (.getfield 9, 3) := dAX5_copyFrom_0.2.1
theorem dX5_copyFrom_4 : decode cX5_copyFrom 4 = .ok (.iconst 0, 1) := dAX5_copyFrom_0.2.2.1
theorem dX5_copyFrom_5 : decode cX5_copyFrom 5 = .ok (.aload_n 0, 1) := dAX5_copyFrom_0.2.2.2.1
theorem dX5_copyFrom_6 : decode cX5_copyFrom 6 = .ok (.getfield 9, 3) := dAX5_copyFrom_0.2.2.2.2.1
theorem dX5_copyFrom_9 : decode cX5_copyFrom 9 = .ok (.iconst 0, 1) := dAX5_copyFrom_0.2.2.2.2.2.1
theorem dX5_copyFrom_10 : decode cX5_copyFrom 10 = .ok (.bipush 18, 2) := dAX5_copyFrom_0.2.2.2.2.2.2.1
theorem dX5_copyFrom_12 : decode cX5_copyFrom 12 = .ok (.invokestatic 26, 3) := dAX5_copyFrom_0.2.2.2.2.2.2.2
set_option maxRecDepth 100000 in
theorem dAX5_copyFrom_1 : decode cX5_copyFrom 15 = .ok (.aload_n 1, 1) ∧ decode cX5_copyFrom 16 = .ok (.getfield 15, 3) ∧ decode cX5_copyFrom 19 = .ok (.iconst 0, 1) ∧ decode cX5_copyFrom 20 = .ok (.aload_n 0, 1) ∧ decode cX5_copyFrom 21 = .ok (.getfield 15, 3) ∧ decode cX5_copyFrom 24 = .ok (.iconst 0, 1) ∧ decode cX5_copyFrom 25 = .ok (.bipush 72, 2) ∧ decode cX5_copyFrom 27 = .ok (.invokestatic 26, 3) := by decide +kernel
theorem dX5_copyFrom_15 : decode cX5_copyFrom 15 = .ok (.aload_n 1, 1) := dAX5_copyFrom_1.1
theorem dX5_copyFrom_16 : decode cX5_copyFrom 16 = .ok (.getfield 15, 3) := dAX5_copyFrom_1.2.1
theorem dX5_copyFrom_19 : decode cX5_copyFrom 19 = .ok (.iconst 0, 1) := dAX5_copyFrom_1.2.2.1
theorem dX5_copyFrom_20 : decode cX5_copyFrom 20 = .ok (.aload_n 0, 1) := dAX5_copyFrom_1.2.2.2.1
theorem dX5_copyFrom_21 : decode cX5_copyFrom 21 = .ok (.getfield 15, 3) := dAX5_copyFrom_1.2.2.2.2.1
theorem dX5_copyFrom_24 : decode cX5_copyFrom 24 = .ok (.iconst 0, 1) := dAX5_copyFrom_1.2.2.2.2.2.1
theorem dX5_copyFrom_25 : decode cX5_copyFrom 25 = .ok (.bipush 72, 2) := dAX5_copyFrom_1.2.2.2.2.2.2.1
theorem dX5_copyFrom_27 : decode cX5_copyFrom 27 = .ok (.invokestatic 26, 3) := dAX5_copyFrom_1.2.2.2.2.2.2.2
theorem dX5_copyFrom_30 : decode cX5_copyFrom 30 = .ok (.return_, 1) := by decide +kernel
set_option maxRecDepth 100000 in
theorem dAX5_init_0 : decode cX5_init 0 = .ok (.aload_n 0, 1) ∧ decode cX5_init 1 = .ok (.invokespecial 3, 3) ∧ decode cX5_init 4 = .ok (.aload_n 0, 1) ∧ decode cX5_init 5 = .ok (.bipush 18, 2) ∧ decode cX5_init 7 = .ok (.newarray .int, 2) ∧ decode cX5_init 9 = .ok (.putfield 9, 3) ∧ decode cX5_init 12 = .ok (.aload_n 0, 1) ∧ decode cX5_init 13 = .ok (.bipush 72, 2) := by decide +kernel
theorem dX5_init_0 : decode cX5_init 0 = .ok (.aload_n 0, 1) := dAX5_init_0.1
theorem dX5_init_1 : decode cX5_init 1 = .ok (.invokespecial 3, 3) := dAX5_init_0.2.1
theorem dX5_init_4 : decode cX5_init 4 = .ok (.aload_n 0, 1) := dAX5_init_0.2.2.1
theorem dX5_init_5 : decode cX5_init 5 = .ok (.bipush 18, 2) := dAX5_init_0.2.2.2.1
theorem dX5_init_7 : decode cX5_init 7 = .ok (.newarray .int, 2) := dAX5_init_0.2.2.2.2.1
theorem dX5_init_9 : decode cX5_init 9 = .ok (.putfield 9, 3) := dAX5_init_0.2.2.2.2.2.1
theorem dX5_init_12 : decode cX5_init 12 = .ok (.aload_n 0, 1) := dAX5_init_0.2.2.2.2.2.2.1
theorem dX5_init_13 : decode cX5_init 13 = .ok (.bipush 72, 2) := dAX5_init_0.2.2.2.2.2.2.2
set_option maxRecDepth 100000 in
theorem dAX5_init_1 : decode cX5_init 15 = .ok (.newarray .int, 2) ∧ decode cX5_init 17 = .ok (.putfield 15, 3) ∧ decode cX5_init 20 = .ok (.aload_n 0, 1) ∧ decode cX5_init 21 = .ok (.iconst 4, 1) ∧ decode cX5_init 22 = .ok (.newarray .int, 2) ∧ decode cX5_init 24 = .ok (.putfield 18, 3) ∧ decode cX5_init 27 = .ok (.return_, 1) := by decide +kernel
theorem dX5_init_15 : decode cX5_init 15 = .ok (.newarray .int, 2) := dAX5_init_1.1
theorem dX5_init_17 : decode cX5_init 17 = .ok (.putfield 15, 3) := dAX5_init_1.2.1
theorem dX5_init_20 : decode cX5_init 20 = .ok (.aload_n 0, 1) := dAX5_init_1.2.2.1
theorem dX5_init_21 : decode cX5_init 21 = .ok (.iconst 4, 1) := dAX5_init_1.2.2.2.1
theorem dX5_init_22 : decode cX5_init 22 = .ok (.newarray .int, 2) := dAX5_init_1.2.2.2.2.1
theorem dX5_init_24 : decode cX5_init 24 = .ok (.putfield 18, 3) := dAX5_init_1.2.2.2.2.2.1
theorem dX5_init_27 : decode cX5_init 27 = .ok (.return_, 1) := dAX5_init_1.2.2.2.2.2.2
set_option maxRecDepth 100000 in
theorem dAX5_partAt_0 : decode cX5_partAt 0 = .ok (.aload_n 1, 1) ∧ decode cX5_partAt 1 = .ok (.getfield 32, 3) ∧ decode cX5_partAt 4 = .ok (.iload_n 2, 1) ∧ decode cX5_partAt 5 = .ok (.iconst 4, 1) ∧ decode cX5_partAt 6 = .ok (.imul, 1) ∧ decode cX5_partAt 7 = .ok (.aload_n 0, 1) ∧ decode cX5_partAt 8 = .ok (.getfield 15, 3) ∧ decode cX5_partAt 11 = .ok (.iload_n 2, 1) := by decide +kernel
theorem dX5_partAt_0 : decode cX5_partAt 0 = .ok (.aload_n 1, 1) := dAX5_partAt_0.1
theorem dX5_partAt_1 : decode cX5_partAt 1 = .ok (.getfield 32, 3) := dAX5_partAt_0.2.1
theorem dX5_partAt_4 : decode cX5_partAt 4 = .ok (.iload_n 2, 1) := dAX5_partAt_0.2.2.1
theorem dX5_partAt_5 : decode cX5_partAt 5 = .ok (.iconst 4, 1) := dAX5_partAt_0.2.2.2.1
theorem dX5_partAt_6 : decode cX5_partAt 6 = .ok (.imul, 1) := dAX5_partAt_0.2.2.2.2.1
theorem dX5_partAt_7 : decode cX5_partAt 7 = .ok (.aload_n 0, 1) := dAX5_partAt_0.2.2.2.2.2.1
theorem dX5_partAt_8 : decode cX5_partAt 8 = .ok (.getfield 15, 3) := dAX5_partAt_0.2.2.2.2.2.2.1
theorem dX5_partAt_11 : decode cX5_partAt 11 = .ok (.iload_n 2, 1) := dAX5_partAt_0.2.2.2.2.2.2.2
set_option maxRecDepth 100000 in
theorem dAX5_partAt_1 : decode cX5_partAt 12 = .ok (.iconst 4, 1) ∧ decode cX5_partAt 13 = .ok (.imul, 1) ∧ decode cX5_partAt 14 = .ok (.iload_n 3, 1) ∧ decode cX5_partAt 15 = .ok (.iadd, 1) ∧ decode cX5_partAt 16 = .ok (.iaload, 1) ∧ decode cX5_partAt 17 = .ok (.iadd, 1) ∧ decode cX5_partAt 18 = .ok (.iaload, 1) ∧ decode cX5_partAt 19 = .ok (.ireturn, 1) := by decide +kernel
theorem dX5_partAt_12 : decode cX5_partAt 12 = .ok (.iconst 4, 1) := dAX5_partAt_1.1
theorem dX5_partAt_13 : decode cX5_partAt 13 = .ok (.imul, 1) := dAX5_partAt_1.2.1
theorem dX5_partAt_14 : decode cX5_partAt 14 = .ok (.iload_n 3, 1) := dAX5_partAt_1.2.2.1
theorem dX5_partAt_15 : decode cX5_partAt 15 = .ok (.iadd, 1) := dAX5_partAt_1.2.2.2.1
theorem dX5_partAt_16 : decode cX5_partAt 16 = .ok (.iaload, 1) := dAX5_partAt_1.2.2.2.2.1
theorem dX5_partAt_17 : decode cX5_partAt 17 = .ok (.iadd, 1) := dAX5_partAt_1.2.2.2.2.2.1
theorem dX5_partAt_18 : decode cX5_partAt 18 = .ok (.iaload, 1) := dAX5_partAt_1.2.2.2.2.2.2.1
theorem dX5_partAt_19 : decode cX5_partAt 19 = .ok (.ireturn, 1) := dAX5_partAt_1.2.2.2.2.2.2.2
set_option maxRecDepth 100000 in
theorem dAX5_putInOrder_0 : decode cX5_putInOrder 0 = .ok (.iload_n 1, 1) ∧ decode cX5_putInOrder 1 = .ok (.iconst 4, 1) ∧ decode cX5_putInOrder 2 = .ok (.imul, 1) ∧ decode cX5_putInOrder 3 = .ok (.istore 4, 2) ∧ decode cX5_putInOrder 5 = .ok (.iconst 0, 1) ∧ decode cX5_putInOrder 6 = .ok (.istore 5, 2) ∧ decode cX5_putInOrder 8 = .ok (.iload 5, 2) ∧ decode cX5_putInOrder 10 = .ok (.iload_n 2, 1) := by decide +kernel
theorem dX5_putInOrder_0 : decode cX5_putInOrder 0 = .ok (.iload_n 1, 1) := dAX5_putInOrder_0.1
theorem dX5_putInOrder_1 : decode cX5_putInOrder 1 = .ok (.iconst 4, 1) := dAX5_putInOrder_0.2.1
theorem dX5_putInOrder_2 : decode cX5_putInOrder 2 = .ok (.imul, 1) := dAX5_putInOrder_0.2.2.1
theorem dX5_putInOrder_3 : decode cX5_putInOrder 3 = .ok (.istore 4, 2) := dAX5_putInOrder_0.2.2.2.1
theorem dX5_putInOrder_5 : decode cX5_putInOrder 5 = .ok (.iconst 0, 1) := dAX5_putInOrder_0.2.2.2.2.1
theorem dX5_putInOrder_6 : decode cX5_putInOrder 6 = .ok (.istore 5, 2) := dAX5_putInOrder_0.2.2.2.2.2.1
theorem dX5_putInOrder_8 : decode cX5_putInOrder 8 = .ok (.iload 5, 2) := dAX5_putInOrder_0.2.2.2.2.2.2.1
theorem dX5_putInOrder_10 : decode cX5_putInOrder 10 = .ok (.iload_n 2, 1) := dAX5_putInOrder_0.2.2.2.2.2.2.2
set_option maxRecDepth 100000 in
theorem dAX5_putInOrder_1 : decode cX5_putInOrder 11 = .ok (.if_icmp .ge 26, 3) ∧ decode cX5_putInOrder 14 = .ok (.aload_n 0, 1) ∧ decode cX5_putInOrder 15 = .ok (.getfield 18, 3) ∧ decode cX5_putInOrder 18 = .ok (.iload 5, 2) ∧ decode cX5_putInOrder 20 = .ok (.aload_n 0, 1) ∧ decode cX5_putInOrder 21 = .ok (.getfield 15, 3) ∧ decode cX5_putInOrder 24 = .ok (.iload 4, 2) ∧ decode cX5_putInOrder 26 = .ok (.iload 5, 2) := by decide +kernel
theorem dX5_putInOrder_11 : decode cX5_putInOrder 11 = .ok (.if_icmp .ge 26, 3) := dAX5_putInOrder_1.1
theorem dX5_putInOrder_14 : decode cX5_putInOrder 14 = .ok (.aload_n 0, 1) := dAX5_putInOrder_1.2.1
theorem dX5_putInOrder_15 : decode cX5_putInOrder 15 = .ok (.getfield 18, 3) := dAX5_putInOrder_1.2.2.1
theorem dX5_putInOrder_18 : decode cX5_putInOrder 18 = .ok (.iload 5, 2) := dAX5_putInOrder_1.2.2.2.1
theorem dX5_putInOrder_20 : decode cX5_putInOrder 20 = .ok (.aload_n 0, 1) := dAX5_putInOrder_1.2.2.2.2.1
theorem dX5_putInOrder_21 : decode cX5_putInOrder 21 = .ok (.getfield 15, 3) := dAX5_putInOrder_1.2.2.2.2.2.1
theorem dX5_putInOrder_24 : decode cX5_putInOrder 24 = .ok (.iload 4, 2) := dAX5_putInOrder_1.2.2.2.2.2.2.1
theorem dX5_putInOrder_26 : decode cX5_putInOrder 26 = .ok (.iload 5, 2) := dAX5_putInOrder_1.2.2.2.2.2.2.2
set_option maxRecDepth 100000 in
theorem dAX5_putInOrder_2 : decode cX5_putInOrder 28 = .ok (.iadd, 1) ∧ decode cX5_putInOrder 29 = .ok (.iaload, 1) ∧ decode cX5_putInOrder 30 = .ok (.iastore, 1) ∧ decode cX5_putInOrder 31 = .ok (.iinc 5 1, 3) ∧ decode cX5_putInOrder 34 = .ok (.goto (-26), 3) ∧ decode cX5_putInOrder 37 = .ok (.iload_n 3, 1) ∧ decode cX5_putInOrder 38 = .ok (.istore 5, 2) ∧ decode cX5_putInOrder 40 = .ok (.iload_n 2, 1) := by decide +kernel
theorem dX5_putInOrder_28 : decode cX5_putInOrder 28 = .ok (.iadd, 1) := dAX5_putInOrder_2.1
theorem dX5_putInOrder_29 : decode cX5_putInOrder 29 = .ok (.iaload, 1) := dAX5_putInOrder_2.2.1
theorem dX5_putInOrder_30 : decode cX5_putInOrder 30 = .ok (.iastore, 1) := dAX5_putInOrder_2.2.2.1
theorem dX5_putInOrder_31 : decode cX5_putInOrder 31 = .ok (.iinc 5 1, 3) := dAX5_putInOrder_2.2.2.2.1
theorem dX5_putInOrder_34 : decode cX5_putInOrder 34 = .ok (.goto (-26), 3) := dAX5_putInOrder_2.2.2.2.2.1
theorem dX5_putInOrder_37 : decode cX5_putInOrder 37 = .ok (.iload_n 3, 1) := dAX5_putInOrder_2.2.2.2.2.2.1
theorem dX5_putInOrder_38 : decode cX5_putInOrder 38 = .ok (.istore 5, 2) := dAX5_putInOrder_2.2.2.2.2.2.2.1
theorem dX5_putInOrder_40 : decode cX5_putInOrder 40 = .ok (.iload_n 2, 1) := dAX5_putInOrder_2.2.2.2.2.2.2.2
set_option maxRecDepth 100000 in
theorem dAX5_putInOrder_3 : decode cX5_putInOrder 41 = .ok (.istore 6, 2) ∧ decode cX5_putInOrder 43 = .ok (.iload 6, 2) ∧ decode cX5_putInOrder 45 = .ok (.ifCond .le 77, 3) ∧ decode cX5_putInOrder 48 = .ok (.iload 5, 2) ∧ decode cX5_putInOrder 50 = .ok (.iload 6, 2) ∧ decode cX5_putInOrder 52 = .ok (.irem, 1) ∧ decode cX5_putInOrder 53 = .ok (.istore 7, 2) ∧ decode cX5_putInOrder 55 = .ok (.iload 5, 2) := by decide +kernel
theorem dX5_putInOrder_41 : decode cX5_putInOrder 41 = .ok (.istore 6, 2) := dAX5_putInOrder_3.1
theorem dX5_putInOrder_43 : decode cX5_putInOrder 43 = .ok (.iload 6, 2) := dAX5_putInOrder_3.2.1
theorem dX5_putInOrder_45 : decode cX5_putInOrder 45 = .ok (.ifCond .le 77, 3) := dAX5_putInOrder_3.2.2.1
theorem dX5_putInOrder_48 : decode cX5_putInOrder 48 = .ok (.iload 5, 2) := dAX5_putInOrder_3.2.2.2.1
theorem dX5_putInOrder_50 : decode cX5_putInOrder 50 = .ok (.iload 6, 2) := dAX5_putInOrder_3.2.2.2.2.1
theorem dX5_putInOrder_52 : decode cX5_putInOrder 52 = .ok (.irem, 1) := dAX5_putInOrder_3.2.2.2.2.2.1
theorem dX5_putInOrder_53 : decode cX5_putInOrder 53 = .ok (.istore 7, 2) := dAX5_putInOrder_3.2.2.2.2.2.2.1
theorem dX5_putInOrder_55 : decode cX5_putInOrder 55 = .ok (.iload 5, 2) := dAX5_putInOrder_3.2.2.2.2.2.2.2
set_option maxRecDepth 100000 in
theorem dAX5_putInOrder_4 : decode cX5_putInOrder 57 = .ok (.iload 6, 2) ∧ decode cX5_putInOrder 59 = .ok (.idiv, 1) ∧ decode cX5_putInOrder 60 = .ok (.istore 5, 2) ∧ decode cX5_putInOrder 62 = .ok (.aload_n 0, 1) ∧ decode cX5_putInOrder 63 = .ok (.getfield 15, 3) ∧ decode cX5_putInOrder 66 = .ok (.iload 4, 2) ∧ decode cX5_putInOrder 68 = .ok (.iload_n 2, 1) ∧ decode cX5_putInOrder 69 = .ok (.iadd, 1) := by decide +kernel
theorem dX5_putInOrder_57 : decode cX5_putInOrder 57 = .ok (.iload 6, 2) := dAX5_putInOrder_4.1
theorem dX5_putInOrder_59 : decode cX5_putInOrder 59 = .ok (.idiv, 1) := dAX5_putInOrder_4.2.1
theorem dX5_putInOrder_60 : decode cX5_putInOrder 60 = .ok (.istore 5, 2) := dAX5_putInOrder_4.2.2.1
theorem dX5_putInOrder_62 : decode cX5_putInOrder 62 = .ok (.aload_n 0, 1) := dAX5_putInOrder_4.2.2.2.1
theorem dX5_putInOrder_63 : decode cX5_putInOrder 63 = .ok (.getfield 15, 3) := dAX5_putInOrder_4.2.2.2.2.1
theorem dX5_putInOrder_66 : decode cX5_putInOrder 66 = .ok (.iload 4, 2) := dAX5_putInOrder_4.2.2.2.2.2.1
theorem dX5_putInOrder_68 : decode cX5_putInOrder 68 = .ok (.iload_n 2, 1) := dAX5_putInOrder_4.2.2.2.2.2.2.1
theorem dX5_putInOrder_69 : decode cX5_putInOrder 69 = .ok (.iadd, 1) := dAX5_putInOrder_4.2.2.2.2.2.2.2
set_option maxRecDepth 100000 in
theorem dAX5_putInOrder_5 : decode cX5_putInOrder 70 = .ok (.iload 6, 2) ∧ decode cX5_putInOrder 72 = .ok (.isub, 1) ∧ decode cX5_putInOrder 73 = .ok (.aload_n 0, 1) ∧ decode cX5_putInOrder 74 = .ok (.getfield 18, 3) ∧ decode cX5_putInOrder 77 = .ok (.iload 7, 2) ∧ decode cX5_putInOrder 79 = .ok (.iaload, 1) ∧ decode cX5_putInOrder 80 = .ok (.iastore, 1) ∧ decode cX5_putInOrder 81 = .ok (.iload 7, 2) := by decide +kernel
theorem dX5_putInOrder_70 : decode cX5_putInOrder 70 = .ok (.iload 6, 2) := dAX5_putInOrder_5.1
theorem dX5_putInOrder_72 : decode cX5_putInOrder 72 = .ok (.isub, 1) := dAX5_putInOrder_5.2.1
theorem dX5_putInOrder_73 : decode cX5_putInOrder 73 = .ok (.aload_n 0, 1) := dAX5_putInOrder_5.2.2.1
theorem dX5_putInOrder_74 : decode cX5_putInOrder 74 = .ok (.getfield 18, 3) := dAX5_putInOrder_5.2.2.2.1
theorem dX5_putInOrder_77 : decode cX5_putInOrder 77 = .ok (.iload 7, 2) := dAX5_putInOrder_5.2.2.2.2.1
theorem dX5_putInOrder_79 : decode cX5_putInOrder 79 = .ok (.iaload, 1) := dAX5_putInOrder_5.2.2.2.2.2.1
theorem dX5_putInOrder_80 : decode cX5_putInOrder 80 = .ok (.iastore, 1) := dAX5_putInOrder_5.2.2.2.2.2.2.1
theorem dX5_putInOrder_81 : decode cX5_putInOrder 81 = .ok (.iload 7, 2) := dAX5_putInOrder_5.2.2.2.2.2.2.2
set_option maxRecDepth 100000 in
theorem dAX5_putInOrder_6 : decode cX5_putInOrder 83 = .ok (.istore 8, 2) ∧ decode cX5_putInOrder 85 = .ok (.iload 8, 2) ∧ decode cX5_putInOrder 87 = .ok (.iload 6, 2) ∧ decode cX5_putInOrder 89 = .ok (.iconst 1, 1) ∧ decode cX5_putInOrder 90 = .ok (.isub, 1) ∧ decode cX5_putInOrder 91 = .ok (.if_icmp .ge 25, 3) ∧ decode cX5_putInOrder 94 = .ok (.aload_n 0, 1) ∧ decode cX5_putInOrder 95 = .ok (.getfield 18, 3) := by decide +kernel
theorem dX5_putInOrder_83 : decode cX5_putInOrder 83 = .ok (.istore 8, 2) := dAX5_putInOrder_6.1
theorem dX5_putInOrder_85 : decode cX5_putInOrder 85 = .ok (.iload 8, 2) := dAX5_putInOrder_6.2.1
theorem dX5_putInOrder_87 : decode cX5_putInOrder 87 = .ok (.iload 6, 2) := dAX5_putInOrder_6.2.2.1
theorem dX5_putInOrder_89 : decode cX5_putInOrder 89 = .ok (.iconst 1, 1) := dAX5_putInOrder_6.2.2.2.1
theorem dX5_putInOrder_90 : decode cX5_putInOrder 90 = .ok (.isub, 1) := dAX5_putInOrder_6.2.2.2.2.1
theorem dX5_putInOrder_91 : decode cX5_putInOrder 91 = .ok (.if_icmp .ge 25, 3) := dAX5_putInOrder_6.2.2.2.2.2.1
theorem dX5_putInOrder_94 : decode cX5_putInOrder 94 = .ok (.aload_n 0, 1) := dAX5_putInOrder_6.2.2.2.2.2.2.1
theorem dX5_putInOrder_95 : decode cX5_putInOrder 95 = .ok (.getfield 18, 3) := dAX5_putInOrder_6.2.2.2.2.2.2.2
set_option maxRecDepth 100000 in
theorem dAX5_putInOrder_7 : decode cX5_putInOrder 98 = .ok (.iload 8, 2) ∧ decode cX5_putInOrder 100 = .ok (.aload_n 0, 1) ∧ decode cX5_putInOrder 101 = .ok (.getfield 18, 3) ∧ decode cX5_putInOrder 104 = .ok (.iload 8, 2) ∧ decode cX5_putInOrder 106 = .ok (.iconst 1, 1) ∧ decode cX5_putInOrder 107 = .ok (.iadd, 1) ∧ decode cX5_putInOrder 108 = .ok (.iaload, 1) ∧ decode cX5_putInOrder 109 = .ok (.iastore, 1) := by decide +kernel
theorem dX5_putInOrder_98 : decode cX5_putInOrder 98 = .ok (.iload 8, 2) := dAX5_putInOrder_7.1
theorem dX5_putInOrder_100 : decode cX5_putInOrder 100 = .ok (.aload_n 0, 1) := dAX5_putInOrder_7.2.1
theorem dX5_putInOrder_101 : decode cX5_putInOrder 101 = .ok (.getfield 18, 3) := dAX5_putInOrder_7.2.2.1
theorem dX5_putInOrder_104 : decode cX5_putInOrder 104 = .ok (.iload 8, 2) := dAX5_putInOrder_7.2.2.2.1
theorem dX5_putInOrder_106 : decode cX5_putInOrder 106 = .ok (.iconst 1, 1) := dAX5_putInOrder_7.2.2.2.2.1
theorem dX5_putInOrder_107 : decode cX5_putInOrder 107 = .ok (.iadd, 1) := dAX5_putInOrder_7.2.2.2.2.2.1
theorem dX5_putInOrder_108 : decode cX5_putInOrder 108 = .ok (.iaload, 1) := dAX5_putInOrder_7.2.2.2.2.2.2.1
theorem dX5_putInOrder_109 : decode cX5_putInOrder 109 = .ok (.iastore, 1) := dAX5_putInOrder_7.2.2.2.2.2.2.2
set_option maxRecDepth 100000 in
theorem dAX5_putInOrder_8 : decode cX5_putInOrder 110 = .ok (.iinc 8 1, 3) ∧ decode cX5_putInOrder 113 = .ok (.goto (-28), 3) ∧ decode cX5_putInOrder 116 = .ok (.iinc 6 (-1), 3) ∧ decode cX5_putInOrder 119 = .ok (.goto (-76), 3) ∧ decode cX5_putInOrder 122 = .ok (.return_, 1) := by decide +kernel
theorem dX5_putInOrder_110 : decode cX5_putInOrder 110 = .ok (.iinc 8 1, 3) := dAX5_putInOrder_8.1
theorem dX5_putInOrder_113 : decode cX5_putInOrder 113 = .ok (.goto (-28), 3) := dAX5_putInOrder_8.2.1
theorem dX5_putInOrder_116 : decode cX5_putInOrder 116 = .ok (.iinc 6 (-1), 3) := dAX5_putInOrder_8.2.2.1
theorem dX5_putInOrder_119 : decode cX5_putInOrder 119 = .ok (.goto (-76), 3) := dAX5_putInOrder_8.2.2.2.1
theorem dX5_putInOrder_122 : decode cX5_putInOrder 122 = .ok (.return_, 1) := dAX5_putInOrder_8.2.2.2.2
set_option maxRecDepth 100000 in
theorem dAX5_sendBack_0 : decode cX5_sendBack 0 = .ok (.iload_n 1, 1) ∧ decode cX5_sendBack 1 = .ok (.iconst 4, 1) ∧ decode cX5_sendBack 2 = .ok (.imul, 1) ∧ decode cX5_sendBack 3 = .ok (.istore_n 3, 1) ∧ decode cX5_sendBack 4 = .ok (.aload_n 0, 1) ∧ decode cX5_sendBack 5 = .ok (.getfield 15, 3) ∧ decode cX5_sendBack 8 = .ok (.iload_n 3, 1) ∧ decode cX5_sendBack 9 = .ok (.iaload, 1) := by decide +kernel
theorem dX5_sendBack_0 : decode cX5_sendBack 0 = .ok (.iload_n 1, 1) := dAX5_sendBack_0.1
theorem dX5_sendBack_1 : decode cX5_sendBack 1 = .ok (.iconst 4, 1) := dAX5_sendBack_0.2.1
theorem dX5_sendBack_2 : decode cX5_sendBack 2 = .ok (.imul, 1) := dAX5_sendBack_0.2.2.1
theorem dX5_sendBack_3 : decode cX5_sendBack 3 = .ok (.istore_n 3, 1) := dAX5_sendBack_0.2.2.2.1
theorem dX5_sendBack_4 : decode cX5_sendBack 4 = .ok (.aload_n 0, 1) := dAX5_sendBack_0.2.2.2.2.1
theorem dX5_sendBack_5 : decode cX5_sendBack 5 = .ok (.getfield 15, 3) := dAX5_sendBack_0.2.2.2.2.2.1
theorem dX5_sendBack_8 : decode cX5_sendBack 8 = .ok (.iload_n 3, 1) := dAX5_sendBack_0.2.2.2.2.2.2.1
theorem dX5_sendBack_9 : decode cX5_sendBack 9 = .ok (.iaload, 1) := dAX5_sendBack_0.2.2.2.2.2.2.2
set_option maxRecDepth 100000 in
theorem dAX5_sendBack_1 : decode cX5_sendBack 10 = .ok (.istore 4, 2) ∧ decode cX5_sendBack 12 = .ok (.iconst 0, 1) ∧ decode cX5_sendBack 13 = .ok (.istore 5, 2) ∧ decode cX5_sendBack 15 = .ok (.iload 5, 2) ∧ decode cX5_sendBack 17 = .ok (.iload_n 2, 1) ∧ decode cX5_sendBack 18 = .ok (.if_icmp .ge 29, 3) ∧ decode cX5_sendBack 21 = .ok (.aload_n 0, 1) ∧ decode cX5_sendBack 22 = .ok (.getfield 15, 3) := by decide +kernel
theorem dX5_sendBack_10 : decode cX5_sendBack 10 = .ok (.istore 4, 2) := dAX5_sendBack_1.1
theorem dX5_sendBack_12 : decode cX5_sendBack 12 = .ok (.iconst 0, 1) := dAX5_sendBack_1.2.1
theorem dX5_sendBack_13 : decode cX5_sendBack 13 = .ok (.istore 5, 2) := dAX5_sendBack_1.2.2.1
theorem dX5_sendBack_15 : decode cX5_sendBack 15 = .ok (.iload 5, 2) := dAX5_sendBack_1.2.2.2.1
theorem dX5_sendBack_17 : decode cX5_sendBack 17 = .ok (.iload_n 2, 1) := dAX5_sendBack_1.2.2.2.2.1
theorem dX5_sendBack_18 : decode cX5_sendBack 18 = .ok (.if_icmp .ge 29, 3) := dAX5_sendBack_1.2.2.2.2.2.1
theorem dX5_sendBack_21 : decode cX5_sendBack 21 = .ok (.aload_n 0, 1) := dAX5_sendBack_1.2.2.2.2.2.2.1
theorem dX5_sendBack_22 : decode cX5_sendBack 22 = .ok (.getfield 15, 3) := dAX5_sendBack_1.2.2.2.2.2.2.2
set_option maxRecDepth 100000 in
theorem dAX5_sendBack_2 : decode cX5_sendBack 25 = .ok (.iload_n 3, 1) ∧ decode cX5_sendBack 26 = .ok (.iload 5, 2) ∧ decode cX5_sendBack 28 = .ok (.iadd, 1) ∧ decode cX5_sendBack 29 = .ok (.aload_n 0, 1) ∧ decode cX5_sendBack 30 = .ok (.getfield 15, 3) ∧ decode cX5_sendBack 33 = .ok (.iload_n 3, 1) ∧ decode cX5_sendBack 34 = .ok (.iload 5, 2) ∧ decode cX5_sendBack 36 = .ok (.iadd, 1) := by decide +kernel
theorem dX5_sendBack_25 : decode cX5_sendBack 25 = .ok (.iload_n 3, 1) := dAX5_sendBack_2.1
theorem dX5_sendBack_26 : decode cX5_sendBack 26 = .ok (.iload 5, 2) := dAX5_sendBack_2.2.1
theorem dX5_sendBack_28 : decode cX5_sendBack 28 = .ok (.iadd, 1) := dAX5_sendBack_2.2.2.1
theorem dX5_sendBack_29 : decode cX5_sendBack 29 = .ok (.aload_n 0, 1) := dAX5_sendBack_2.2.2.2.1
theorem dX5_sendBack_30 : decode cX5_sendBack 30 = .ok (.getfield 15, 3) := dAX5_sendBack_2.2.2.2.2.1
theorem dX5_sendBack_33 : decode cX5_sendBack 33 = .ok (.iload_n 3, 1) := dAX5_sendBack_2.2.2.2.2.2.1
theorem dX5_sendBack_34 : decode cX5_sendBack 34 = .ok (.iload 5, 2) := dAX5_sendBack_2.2.2.2.2.2.2.1
theorem dX5_sendBack_36 : decode cX5_sendBack 36 = .ok (.iadd, 1) := dAX5_sendBack_2.2.2.2.2.2.2.2
set_option maxRecDepth 100000 in
theorem dAX5_sendBack_3 : decode cX5_sendBack 37 = .ok (.iconst 1, 1) ∧ decode cX5_sendBack 38 = .ok (.iadd, 1) ∧ decode cX5_sendBack 39 = .ok (.iaload, 1) ∧ decode cX5_sendBack 40 = .ok (.iastore, 1) ∧ decode cX5_sendBack 41 = .ok (.iinc 5 1, 3) ∧ decode cX5_sendBack 44 = .ok (.goto (-29), 3) ∧ decode cX5_sendBack 47 = .ok (.aload_n 0, 1) ∧ decode cX5_sendBack 48 = .ok (.getfield 15, 3) := by decide +kernel
theorem dX5_sendBack_37 : decode cX5_sendBack 37 = .ok (.iconst 1, 1) := dAX5_sendBack_3.1
theorem dX5_sendBack_38 : decode cX5_sendBack 38 = .ok (.iadd, 1) := dAX5_sendBack_3.2.1
theorem dX5_sendBack_39 : decode cX5_sendBack 39 = .ok (.iaload, 1) := dAX5_sendBack_3.2.2.1
theorem dX5_sendBack_40 : decode cX5_sendBack 40 = .ok (.iastore, 1) := dAX5_sendBack_3.2.2.2.1
theorem dX5_sendBack_41 : decode cX5_sendBack 41 = .ok (.iinc 5 1, 3) := dAX5_sendBack_3.2.2.2.2.1
theorem dX5_sendBack_44 : decode cX5_sendBack 44 = .ok (.goto (-29), 3) := dAX5_sendBack_3.2.2.2.2.2.1
theorem dX5_sendBack_47 : decode cX5_sendBack 47 = .ok (.aload_n 0, 1) := dAX5_sendBack_3.2.2.2.2.2.2.1
theorem dX5_sendBack_48 : decode cX5_sendBack 48 = .ok (.getfield 15, 3) := dAX5_sendBack_3.2.2.2.2.2.2.2
set_option maxRecDepth 100000 in
theorem dAX5_sendBack_4 : decode cX5_sendBack 51 = .ok (.iload_n 3, 1) ∧ decode cX5_sendBack 52 = .ok (.iload_n 2, 1) ∧ decode cX5_sendBack 53 = .ok (.iadd, 1) ∧ decode cX5_sendBack 54 = .ok (.iload 4, 2) ∧ decode cX5_sendBack 56 = .ok (.iastore, 1) ∧ decode cX5_sendBack 57 = .ok (.return_, 1) := by decide +kernel
theorem dX5_sendBack_51 : decode cX5_sendBack 51 = .ok (.iload_n 3, 1) := dAX5_sendBack_4.1
theorem dX5_sendBack_52 : decode cX5_sendBack 52 = .ok (.iload_n 2, 1) := dAX5_sendBack_4.2.1
theorem dX5_sendBack_53 : decode cX5_sendBack 53 = .ok (.iadd, 1) := dAX5_sendBack_4.2.2.1
theorem dX5_sendBack_54 : decode cX5_sendBack 54 = .ok (.iload 4, 2) := dAX5_sendBack_4.2.2.2.1
theorem dX5_sendBack_56 : decode cX5_sendBack 56 = .ok (.iastore, 1) := dAX5_sendBack_4.2.2.2.2.1
theorem dX5_sendBack_57 : decode cX5_sendBack 57 = .ok (.return_, 1) := dAX5_sendBack_4.2.2.2.2.2
set_option maxRecDepth 100000 in
theorem dAX5_standAsTold_0 : decode cX5_standAsTold 0 = .ok (.iconst 0, 1) ∧ decode cX5_standAsTold 1 = .ok (.istore_n 2, 1) ∧ decode cX5_standAsTold 2 = .ok (.iload_n 2, 1) ∧ decode cX5_standAsTold 3 = .ok (.bipush 18, 2) ∧ decode cX5_standAsTold 5 = .ok (.if_icmp .ge 45, 3) ∧ decode cX5_standAsTold 8 = .ok (.aload_n 0, 1) ∧ decode cX5_standAsTold 9 = .ok (.getfield 9, 3) ∧ decode cX5_standAsTold 12 = .ok (.iload_n 2, 1) := by decide +kernel
theorem dX5_standAsTold_0 : decode cX5_standAsTold 0 = .ok (.iconst 0, 1) := dAX5_standAsTold_0.1
theorem dX5_standAsTold_1 : decode cX5_standAsTold 1 = .ok (.istore_n 2, 1) := dAX5_standAsTold_0.2.1
theorem dX5_standAsTold_2 : decode cX5_standAsTold 2 = .ok (.iload_n 2, 1) := dAX5_standAsTold_0.2.2.1
theorem dX5_standAsTold_3 : decode cX5_standAsTold 3 = .ok (.bipush 18, 2) := dAX5_standAsTold_0.2.2.2.1
theorem dX5_standAsTold_5 : decode cX5_standAsTold 5 = .ok (.if_icmp .ge 45, 3) := dAX5_standAsTold_0.2.2.2.2.1
theorem dX5_standAsTold_8 : decode cX5_standAsTold 8 = .ok (.aload_n 0, 1) := dAX5_standAsTold_0.2.2.2.2.2.1
theorem dX5_standAsTold_9 : decode cX5_standAsTold 9 = .ok (.getfield 9, 3) := dAX5_standAsTold_0.2.2.2.2.2.2.1
theorem dX5_standAsTold_12 : decode cX5_standAsTold 12 = .ok (.iload_n 2, 1) := dAX5_standAsTold_0.2.2.2.2.2.2.2
set_option maxRecDepth 100000 in
theorem dAX5_standAsTold_1 : decode cX5_standAsTold 13 = .ok (.aload_n 1, 1) ∧ decode cX5_standAsTold 14 = .ok (.getfield 21, 3) ∧ decode cX5_standAsTold 17 = .ok (.iload_n 2, 1) ∧ decode cX5_standAsTold 18 = .ok (.iaload, 1) ∧ decode cX5_standAsTold 19 = .ok (.iastore, 1) ∧ decode cX5_standAsTold 20 = .ok (.iconst 0, 1) ∧ decode cX5_standAsTold 21 = .ok (.istore_n 3, 1) ∧ decode cX5_standAsTold 22 = .ok (.iload_n 3, 1) := by decide +kernel
theorem dX5_standAsTold_13 : decode cX5_standAsTold 13 = .ok (.aload_n 1, 1) := dAX5_standAsTold_1.1
theorem dX5_standAsTold_14 : decode cX5_standAsTold 14 = .ok (.getfield 21, 3) := dAX5_standAsTold_1.2.1
theorem dX5_standAsTold_17 : decode cX5_standAsTold 17 = .ok (.iload_n 2, 1) := dAX5_standAsTold_1.2.2.1
theorem dX5_standAsTold_18 : decode cX5_standAsTold 18 = .ok (.iaload, 1) := dAX5_standAsTold_1.2.2.2.1
theorem dX5_standAsTold_19 : decode cX5_standAsTold 19 = .ok (.iastore, 1) := dAX5_standAsTold_1.2.2.2.2.1
theorem dX5_standAsTold_20 : decode cX5_standAsTold 20 = .ok (.iconst 0, 1) := dAX5_standAsTold_1.2.2.2.2.2.1
theorem dX5_standAsTold_21 : decode cX5_standAsTold 21 = .ok (.istore_n 3, 1) := dAX5_standAsTold_1.2.2.2.2.2.2.1
theorem dX5_standAsTold_22 : decode cX5_standAsTold 22 = .ok (.iload_n 3, 1) := dAX5_standAsTold_1.2.2.2.2.2.2.2
set_option maxRecDepth 100000 in
theorem dAX5_standAsTold_2 : decode cX5_standAsTold 23 = .ok (.iconst 4, 1) ∧ decode cX5_standAsTold 24 = .ok (.if_icmp .ge 20, 3) ∧ decode cX5_standAsTold 27 = .ok (.aload_n 0, 1) ∧ decode cX5_standAsTold 28 = .ok (.getfield 15, 3) ∧ decode cX5_standAsTold 31 = .ok (.iload_n 2, 1) ∧ decode cX5_standAsTold 32 = .ok (.iconst 4, 1) ∧ decode cX5_standAsTold 33 = .ok (.imul, 1) ∧ decode cX5_standAsTold 34 = .ok (.iload_n 3, 1) := by decide +kernel
theorem dX5_standAsTold_23 : decode cX5_standAsTold 23 = .ok (.iconst 4, 1) := dAX5_standAsTold_2.1
theorem dX5_standAsTold_24 : decode cX5_standAsTold 24 = .ok (.if_icmp .ge 20, 3) := dAX5_standAsTold_2.2.1
theorem dX5_standAsTold_27 : decode cX5_standAsTold 27 = .ok (.aload_n 0, 1) := dAX5_standAsTold_2.2.2.1
theorem dX5_standAsTold_28 : decode cX5_standAsTold 28 = .ok (.getfield 15, 3) := dAX5_standAsTold_2.2.2.2.1
theorem dX5_standAsTold_31 : decode cX5_standAsTold 31 = .ok (.iload_n 2, 1) := dAX5_standAsTold_2.2.2.2.2.1
theorem dX5_standAsTold_32 : decode cX5_standAsTold 32 = .ok (.iconst 4, 1) := dAX5_standAsTold_2.2.2.2.2.2.1
theorem dX5_standAsTold_33 : decode cX5_standAsTold 33 = .ok (.imul, 1) := dAX5_standAsTold_2.2.2.2.2.2.2.1
theorem dX5_standAsTold_34 : decode cX5_standAsTold 34 = .ok (.iload_n 3, 1) := dAX5_standAsTold_2.2.2.2.2.2.2.2
set_option maxRecDepth 100000 in
theorem dAX5_standAsTold_3 : decode cX5_standAsTold 35 = .ok (.iadd, 1) ∧ decode cX5_standAsTold 36 = .ok (.iload_n 3, 1) ∧ decode cX5_standAsTold 37 = .ok (.iastore, 1) ∧ decode cX5_standAsTold 38 = .ok (.iinc 3 1, 3) ∧ decode cX5_standAsTold 41 = .ok (.goto (-19), 3) ∧ decode cX5_standAsTold 44 = .ok (.iinc 2 1, 3) ∧ decode cX5_standAsTold 47 = .ok (.goto (-45), 3) ∧ decode cX5_standAsTold 50 = .ok (.return_, 1) := by decide +kernel
theorem dX5_standAsTold_35 : decode cX5_standAsTold 35 = .ok (.iadd, 1) := dAX5_standAsTold_3.1
theorem dX5_standAsTold_36 : decode cX5_standAsTold 36 = .ok (.iload_n 3, 1) := dAX5_standAsTold_3.2.1
theorem dX5_standAsTold_37 : decode cX5_standAsTold 37 = .ok (.iastore, 1) := dAX5_standAsTold_3.2.2.1
theorem dX5_standAsTold_38 : decode cX5_standAsTold 38 = .ok (.iinc 3 1, 3) := dAX5_standAsTold_3.2.2.2.1
theorem dX5_standAsTold_41 : decode cX5_standAsTold 41 = .ok (.goto (-19), 3) := dAX5_standAsTold_3.2.2.2.2.1
theorem dX5_standAsTold_44 : decode cX5_standAsTold 44 = .ok (.iinc 2 1, 3) := dAX5_standAsTold_3.2.2.2.2.2.1
theorem dX5_standAsTold_47 : decode cX5_standAsTold 47 = .ok (.goto (-45), 3) := dAX5_standAsTold_3.2.2.2.2.2.2.1
theorem dX5_standAsTold_50 : decode cX5_standAsTold 50 = .ok (.return_, 1) := dAX5_standAsTold_3.2.2.2.2.2.2.2
set_option maxRecDepth 100000 in
theorem dAX5_turnRound_0 : decode cX5_turnRound 0 = .ok (.iload_n 2, 1) ∧ decode cX5_turnRound 1 = .ok (.iconst 4, 1) ∧ decode cX5_turnRound 2 = .ok (.imul, 1) ∧ decode cX5_turnRound 3 = .ok (.istore 5, 2) ∧ decode cX5_turnRound 5 = .ok (.iconst 0, 1) ∧ decode cX5_turnRound 6 = .ok (.istore 6, 2) ∧ decode cX5_turnRound 8 = .ok (.iload 6, 2) ∧ decode cX5_turnRound 10 = .ok (.iload_n 3, 1) := by decide +kernel
theorem dX5_turnRound_0 : decode cX5_turnRound 0 = .ok (.iload_n 2, 1) := dAX5_turnRound_0.1
theorem dX5_turnRound_1 : decode cX5_turnRound 1 = .ok (.iconst 4, 1) := dAX5_turnRound_0.2.1
theorem dX5_turnRound_2 : decode cX5_turnRound 2 = .ok (.imul, 1) := dAX5_turnRound_0.2.2.1
theorem dX5_turnRound_3 : decode cX5_turnRound 3 = .ok (.istore 5, 2) := dAX5_turnRound_0.2.2.2.1
theorem dX5_turnRound_5 : decode cX5_turnRound 5 = .ok (.iconst 0, 1) := dAX5_turnRound_0.2.2.2.2.1
theorem dX5_turnRound_6 : decode cX5_turnRound 6 = .ok (.istore 6, 2) := dAX5_turnRound_0.2.2.2.2.2.1
theorem dX5_turnRound_8 : decode cX5_turnRound 8 = .ok (.iload 6, 2) := dAX5_turnRound_0.2.2.2.2.2.2.1
theorem dX5_turnRound_10 : decode cX5_turnRound 10 = .ok (.iload_n 3, 1) := dAX5_turnRound_0.2.2.2.2.2.2.2
set_option maxRecDepth 100000 in
theorem dAX5_turnRound_1 : decode cX5_turnRound 11 = .ok (.if_icmp .ge 49, 3) ∧ decode cX5_turnRound 14 = .ok (.iload 6, 2) ∧ decode cX5_turnRound 16 = .ok (.iload 4, 2) ∧ decode cX5_turnRound 18 = .ok (.iadd, 1) ∧ decode cX5_turnRound 19 = .ok (.istore 7, 2) ∧ decode cX5_turnRound 21 = .ok (.aload_n 0, 1) ∧ decode cX5_turnRound 22 = .ok (.getfield 15, 3) ∧ decode cX5_turnRound 25 = .ok (.iload 5, 2) := by decide +kernel
theorem dX5_turnRound_11 : decode cX5_turnRound 11 = .ok (.if_icmp .ge 49, 3) := dAX5_turnRound_1.1
theorem dX5_turnRound_14 : decode cX5_turnRound 14 = .ok (.iload 6, 2) := dAX5_turnRound_1.2.1
theorem dX5_turnRound_16 : decode cX5_turnRound 16 = .ok (.iload 4, 2) := dAX5_turnRound_1.2.2.1
theorem dX5_turnRound_18 : decode cX5_turnRound 18 = .ok (.iadd, 1) := dAX5_turnRound_1.2.2.2.1
theorem dX5_turnRound_19 : decode cX5_turnRound 19 = .ok (.istore 7, 2) := dAX5_turnRound_1.2.2.2.2.1
theorem dX5_turnRound_21 : decode cX5_turnRound 21 = .ok (.aload_n 0, 1) := dAX5_turnRound_1.2.2.2.2.2.1
theorem dX5_turnRound_22 : decode cX5_turnRound 22 = .ok (.getfield 15, 3) := dAX5_turnRound_1.2.2.2.2.2.2.1
theorem dX5_turnRound_25 : decode cX5_turnRound 25 = .ok (.iload 5, 2) := dAX5_turnRound_1.2.2.2.2.2.2.2
set_option maxRecDepth 100000 in
theorem dAX5_turnRound_2 : decode cX5_turnRound 27 = .ok (.iload 6, 2) ∧ decode cX5_turnRound 29 = .ok (.iadd, 1) ∧ decode cX5_turnRound 30 = .ok (.aload_n 1, 1) ∧ decode cX5_turnRound 31 = .ok (.getfield 15, 3) ∧ decode cX5_turnRound 34 = .ok (.iload 5, 2) ∧ decode cX5_turnRound 36 = .ok (.iload 7, 2) ∧ decode cX5_turnRound 38 = .ok (.iload_n 3, 1) ∧ decode cX5_turnRound 39 = .ok (.if_icmp .ge 8, 3) := by decide +kernel
theorem dX5_turnRound_27 : decode cX5_turnRound 27 = .ok (.iload 6, 2) := dAX5_turnRound_2.1
theorem dX5_turnRound_29 : decode cX5_turnRound 29 = .ok (.iadd, 1) := dAX5_turnRound_2.2.1
theorem dX5_turnRound_30 : decode cX5_turnRound 30 = .ok (.aload_n 1, 1) := dAX5_turnRound_2.2.2.1
theorem dX5_turnRound_31 : decode cX5_turnRound 31 = .ok (.getfield 15, 3) := dAX5_turnRound_2.2.2.2.1
theorem dX5_turnRound_34 : decode cX5_turnRound 34 = .ok (.iload 5, 2) := dAX5_turnRound_2.2.2.2.2.1
theorem dX5_turnRound_36 : decode cX5_turnRound 36 = .ok (.iload 7, 2) := dAX5_turnRound_2.2.2.2.2.2.1
theorem dX5_turnRound_38 : decode cX5_turnRound 38 = .ok (.iload_n 3, 1) := dAX5_turnRound_2.2.2.2.2.2.2.1
theorem dX5_turnRound_39 : decode cX5_turnRound 39 = .ok (.if_icmp .ge 8, 3) := dAX5_turnRound_2.2.2.2.2.2.2.2
set_option maxRecDepth 100000 in
theorem dAX5_turnRound_3 : decode cX5_turnRound 42 = .ok (.iload 7, 2) ∧ decode cX5_turnRound 44 = .ok (.goto 7, 3) ∧ decode cX5_turnRound 47 = .ok (.iload 7, 2) ∧ decode cX5_turnRound 49 = .ok (.iload_n 3, 1) ∧ decode cX5_turnRound 50 = .ok (.isub, 1) ∧ decode cX5_turnRound 51 = .ok (.iadd, 1) ∧ decode cX5_turnRound 52 = .ok (.iaload, 1) ∧ decode cX5_turnRound 53 = .ok (.iastore, 1) := by decide +kernel
theorem dX5_turnRound_42 : decode cX5_turnRound 42 = .ok (.iload 7, 2) := dAX5_turnRound_3.1
theorem dX5_turnRound_44 : decode cX5_turnRound 44 = .ok (.goto 7, 3) := dAX5_turnRound_3.2.1
theorem dX5_turnRound_47 : decode cX5_turnRound 47 = .ok (.iload 7, 2) := dAX5_turnRound_3.2.2.1
theorem dX5_turnRound_49 : decode cX5_turnRound 49 = .ok (.iload_n 3, 1) := dAX5_turnRound_3.2.2.2.1
theorem dX5_turnRound_50 : decode cX5_turnRound 50 = .ok (.isub, 1) := dAX5_turnRound_3.2.2.2.2.1
theorem dX5_turnRound_51 : decode cX5_turnRound 51 = .ok (.iadd, 1) := dAX5_turnRound_3.2.2.2.2.2.1
theorem dX5_turnRound_52 : decode cX5_turnRound 52 = .ok (.iaload, 1) := dAX5_turnRound_3.2.2.2.2.2.2.1
theorem dX5_turnRound_53 : decode cX5_turnRound 53 = .ok (.iastore, 1) := dAX5_turnRound_3.2.2.2.2.2.2.2
set_option maxRecDepth 100000 in
theorem dAX5_turnRound_4 : decode cX5_turnRound 54 = .ok (.iinc 6 1, 3) ∧ decode cX5_turnRound 57 = .ok (.goto (-49), 3) ∧ decode cX5_turnRound 60 = .ok (.return_, 1) := by decide +kernel
theorem dX5_turnRound_54 : decode cX5_turnRound 54 = .ok (.iinc 6 1, 3) := dAX5_turnRound_4.1
theorem dX5_turnRound_57 : decode cX5_turnRound 57 = .ok (.goto (-49), 3) := dAX5_turnRound_4.2.1
theorem dX5_turnRound_60 : decode cX5_turnRound 60 = .ok (.return_, 1) := dAX5_turnRound_4.2.2
set_option maxRecDepth 100000 in
theorem dAX5_weightAt_0 : decode cX5_weightAt 0 = .ok (.aload_n 1, 1) ∧ decode cX5_weightAt 1 = .ok (.getfield 35, 3) ∧ decode cX5_weightAt 4 = .ok (.iload_n 2, 1) ∧ decode cX5_weightAt 5 = .ok (.iconst 4, 1) ∧ decode cX5_weightAt 6 = .ok (.imul, 1) ∧ decode cX5_weightAt 7 = .ok (.aload_n 0, 1) ∧ decode cX5_weightAt 8 = .ok (.getfield 15, 3) ∧ decode cX5_weightAt 11 = .ok (.iload_n 2, 1) := by decide +kernel
theorem dX5_weightAt_0 : decode cX5_weightAt 0 = .ok (.aload_n 1, 1) := dAX5_weightAt_0.1
theorem dX5_weightAt_1 : decode cX5_weightAt 1 = .ok (.getfield 35, 3) := dAX5_weightAt_0.2.1
theorem dX5_weightAt_4 : decode cX5_weightAt 4 = .ok (.iload_n 2, 1) := dAX5_weightAt_0.2.2.1
theorem dX5_weightAt_5 : decode cX5_weightAt 5 = .ok (.iconst 4, 1) := dAX5_weightAt_0.2.2.2.1
theorem dX5_weightAt_6 : decode cX5_weightAt 6 = .ok (.imul, 1) := dAX5_weightAt_0.2.2.2.2.1
theorem dX5_weightAt_7 : decode cX5_weightAt 7 = .ok (.aload_n 0, 1) := dAX5_weightAt_0.2.2.2.2.2.1
theorem dX5_weightAt_8 : decode cX5_weightAt 8 = .ok (.getfield 15, 3) := dAX5_weightAt_0.2.2.2.2.2.2.1
theorem dX5_weightAt_11 : decode cX5_weightAt 11 = .ok (.iload_n 2, 1) := dAX5_weightAt_0.2.2.2.2.2.2.2
set_option maxRecDepth 100000 in
theorem dAX5_weightAt_1 : decode cX5_weightAt 12 = .ok (.iconst 4, 1) ∧ decode cX5_weightAt 13 = .ok (.imul, 1) ∧ decode cX5_weightAt 14 = .ok (.iload_n 3, 1) ∧ decode cX5_weightAt 15 = .ok (.iadd, 1) ∧ decode cX5_weightAt 16 = .ok (.iaload, 1) ∧ decode cX5_weightAt 17 = .ok (.iadd, 1) ∧ decode cX5_weightAt 18 = .ok (.iaload, 1) ∧ decode cX5_weightAt 19 = .ok (.ireturn, 1) := by decide +kernel
theorem dX5_weightAt_12 : decode cX5_weightAt 12 = .ok (.iconst 4, 1) := dAX5_weightAt_1.1
theorem dX5_weightAt_13 : decode cX5_weightAt 13 = .ok (.imul, 1) := dAX5_weightAt_1.2.1
theorem dX5_weightAt_14 : decode cX5_weightAt 14 = .ok (.iload_n 3, 1) := dAX5_weightAt_1.2.2.1
theorem dX5_weightAt_15 : decode cX5_weightAt 15 = .ok (.iadd, 1) := dAX5_weightAt_1.2.2.2.1
theorem dX5_weightAt_16 : decode cX5_weightAt 16 = .ok (.iaload, 1) := dAX5_weightAt_1.2.2.2.2.1
theorem dX5_weightAt_17 : decode cX5_weightAt 17 = .ok (.iadd, 1) := dAX5_weightAt_1.2.2.2.2.2.1
theorem dX5_weightAt_18 : decode cX5_weightAt 18 = .ok (.iaload, 1) := dAX5_weightAt_1.2.2.2.2.2.2.1
theorem dX5_weightAt_19 : decode cX5_weightAt 19 = .ok (.ireturn, 1) := dAX5_weightAt_1.2.2.2.2.2.2.2
