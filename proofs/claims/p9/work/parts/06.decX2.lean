set_option maxRecDepth 100000 in
theorem dAX2_aboveAll_0 : decode cX2_aboveAll 0 = .ok (.bipush 100, 2) ∧ decode cX2_aboveAll 2 = .ok (.aload_n 0, 1) ∧ decode cX2_aboveAll 3 = .ok (.getfield 18, 3) ∧ decode cX2_aboveAll 6 = .ok (.imul, 1) ∧ decode cX2_aboveAll 7 = .ok (.ireturn, 1) := by decide +kernel
theorem dX2_aboveAll_0 : decode cX2_aboveAll 0 = .ok (.bipush 100, 2) := dAX2_aboveAll_0.1
theorem dX2_aboveAll_2 : decode cX2_aboveAll 2 = .ok (.aload_n 0, 1) := dAX2_aboveAll_0.2.1
theorem dX2_aboveAll_3 : decode cX2_aboveAll 3 = .ok (.getfield 18, 3) := dAX2_aboveAll_0.2.2.1
theorem dX2_aboveAll_6 : decode cX2_aboveAll 6 = .ok (.imul, 1) := dAX2_aboveAll_0.2.2.2.1
theorem dX2_aboveAll_7 : decode cX2_aboveAll 7 = .ok (.ireturn, 1) := dAX2_aboveAll_0.2.2.2.2
set_option maxRecDepth 100000 in
theorem dAX2_askByHalves_0 : decode cX2_askByHalves 0 = .ok (.aload_n 0, 1) ∧ decode cX2_askByHalves 1 = .ok (.iconst 0, 1) ∧ decode cX2_askByHalves 2 = .ok (.putfield 51, 3) ∧ decode cX2_askByHalves 5 = .ok (.aload_n 0, 1) ∧ decode cX2_askByHalves 6 = .ok (.iconst 0, 1) ∧ decode cX2_askByHalves 7 = .ok (.putfield 54, 3) ∧ decode cX2_askByHalves 10 = .ok (.iconst 0, 1) ∧ decode cX2_askByHalves 11 = .ok (.istore_n 3, 1) := by decide +kernel
theorem dX2_askByHalves_0 : decode cX2_askByHalves 0 = .ok (.aload_n 0, 1) := dAX2_askByHalves_0.1
theorem dX2_askByHalves_1 : decode cX2_askByHalves 1 = .ok (.iconst 0, 1) := dAX2_askByHalves_0.2.1
theorem dX2_askByHalves_2 : decode cX2_askByHalves 2 = .ok (.putfield 51, 3) := dAX2_askByHalves_0.2.2.1
theorem dX2_askByHalves_5 : decode cX2_askByHalves 5 = .ok (.aload_n 0, 1) := dAX2_askByHalves_0.2.2.2.1
theorem dX2_askByHalves_6 : decode cX2_askByHalves 6 = .ok (.iconst 0, 1) := dAX2_askByHalves_0.2.2.2.2.1
theorem dX2_askByHalves_7 : decode cX2_askByHalves 7 = .ok (.putfield 54, 3) := dAX2_askByHalves_0.2.2.2.2.2.1
theorem dX2_askByHalves_10 : decode cX2_askByHalves 10 = .ok (.iconst 0, 1) := dAX2_askByHalves_0.2.2.2.2.2.2.1
theorem dX2_askByHalves_11 : decode cX2_askByHalves 11 = .ok (.istore_n 3, 1) := dAX2_askByHalves_0.2.2.2.2.2.2.2
set_option maxRecDepth 100000 in
theorem dAX2_askByHalves_1 : decode cX2_askByHalves 12 = .ok (.bipush 99, 2) ∧ decode cX2_askByHalves 14 = .ok (.istore 4, 2) ∧ decode cX2_askByHalves 16 = .ok (.iconst 0, 1) ∧ decode cX2_askByHalves 17 = .ok (.istore 5, 2) ∧ decode cX2_askByHalves 19 = .ok (.iload 5, 2) ∧ decode cX2_askByHalves 21 = .ok (.bipush 99, 2) ∧ decode cX2_askByHalves 23 = .ok (.if_icmp .ge 71, 3) ∧ decode cX2_askByHalves 26 = .ok (.iload_n 3, 1) := by decide +kernel
theorem dX2_askByHalves_12 : decode cX2_askByHalves 12 = .ok (.bipush 99, 2) := dAX2_askByHalves_1.1
theorem dX2_askByHalves_14 : decode cX2_askByHalves 14 = .ok (.istore 4, 2) := dAX2_askByHalves_1.2.1
theorem dX2_askByHalves_16 : decode cX2_askByHalves 16 = .ok (.iconst 0, 1) := dAX2_askByHalves_1.2.2.1
theorem dX2_askByHalves_17 : decode cX2_askByHalves 17 = .ok (.istore 5, 2) := dAX2_askByHalves_1.2.2.2.1
theorem dX2_askByHalves_19 : decode cX2_askByHalves 19 = .ok (.iload 5, 2) := dAX2_askByHalves_1.2.2.2.2.1
theorem dX2_askByHalves_21 : decode cX2_askByHalves 21 = .ok (.bipush 99, 2) := dAX2_askByHalves_1.2.2.2.2.2.1
theorem dX2_askByHalves_23 : decode cX2_askByHalves 23 = .ok (.if_icmp .ge 71, 3) := dAX2_askByHalves_1.2.2.2.2.2.2.1
theorem dX2_askByHalves_26 : decode cX2_askByHalves 26 = .ok (.iload_n 3, 1) := dAX2_askByHalves_1.2.2.2.2.2.2.2
set_option maxRecDepth 100000 in
theorem dAX2_askByHalves_2 : decode cX2_askByHalves 27 = .ok (.iload 4, 2) ∧ decode cX2_askByHalves 29 = .ok (.if_icmp .ge 65, 3) ∧ decode cX2_askByHalves 32 = .ok (.iload_n 3, 1) ∧ decode cX2_askByHalves 33 = .ok (.iload 4, 2) ∧ decode cX2_askByHalves 35 = .ok (.iadd, 1) ∧ decode cX2_askByHalves 36 = .ok (.iconst 1, 1) ∧ decode cX2_askByHalves 37 = .ok (.iadd, 1) ∧ decode cX2_askByHalves 38 = .ok (.iconst 2, 1) := by decide +kernel
theorem dX2_askByHalves_27 : decode cX2_askByHalves 27 = .ok (.iload 4, 2) := dAX2_askByHalves_2.1
theorem dX2_askByHalves_29 : decode cX2_askByHalves 29 = .ok (.if_icmp .ge 65, 3) := dAX2_askByHalves_2.2.1
theorem dX2_askByHalves_32 : decode cX2_askByHalves 32 = .ok (.iload_n 3, 1) := dAX2_askByHalves_2.2.2.1
theorem dX2_askByHalves_33 : decode cX2_askByHalves 33 = .ok (.iload 4, 2) := dAX2_askByHalves_2.2.2.2.1
theorem dX2_askByHalves_35 : decode cX2_askByHalves 35 = .ok (.iadd, 1) := dAX2_askByHalves_2.2.2.2.2.1
theorem dX2_askByHalves_36 : decode cX2_askByHalves 36 = .ok (.iconst 1, 1) := dAX2_askByHalves_2.2.2.2.2.2.1
theorem dX2_askByHalves_37 : decode cX2_askByHalves 37 = .ok (.iadd, 1) := dAX2_askByHalves_2.2.2.2.2.2.2.1
theorem dX2_askByHalves_38 : decode cX2_askByHalves 38 = .ok (.iconst 2, 1) := dAX2_askByHalves_2.2.2.2.2.2.2.2
set_option maxRecDepth 100000 in
theorem dAX2_askByHalves_3 : decode cX2_askByHalves 39 = .ok (.idiv, 1) ∧ decode cX2_askByHalves 40 = .ok (.istore 6, 2) ∧ decode cX2_askByHalves 42 = .ok (.aload_n 0, 1) ∧ decode cX2_askByHalves 43 = .ok (.aload_n 1, 1) ∧ decode cX2_askByHalves 44 = .ok (.aload_n 2, 1) ∧ decode cX2_askByHalves 45 = .ok (.iload 6, 2) ∧ decode cX2_askByHalves 47 = .ok (.invokevirtual 57, 3) ∧ decode cX2_askByHalves 50 = .ok (.ifCond .eq 9, 3) := by decide +kernel
theorem dX2_askByHalves_39 : decode cX2_askByHalves 39 = .ok (.idiv, 1) := dAX2_askByHalves_3.1
theorem dX2_askByHalves_40 : decode cX2_askByHalves 40 = .ok (.istore 6, 2) := dAX2_askByHalves_3.2.1
theorem dX2_askByHalves_42 : decode cX2_askByHalves 42 = .ok (.aload_n 0, 1) := dAX2_askByHalves_3.2.2.1
theorem dX2_askByHalves_43 : decode cX2_askByHalves 43 = .ok (.aload_n 1, 1) := dAX2_askByHalves_3.2.2.2.1
theorem dX2_askByHalves_44 : decode cX2_askByHalves 44 = .ok (.aload_n 2, 1) := dAX2_askByHalves_3.2.2.2.2.1
theorem dX2_askByHalves_45 : decode cX2_askByHalves 45 = .ok (.iload 6, 2) := dAX2_askByHalves_3.2.2.2.2.2.1
theorem dX2_askByHalves_47 : decode cX2_askByHalves 47 = .ok (.invokevirtual 57, 3) := dAX2_askByHalves_3.2.2.2.2.2.2.1
theorem dX2_askByHalves_50 : decode cX2_askByHalves 50 = .ok (.ifCond .eq 9, 3) := dAX2_askByHalves_3.2.2.2.2.2.2.2
set_option maxRecDepth 100000 in
theorem dAX2_askByHalves_4 : decode cX2_askByHalves 53 = .ok (.iload 6, 2) ∧ decode cX2_askByHalves 55 = .ok (.istore_n 3, 1) ∧ decode cX2_askByHalves 56 = .ok (.goto 9, 3) ∧ decode cX2_askByHalves 59 = .ok (.iload 6, 2) ∧ decode cX2_askByHalves 61 = .ok (.iconst 1, 1) ∧ decode cX2_askByHalves 62 = .ok (.isub, 1) ∧ decode cX2_askByHalves 63 = .ok (.istore 4, 2) ∧ decode cX2_askByHalves 65 = .ok (.aload_n 0, 1) := by decide +kernel
theorem dX2_askByHalves_53 : decode cX2_askByHalves 53 = .ok (.iload 6, 2) := dAX2_askByHalves_4.1
theorem dX2_askByHalves_55 : decode cX2_askByHalves 55 = .ok (.istore_n 3, 1) := dAX2_askByHalves_4.2.1
theorem dX2_askByHalves_56 : decode cX2_askByHalves 56 = .ok (.goto 9, 3) := dAX2_askByHalves_4.2.2.1
theorem dX2_askByHalves_59 : decode cX2_askByHalves 59 = .ok (.iload 6, 2) := dAX2_askByHalves_4.2.2.2.1
theorem dX2_askByHalves_61 : decode cX2_askByHalves 61 = .ok (.iconst 1, 1) := dAX2_askByHalves_4.2.2.2.2.1
theorem dX2_askByHalves_62 : decode cX2_askByHalves 62 = .ok (.isub, 1) := dAX2_askByHalves_4.2.2.2.2.2.1
theorem dX2_askByHalves_63 : decode cX2_askByHalves 63 = .ok (.istore 4, 2) := dAX2_askByHalves_4.2.2.2.2.2.2.1
theorem dX2_askByHalves_65 : decode cX2_askByHalves 65 = .ok (.aload_n 0, 1) := dAX2_askByHalves_4.2.2.2.2.2.2.2
set_option maxRecDepth 100000 in
theorem dAX2_askByHalves_5 : decode cX2_askByHalves 66 = .ok (.dup, 1) ∧ decode cX2_askByHalves 67 = .ok (.getfield 51, 3) ∧ decode cX2_askByHalves 70 = .ok (.aload_n 0, 1) ∧ decode cX2_askByHalves 71 = .ok (.getfield 24, 3) ∧ decode cX2_askByHalves 74 = .ok (.iadd, 1) ∧ decode cX2_askByHalves 75 = .ok (.putfield 51, 3) ∧ decode cX2_askByHalves 78 = .ok (.aload_n 0, 1) ∧ decode cX2_askByHalves 79 = .ok (.dup, 1) := by decide +kernel
theorem dX2_askByHalves_66 : decode cX2_askByHalves 66 = .ok (.dup, 1) := dAX2_askByHalves_5.1
theorem dX2_askByHalves_67 : decode cX2_askByHalves 67 = .ok (.getfield 51, 3) := dAX2_askByHalves_5.2.1
theorem dX2_askByHalves_70 : decode cX2_askByHalves 70 = .ok (.aload_n 0, 1) := dAX2_askByHalves_5.2.2.1
theorem dX2_askByHalves_71 : decode cX2_askByHalves 71 = .ok (.getfield 24, 3) := dAX2_askByHalves_5.2.2.2.1
theorem dX2_askByHalves_74 : decode cX2_askByHalves 74 = .ok (.iadd, 1) := dAX2_askByHalves_5.2.2.2.2.1
theorem dX2_askByHalves_75 : decode cX2_askByHalves 75 = .ok (.putfield 51, 3) := dAX2_askByHalves_5.2.2.2.2.2.1
theorem dX2_askByHalves_78 : decode cX2_askByHalves 78 = .ok (.aload_n 0, 1) := dAX2_askByHalves_5.2.2.2.2.2.2.1
theorem dX2_askByHalves_79 : decode cX2_askByHalves 79 = .ok (.dup, 1) := dAX2_askByHalves_5.2.2.2.2.2.2.2
set_option maxRecDepth 100000 in
theorem dAX2_askByHalves_6 : decode cX2_askByHalves 80 = .ok (.getfield 54, 3) ∧ decode cX2_askByHalves 83 = .ok (.iconst 1, 1) ∧ decode cX2_askByHalves 84 = .ok (.iadd, 1) ∧ decode cX2_askByHalves 85 = .ok (.putfield 54, 3) ∧ decode cX2_askByHalves 88 = .ok (.iinc 5 1, 3) ∧ decode cX2_askByHalves 91 = .ok (.goto (-72), 3) ∧ decode cX2_askByHalves 94 = .ok (.return_, 1) := by decide +kernel
theorem dX2_askByHalves_80 : decode cX2_askByHalves 80 = .ok (.getfield 54, 3) := dAX2_askByHalves_6.1
theorem dX2_askByHalves_83 : decode cX2_askByHalves 83 = .ok (.iconst 1, 1) := dAX2_askByHalves_6.2.1
theorem dX2_askByHalves_84 : decode cX2_askByHalves 84 = .ok (.iadd, 1) := dAX2_askByHalves_6.2.2.1
theorem dX2_askByHalves_85 : decode cX2_askByHalves 85 = .ok (.putfield 54, 3) := dAX2_askByHalves_6.2.2.2.1
theorem dX2_askByHalves_88 : decode cX2_askByHalves 88 = .ok (.iinc 5 1, 3) := dAX2_askByHalves_6.2.2.2.2.1
theorem dX2_askByHalves_91 : decode cX2_askByHalves 91 = .ok (.goto (-72), 3) := dAX2_askByHalves_6.2.2.2.2.2.1
theorem dX2_askByHalves_94 : decode cX2_askByHalves 94 = .ok (.return_, 1) := dAX2_askByHalves_6.2.2.2.2.2.2
set_option maxRecDepth 100000 in
theorem dAX2_asked_0 : decode cX2_asked 0 = .ok (.aload_n 0, 1) ∧ decode cX2_asked 1 = .ok (.invokevirtual 33, 3) ∧ decode cX2_asked 4 = .ok (.aload_n 0, 1) ∧ decode cX2_asked 5 = .ok (.aload_n 1, 1) ∧ decode cX2_asked 6 = .ok (.aload_n 2, 1) ∧ decode cX2_asked 7 = .ok (.aload_n 1, 1) ∧ decode cX2_asked 8 = .ok (.getfield 36, 3) ∧ decode cX2_asked 11 = .ok (.iload_n 3, 1) := by decide +kernel
theorem dX2_asked_0 : decode cX2_asked 0 = .ok (.aload_n 0, 1) := dAX2_asked_0.1
theorem dX2_asked_1 : decode cX2_asked 1 = .ok (.invokevirtual 33, 3) := dAX2_asked_0.2.1
theorem dX2_asked_4 : decode cX2_asked 4 = .ok (.aload_n 0, 1) := dAX2_asked_0.2.2.1
theorem dX2_asked_5 : decode cX2_asked 5 = .ok (.aload_n 1, 1) := dAX2_asked_0.2.2.2.1
theorem dX2_asked_6 : decode cX2_asked 6 = .ok (.aload_n 2, 1) := dAX2_asked_0.2.2.2.2.1
theorem dX2_asked_7 : decode cX2_asked 7 = .ok (.aload_n 1, 1) := dAX2_asked_0.2.2.2.2.2.1
theorem dX2_asked_8 : decode cX2_asked 8 = .ok (.getfield 36, 3) := dAX2_asked_0.2.2.2.2.2.2.1
theorem dX2_asked_11 : decode cX2_asked 11 = .ok (.iload_n 3, 1) := dAX2_asked_0.2.2.2.2.2.2.2
set_option maxRecDepth 100000 in
theorem dAX2_asked_1 : decode cX2_asked 12 = .ok (.aload_n 1, 1) ∧ decode cX2_asked 13 = .ok (.getfield 18, 3) ∧ decode cX2_asked 16 = .ok (.imul, 1) ∧ decode cX2_asked 17 = .ok (.iconst 0, 1) ∧ decode cX2_asked 18 = .ok (.invokevirtual 47, 3) ∧ decode cX2_asked 21 = .ok (.ireturn, 1) := by decide +kernel
theorem dX2_asked_12 : decode cX2_asked 12 = .ok (.aload_n 1, 1) := dAX2_asked_1.1
theorem dX2_asked_13 : decode cX2_asked 13 = .ok (.getfield 18, 3) := dAX2_asked_1.2.1
theorem dX2_asked_16 : decode cX2_asked 16 = .ok (.imul, 1) := dAX2_asked_1.2.2.1
theorem dX2_asked_17 : decode cX2_asked 17 = .ok (.iconst 0, 1) := dAX2_asked_1.2.2.2.1
theorem dX2_asked_18 : decode cX2_asked 18 = .ok (.invokevirtual 47, 3) := dAX2_asked_1.2.2.2.2.1
theorem dX2_asked_21 : decode cX2_asked 21 = .ok (.ireturn, 1) := dAX2_asked_1.2.2.2.2.2
set_option maxRecDepth 100000 in
theorem dAX2_begin_0 : decode cX2_begin 0 = .ok (.aload_n 0, 1) ∧ decode cX2_begin 1 = .ok (.iconst 0, 1) ∧ decode cX2_begin 2 = .ok (.putfield 24, 3) ∧ decode cX2_begin 5 = .ok (.aload_n 0, 1) ∧ decode cX2_begin 6 = .ok (.iconst 0, 1) ∧ decode cX2_begin 7 = .ok (.putfield 27, 3) ∧ decode cX2_begin 10 = .ok (.aload_n 0, 1) ∧ decode cX2_begin 11 = .ok (.iconst 0, 1) := by decide +kernel
theorem dX2_begin_0 : decode cX2_begin 0 = .ok (.aload_n 0, 1) := dAX2_begin_0.1
theorem dX2_begin_1 : decode cX2_begin 1 = .ok (.iconst 0, 1) := dAX2_begin_0.2.1
theorem dX2_begin_2 : decode cX2_begin 2 = .ok (.putfield 24, 3) := dAX2_begin_0.2.2.1
theorem dX2_begin_5 : decode cX2_begin 5 = .ok (.aload_n 0, 1) := dAX2_begin_0.2.2.2.1
theorem dX2_begin_6 : decode cX2_begin 6 = .ok (.iconst 0, 1) := dAX2_begin_0.2.2.2.2.1
theorem dX2_begin_7 : decode cX2_begin 7 = .ok (.putfield 27, 3) := dAX2_begin_0.2.2.2.2.2.1
theorem dX2_begin_10 : decode cX2_begin 10 = .ok (.aload_n 0, 1) := dAX2_begin_0.2.2.2.2.2.2.1
theorem dX2_begin_11 : decode cX2_begin 11 = .ok (.iconst 0, 1) := dAX2_begin_0.2.2.2.2.2.2.2
set_option maxRecDepth 100000 in
theorem dAX2_begin_1 : decode cX2_begin 12 = .ok (.putfield 30, 3) ∧ decode cX2_begin 15 = .ok (.return_, 1) := by decide +kernel
theorem dX2_begin_12 : decode cX2_begin 12 = .ok (.putfield 30, 3) := dAX2_begin_1.1
theorem dX2_begin_15 : decode cX2_begin 15 = .ok (.return_, 1) := dAX2_begin_1.2
set_option maxRecDepth 100000 in
theorem dAX2_breathsFreely_0 : decode cX2_breathsFreely 0 = .ok (.aload_n 0, 1) ∧ decode cX2_breathsFreely 1 = .ok (.invokevirtual 33, 3) ∧ decode cX2_breathsFreely 4 = .ok (.aload_n 0, 1) ∧ decode cX2_breathsFreely 5 = .ok (.aload_n 1, 1) ∧ decode cX2_breathsFreely 6 = .ok (.aload_n 2, 1) ∧ decode cX2_breathsFreely 7 = .ok (.aload_n 1, 1) ∧ decode cX2_breathsFreely 8 = .ok (.getfield 36, 3) ∧ decode cX2_breathsFreely 11 = .ok (.iconst (-1), 1) := by decide +kernel
theorem dX2_breathsFreely_0 : decode cX2_breathsFreely 0 = .ok (.aload_n 0, 1) := dAX2_breathsFreely_0.1
theorem dX2_breathsFreely_1 : decode cX2_breathsFreely 1 = .ok (.invokevirtual 33, 3) := dAX2_breathsFreely_0.2.1
theorem dX2_breathsFreely_4 : decode cX2_breathsFreely 4 = .ok (.aload_n 0, 1) := dAX2_breathsFreely_0.2.2.1
theorem dX2_breathsFreely_5 : decode cX2_breathsFreely 5 = .ok (.aload_n 1, 1) := dAX2_breathsFreely_0.2.2.2.1
theorem dX2_breathsFreely_6 : decode cX2_breathsFreely 6 = .ok (.aload_n 2, 1) := dAX2_breathsFreely_0.2.2.2.2.1
theorem dX2_breathsFreely_7 : decode cX2_breathsFreely 7 = .ok (.aload_n 1, 1) := dAX2_breathsFreely_0.2.2.2.2.2.1
theorem dX2_breathsFreely_8 : decode cX2_breathsFreely 8 = .ok (.getfield 36, 3) := dAX2_breathsFreely_0.2.2.2.2.2.2.1
theorem dX2_breathsFreely_11 : decode cX2_breathsFreely 11 = .ok (.iconst (-1), 1) := dAX2_breathsFreely_0.2.2.2.2.2.2.2
set_option maxRecDepth 100000 in
theorem dAX2_breathsFreely_1 : decode cX2_breathsFreely 12 = .ok (.aload_n 1, 1) ∧ decode cX2_breathsFreely 13 = .ok (.invokestatic 39, 3) ∧ decode cX2_breathsFreely 16 = .ok (.iconst 0, 1) ∧ decode cX2_breathsFreely 17 = .ok (.invokevirtual 43, 3) ∧ decode cX2_breathsFreely 20 = .ok (.pop, 1) ∧ decode cX2_breathsFreely 21 = .ok (.aload_n 0, 1) ∧ decode cX2_breathsFreely 22 = .ok (.getfield 24, 3) ∧ decode cX2_breathsFreely 25 = .ok (.ireturn, 1) := by decide +kernel
theorem dX2_breathsFreely_12 : decode cX2_breathsFreely 12 = .ok (.aload_n 1, 1) := dAX2_breathsFreely_1.1
theorem dX2_breathsFreely_13 : decode cX2_breathsFreely 13 = .ok (.invokestatic 39, 3) := dAX2_breathsFreely_1.2.1
theorem dX2_breathsFreely_16 : decode cX2_breathsFreely 16 = .ok (.iconst 0, 1) := dAX2_breathsFreely_1.2.2.1
theorem dX2_breathsFreely_17 : decode cX2_breathsFreely 17 = .ok (.invokevirtual 43, 3) := dAX2_breathsFreely_1.2.2.2.1
theorem dX2_breathsFreely_20 : decode cX2_breathsFreely 20 = .ok (.pop, 1) := dAX2_breathsFreely_1.2.2.2.2.1
theorem dX2_breathsFreely_21 : decode cX2_breathsFreely 21 = .ok (.aload_n 0, 1) := dAX2_breathsFreely_1.2.2.2.2.2.1
theorem dX2_breathsFreely_22 : decode cX2_breathsFreely 22 = .ok (.getfield 24, 3) := dAX2_breathsFreely_1.2.2.2.2.2.2.1
theorem dX2_breathsFreely_25 : decode cX2_breathsFreely 25 = .ok (.ireturn, 1) := dAX2_breathsFreely_1.2.2.2.2.2.2.2
set_option maxRecDepth 100000 in
theorem dAX2_cutPartAt_0 : decode cX2_cutPartAt 0 = .ok (.iload_n 1, 1) ∧ decode cX2_cutPartAt 1 = .ok (.ifCond .lt 27, 3) ∧ decode cX2_cutPartAt 4 = .ok (.iload_n 1, 1) ∧ decode cX2_cutPartAt 5 = .ok (.aload_n 0, 1) ∧ decode cX2_cutPartAt 6 = .ok (.getfield 30, 3) ∧ decode cX2_cutPartAt 9 = .ok (.if_icmp .ge 19, 3) ∧ decode cX2_cutPartAt 12 = .ok (.iload_n 1, 1) ∧ decode cX2_cutPartAt 13 = .ok (.sipush 512, 3) := by decide +kernel
theorem dX2_cutPartAt_0 : decode cX2_cutPartAt 0 = .ok (.iload_n 1, 1) := dAX2_cutPartAt_0.1
theorem dX2_cutPartAt_1 : decode cX2_cutPartAt 1 = .ok (.ifCond .lt 27, 3) := dAX2_cutPartAt_0.2.1
theorem dX2_cutPartAt_4 : decode cX2_cutPartAt 4 = .ok (.iload_n 1, 1) := dAX2_cutPartAt_0.2.2.1
theorem dX2_cutPartAt_5 : decode cX2_cutPartAt 5 = .ok (.aload_n 0, 1) := dAX2_cutPartAt_0.2.2.2.1
theorem dX2_cutPartAt_6 : decode cX2_cutPartAt 6 = .ok (.getfield 30, 3) := dAX2_cutPartAt_0.2.2.2.2.1
theorem dX2_cutPartAt_9 : decode cX2_cutPartAt 9 = .ok (.if_icmp .ge 19, 3) := dAX2_cutPartAt_0.2.2.2.2.2.1
theorem dX2_cutPartAt_12 : decode cX2_cutPartAt 12 = .ok (.iload_n 1, 1) := dAX2_cutPartAt_0.2.2.2.2.2.2.1
theorem dX2_cutPartAt_13 : decode cX2_cutPartAt 13 = .ok (.sipush 512, 3) := dAX2_cutPartAt_0.2.2.2.2.2.2.2
set_option maxRecDepth 100000 in
theorem dAX2_cutPartAt_1 : decode cX2_cutPartAt 16 = .ok (.if_icmp .ge 12, 3) ∧ decode cX2_cutPartAt 19 = .ok (.aload_n 0, 1) ∧ decode cX2_cutPartAt 20 = .ok (.getfield 15, 3) ∧ decode cX2_cutPartAt 23 = .ok (.iload_n 1, 1) ∧ decode cX2_cutPartAt 24 = .ok (.iaload, 1) ∧ decode cX2_cutPartAt 25 = .ok (.goto 4, 3) ∧ decode cX2_cutPartAt 28 = .ok (.iconst (-1), 1) ∧ decode cX2_cutPartAt 29 = .ok (.ireturn, 1) := by decide +kernel
theorem dX2_cutPartAt_16 : decode cX2_cutPartAt 16 = .ok (.if_icmp .ge 12, 3) := dAX2_cutPartAt_1.1
theorem dX2_cutPartAt_19 : decode cX2_cutPartAt 19 = .ok (.aload_n 0, 1) := dAX2_cutPartAt_1.2.1
theorem dX2_cutPartAt_20 : decode cX2_cutPartAt 20 = .ok (.getfield 15, 3) := dAX2_cutPartAt_1.2.2.1
theorem dX2_cutPartAt_23 : decode cX2_cutPartAt 23 = .ok (.iload_n 1, 1) := dAX2_cutPartAt_1.2.2.2.1
theorem dX2_cutPartAt_24 : decode cX2_cutPartAt 24 = .ok (.iaload, 1) := dAX2_cutPartAt_1.2.2.2.2.1
theorem dX2_cutPartAt_25 : decode cX2_cutPartAt 25 = .ok (.goto 4, 3) := dAX2_cutPartAt_1.2.2.2.2.2.1
theorem dX2_cutPartAt_28 : decode cX2_cutPartAt 28 = .ok (.iconst (-1), 1) := dAX2_cutPartAt_1.2.2.2.2.2.2.1
theorem dX2_cutPartAt_29 : decode cX2_cutPartAt 29 = .ok (.ireturn, 1) := dAX2_cutPartAt_1.2.2.2.2.2.2.2
set_option maxRecDepth 100000 in
theorem dAX2_hearWithin_0 : decode cX2_hearWithin 0 = .ok (.aload_n 0, 1) ∧ decode cX2_hearWithin 1 = .ok (.invokevirtual 33, 3) ∧ decode cX2_hearWithin 4 = .ok (.aload_n 0, 1) ∧ decode cX2_hearWithin 5 = .ok (.aload_n 1, 1) ∧ decode cX2_hearWithin 6 = .ok (.aload_n 2, 1) ∧ decode cX2_hearWithin 7 = .ok (.aload_n 1, 1) ∧ decode cX2_hearWithin 8 = .ok (.getfield 36, 3) ∧ decode cX2_hearWithin 11 = .ok (.iload_n 3, 1) := by decide +kernel
theorem dX2_hearWithin_0 : decode cX2_hearWithin 0 = .ok (.aload_n 0, 1) := dAX2_hearWithin_0.1
theorem dX2_hearWithin_1 : decode cX2_hearWithin 1 = .ok (.invokevirtual 33, 3) := dAX2_hearWithin_0.2.1
theorem dX2_hearWithin_4 : decode cX2_hearWithin 4 = .ok (.aload_n 0, 1) := dAX2_hearWithin_0.2.2.1
theorem dX2_hearWithin_5 : decode cX2_hearWithin 5 = .ok (.aload_n 1, 1) := dAX2_hearWithin_0.2.2.2.1
theorem dX2_hearWithin_6 : decode cX2_hearWithin 6 = .ok (.aload_n 2, 1) := dAX2_hearWithin_0.2.2.2.2.1
theorem dX2_hearWithin_7 : decode cX2_hearWithin 7 = .ok (.aload_n 1, 1) := dAX2_hearWithin_0.2.2.2.2.2.1
theorem dX2_hearWithin_8 : decode cX2_hearWithin 8 = .ok (.getfield 36, 3) := dAX2_hearWithin_0.2.2.2.2.2.2.1
theorem dX2_hearWithin_11 : decode cX2_hearWithin 11 = .ok (.iload_n 3, 1) := dAX2_hearWithin_0.2.2.2.2.2.2.2
set_option maxRecDepth 100000 in
theorem dAX2_hearWithin_1 : decode cX2_hearWithin 12 = .ok (.aload_n 1, 1) ∧ decode cX2_hearWithin 13 = .ok (.getfield 18, 3) ∧ decode cX2_hearWithin 16 = .ok (.imul, 1) ∧ decode cX2_hearWithin 17 = .ok (.iload 4, 2) ∧ decode cX2_hearWithin 19 = .ok (.aload_n 1, 1) ∧ decode cX2_hearWithin 20 = .ok (.getfield 18, 3) ∧ decode cX2_hearWithin 23 = .ok (.imul, 1) ∧ decode cX2_hearWithin 24 = .ok (.iconst 0, 1) := by decide +kernel
theorem dX2_hearWithin_12 : decode cX2_hearWithin 12 = .ok (.aload_n 1, 1) := dAX2_hearWithin_1.1
theorem dX2_hearWithin_13 : decode cX2_hearWithin 13 = .ok (.getfield 18, 3) := dAX2_hearWithin_1.2.1
theorem dX2_hearWithin_16 : decode cX2_hearWithin 16 = .ok (.imul, 1) := dAX2_hearWithin_1.2.2.1
theorem dX2_hearWithin_17 : decode cX2_hearWithin 17 = .ok (.iload 4, 2) := dAX2_hearWithin_1.2.2.2.1
theorem dX2_hearWithin_19 : decode cX2_hearWithin 19 = .ok (.aload_n 1, 1) := dAX2_hearWithin_1.2.2.2.2.1
theorem dX2_hearWithin_20 : decode cX2_hearWithin 20 = .ok (.getfield 18, 3) := dAX2_hearWithin_1.2.2.2.2.2.1
theorem dX2_hearWithin_23 : decode cX2_hearWithin 23 = .ok (.imul, 1) := dAX2_hearWithin_1.2.2.2.2.2.2.1
theorem dX2_hearWithin_24 : decode cX2_hearWithin 24 = .ok (.iconst 0, 1) := dAX2_hearWithin_1.2.2.2.2.2.2.2
set_option maxRecDepth 100000 in
theorem dAX2_hearWithin_2 : decode cX2_hearWithin 25 = .ok (.invokevirtual 43, 3) ∧ decode cX2_hearWithin 28 = .ok (.ireturn, 1) := by decide +kernel
theorem dX2_hearWithin_25 : decode cX2_hearWithin 25 = .ok (.invokevirtual 43, 3) := dAX2_hearWithin_2.1
theorem dX2_hearWithin_28 : decode cX2_hearWithin 28 = .ok (.ireturn, 1) := dAX2_hearWithin_2.2
set_option maxRecDepth 100000 in
theorem dAX2_init_0 : decode cX2_init 0 = .ok (.aload_n 0, 1) ∧ decode cX2_init 1 = .ok (.invokespecial 3, 3) ∧ decode cX2_init 4 = .ok (.aload_n 0, 1) ∧ decode cX2_init 5 = .ok (.sipush 512, 3) ∧ decode cX2_init 8 = .ok (.newarray .int, 2) ∧ decode cX2_init 10 = .ok (.putfield 9, 3) ∧ decode cX2_init 13 = .ok (.aload_n 0, 1) ∧ decode cX2_init 14 = .ok (.sipush 512, 3) := by decide +kernel
theorem dX2_init_0 : decode cX2_init 0 = .ok (.aload_n 0, 1) := dAX2_init_0.1
theorem dX2_init_1 : decode cX2_init 1 = .ok (.invokespecial 3, 3) := dAX2_init_0.2.1
theorem dX2_init_4 : decode cX2_init 4 = .ok (.aload_n 0, 1) := dAX2_init_0.2.2.1
theorem dX2_init_5 : decode cX2_init 5 = .ok (.sipush 512, 3) := dAX2_init_0.2.2.2.1
theorem dX2_init_8 : decode cX2_init 8 = .ok (.newarray .int, 2) := dAX2_init_0.2.2.2.2.1
theorem dX2_init_10 : decode cX2_init 10 = .ok (.putfield 9, 3) := dAX2_init_0.2.2.2.2.2.1
theorem dX2_init_13 : decode cX2_init 13 = .ok (.aload_n 0, 1) := dAX2_init_0.2.2.2.2.2.2.1
theorem dX2_init_14 : decode cX2_init 14 = .ok (.sipush 512, 3) := dAX2_init_0.2.2.2.2.2.2.2
set_option maxRecDepth 100000 in
theorem dAX2_init_1 : decode cX2_init 17 = .ok (.newarray .int, 2) ∧ decode cX2_init 19 = .ok (.putfield 15, 3) ∧ decode cX2_init 22 = .ok (.return_, 1) := by decide +kernel
theorem dX2_init_17 : decode cX2_init 17 = .ok (.newarray .int, 2) := dAX2_init_1.1
theorem dX2_init_19 : decode cX2_init 19 = .ok (.putfield 15, 3) := dAX2_init_1.2.1
theorem dX2_init_22 : decode cX2_init 22 = .ok (.return_, 1) := dAX2_init_1.2.2
set_option maxRecDepth 100000 in
theorem dAX2_isSoMuch_0 : decode cX2_isSoMuch 0 = .ok (.iload 5, 2) ∧ decode cX2_isSoMuch 2 = .ok (.bipush 12, 2) ∧ decode cX2_isSoMuch 4 = .ok (.if_icmp .gt 11, 3) ∧ decode cX2_isSoMuch 7 = .ok (.aload_n 1, 1) ∧ decode cX2_isSoMuch 8 = .ok (.iload_n 3, 1) ∧ decode cX2_isSoMuch 9 = .ok (.invokevirtual 61, 3) ∧ decode cX2_isSoMuch 12 = .ok (.ifCond .ne 5, 3) ∧ decode cX2_isSoMuch 15 = .ok (.iconst 0, 1) := by decide +kernel
theorem dX2_isSoMuch_0 : decode cX2_isSoMuch 0 = .ok (.iload 5, 2) := dAX2_isSoMuch_0.1
theorem dX2_isSoMuch_2 : decode cX2_isSoMuch 2 = .ok (.bipush 12, 2) := dAX2_isSoMuch_0.2.1
theorem dX2_isSoMuch_4 : decode cX2_isSoMuch 4 = .ok (.if_icmp .gt 11, 3) := dAX2_isSoMuch_0.2.2.1
theorem dX2_isSoMuch_7 : decode cX2_isSoMuch 7 = .ok (.aload_n 1, 1) := dAX2_isSoMuch_0.2.2.2.1
theorem dX2_isSoMuch_8 : decode cX2_isSoMuch 8 = .ok (.iload_n 3, 1) := dAX2_isSoMuch_0.2.2.2.2.1
theorem dX2_isSoMuch_9 : decode cX2_isSoMuch 9 = .ok (.invokevirtual 61, 3) := dAX2_isSoMuch_0.2.2.2.2.2.1
theorem dX2_isSoMuch_12 : decode cX2_isSoMuch 12 = .ok (.ifCond .ne 5, 3) := dAX2_isSoMuch_0.2.2.2.2.2.2.1
theorem dX2_isSoMuch_15 : decode cX2_isSoMuch 15 = .ok (.iconst 0, 1) := dAX2_isSoMuch_0.2.2.2.2.2.2.2
set_option maxRecDepth 100000 in
theorem dAX2_isSoMuch_1 : decode cX2_isSoMuch 16 = .ok (.ireturn, 1) ∧ decode cX2_isSoMuch 17 = .ok (.aload_n 1, 1) ∧ decode cX2_isSoMuch 18 = .ok (.getfield 65, 3) ∧ decode cX2_isSoMuch 21 = .ok (.iload_n 3, 1) ∧ decode cX2_isSoMuch 22 = .ok (.iaload, 1) ∧ decode cX2_isSoMuch 23 = .ok (.ifCond .eq 13, 3) ∧ decode cX2_isSoMuch 26 = .ok (.aload_n 1, 1) ∧ decode cX2_isSoMuch 27 = .ok (.getfield 65, 3) := by decide +kernel
theorem dX2_isSoMuch_16 : decode cX2_isSoMuch 16 = .ok (.ireturn, 1) := dAX2_isSoMuch_1.1
theorem dX2_isSoMuch_17 : decode cX2_isSoMuch 17 = .ok (.aload_n 1, 1) := dAX2_isSoMuch_1.2.1
theorem dX2_isSoMuch_18 : decode cX2_isSoMuch 18 = .ok (.getfield 65, 3) := dAX2_isSoMuch_1.2.2.1
theorem dX2_isSoMuch_21 : decode cX2_isSoMuch 21 = .ok (.iload_n 3, 1) := dAX2_isSoMuch_1.2.2.2.1
theorem dX2_isSoMuch_22 : decode cX2_isSoMuch 22 = .ok (.iaload, 1) := dAX2_isSoMuch_1.2.2.2.2.1
theorem dX2_isSoMuch_23 : decode cX2_isSoMuch 23 = .ok (.ifCond .eq 13, 3) := dAX2_isSoMuch_1.2.2.2.2.2.1
theorem dX2_isSoMuch_26 : decode cX2_isSoMuch 26 = .ok (.aload_n 1, 1) := dAX2_isSoMuch_1.2.2.2.2.2.2.1
theorem dX2_isSoMuch_27 : decode cX2_isSoMuch 27 = .ok (.getfield 65, 3) := dAX2_isSoMuch_1.2.2.2.2.2.2.2
set_option maxRecDepth 100000 in
theorem dAX2_isSoMuch_2 : decode cX2_isSoMuch 30 = .ok (.iload_n 3, 1) ∧ decode cX2_isSoMuch 31 = .ok (.iaload, 1) ∧ decode cX2_isSoMuch 32 = .ok (.iconst 3, 1) ∧ decode cX2_isSoMuch 33 = .ok (.if_icmp .ne 28, 3) ∧ decode cX2_isSoMuch 36 = .ok (.aload_n 0, 1) ∧ decode cX2_isSoMuch 37 = .ok (.aload_n 1, 1) ∧ decode cX2_isSoMuch 38 = .ok (.aload_n 2, 1) ∧ decode cX2_isSoMuch 39 = .ok (.iload_n 3, 1) := by decide +kernel
theorem dX2_isSoMuch_30 : decode cX2_isSoMuch 30 = .ok (.iload_n 3, 1) := dAX2_isSoMuch_2.1
theorem dX2_isSoMuch_31 : decode cX2_isSoMuch 31 = .ok (.iaload, 1) := dAX2_isSoMuch_2.2.1
theorem dX2_isSoMuch_32 : decode cX2_isSoMuch 32 = .ok (.iconst 3, 1) := dAX2_isSoMuch_2.2.2.1
theorem dX2_isSoMuch_33 : decode cX2_isSoMuch 33 = .ok (.if_icmp .ne 28, 3) := dAX2_isSoMuch_2.2.2.2.1
theorem dX2_isSoMuch_36 : decode cX2_isSoMuch 36 = .ok (.aload_n 0, 1) := dAX2_isSoMuch_2.2.2.2.2.1
theorem dX2_isSoMuch_37 : decode cX2_isSoMuch 37 = .ok (.aload_n 1, 1) := dAX2_isSoMuch_2.2.2.2.2.2.1
theorem dX2_isSoMuch_38 : decode cX2_isSoMuch 38 = .ok (.aload_n 2, 1) := dAX2_isSoMuch_2.2.2.2.2.2.2.1
theorem dX2_isSoMuch_39 : decode cX2_isSoMuch 39 = .ok (.iload_n 3, 1) := dAX2_isSoMuch_2.2.2.2.2.2.2.2
set_option maxRecDepth 100000 in
theorem dAX2_isSoMuch_3 : decode cX2_isSoMuch 40 = .ok (.iconst (-1), 1) ∧ decode cX2_isSoMuch 41 = .ok (.aload_n 1, 1) ∧ decode cX2_isSoMuch 42 = .ok (.invokestatic 39, 3) ∧ decode cX2_isSoMuch 45 = .ok (.iload 5, 2) ∧ decode cX2_isSoMuch 47 = .ok (.invokevirtual 43, 3) ∧ decode cX2_isSoMuch 50 = .ok (.iload 4, 2) ∧ decode cX2_isSoMuch 52 = .ok (.if_icmp .lt 7, 3) ∧ decode cX2_isSoMuch 55 = .ok (.iconst 1, 1) := by decide +kernel
theorem dX2_isSoMuch_40 : decode cX2_isSoMuch 40 = .ok (.iconst (-1), 1) := dAX2_isSoMuch_3.1
theorem dX2_isSoMuch_41 : decode cX2_isSoMuch 41 = .ok (.aload_n 1, 1) := dAX2_isSoMuch_3.2.1
theorem dX2_isSoMuch_42 : decode cX2_isSoMuch 42 = .ok (.invokestatic 39, 3) := dAX2_isSoMuch_3.2.2.1
theorem dX2_isSoMuch_45 : decode cX2_isSoMuch 45 = .ok (.iload 5, 2) := dAX2_isSoMuch_3.2.2.2.1
theorem dX2_isSoMuch_47 : decode cX2_isSoMuch 47 = .ok (.invokevirtual 43, 3) := dAX2_isSoMuch_3.2.2.2.2.1
theorem dX2_isSoMuch_50 : decode cX2_isSoMuch 50 = .ok (.iload 4, 2) := dAX2_isSoMuch_3.2.2.2.2.2.1
theorem dX2_isSoMuch_52 : decode cX2_isSoMuch 52 = .ok (.if_icmp .lt 7, 3) := dAX2_isSoMuch_3.2.2.2.2.2.2.1
theorem dX2_isSoMuch_55 : decode cX2_isSoMuch 55 = .ok (.iconst 1, 1) := dAX2_isSoMuch_3.2.2.2.2.2.2.2
set_option maxRecDepth 100000 in
theorem dAX2_isSoMuch_4 : decode cX2_isSoMuch 56 = .ok (.goto 4, 3) ∧ decode cX2_isSoMuch 59 = .ok (.iconst 0, 1) ∧ decode cX2_isSoMuch 60 = .ok (.ireturn, 1) ∧ decode cX2_isSoMuch 61 = .ok (.aload_n 1, 1) ∧ decode cX2_isSoMuch 62 = .ok (.getfield 65, 3) ∧ decode cX2_isSoMuch 65 = .ok (.iload_n 3, 1) ∧ decode cX2_isSoMuch 66 = .ok (.iaload, 1) ∧ decode cX2_isSoMuch 67 = .ok (.iconst 1, 1) := by decide +kernel
theorem dX2_isSoMuch_56 : decode cX2_isSoMuch 56 = .ok (.goto 4, 3) := dAX2_isSoMuch_4.1
theorem dX2_isSoMuch_59 : decode cX2_isSoMuch 59 = .ok (.iconst 0, 1) := dAX2_isSoMuch_4.2.1
theorem dX2_isSoMuch_60 : decode cX2_isSoMuch 60 = .ok (.ireturn, 1) := dAX2_isSoMuch_4.2.2.1
theorem dX2_isSoMuch_61 : decode cX2_isSoMuch 61 = .ok (.aload_n 1, 1) := dAX2_isSoMuch_4.2.2.2.1
theorem dX2_isSoMuch_62 : decode cX2_isSoMuch 62 = .ok (.getfield 65, 3) := dAX2_isSoMuch_4.2.2.2.2.1
theorem dX2_isSoMuch_65 : decode cX2_isSoMuch 65 = .ok (.iload_n 3, 1) := dAX2_isSoMuch_4.2.2.2.2.2.1
theorem dX2_isSoMuch_66 : decode cX2_isSoMuch 66 = .ok (.iaload, 1) := dAX2_isSoMuch_4.2.2.2.2.2.2.1
theorem dX2_isSoMuch_67 : decode cX2_isSoMuch 67 = .ok (.iconst 1, 1) := dAX2_isSoMuch_4.2.2.2.2.2.2.2
set_option maxRecDepth 100000 in
theorem dAX2_isSoMuch_5 : decode cX2_isSoMuch 68 = .ok (.if_icmp .ne 7, 3) ∧ decode cX2_isSoMuch 71 = .ok (.iconst 1, 1) ∧ decode cX2_isSoMuch 72 = .ok (.goto 4, 3) ∧ decode cX2_isSoMuch 75 = .ok (.iconst 0, 1) ∧ decode cX2_isSoMuch 76 = .ok (.istore 6, 2) ∧ decode cX2_isSoMuch 78 = .ok (.iconst 0, 1) ∧ decode cX2_isSoMuch 79 = .ok (.istore 7, 2) ∧ decode cX2_isSoMuch 81 = .ok (.iload 7, 2) := by decide +kernel
theorem dX2_isSoMuch_68 : decode cX2_isSoMuch 68 = .ok (.if_icmp .ne 7, 3) := dAX2_isSoMuch_5.1
theorem dX2_isSoMuch_71 : decode cX2_isSoMuch 71 = .ok (.iconst 1, 1) := dAX2_isSoMuch_5.2.1
theorem dX2_isSoMuch_72 : decode cX2_isSoMuch 72 = .ok (.goto 4, 3) := dAX2_isSoMuch_5.2.2.1
theorem dX2_isSoMuch_75 : decode cX2_isSoMuch 75 = .ok (.iconst 0, 1) := dAX2_isSoMuch_5.2.2.2.1
theorem dX2_isSoMuch_76 : decode cX2_isSoMuch 76 = .ok (.istore 6, 2) := dAX2_isSoMuch_5.2.2.2.2.1
theorem dX2_isSoMuch_78 : decode cX2_isSoMuch 78 = .ok (.iconst 0, 1) := dAX2_isSoMuch_5.2.2.2.2.2.1
theorem dX2_isSoMuch_79 : decode cX2_isSoMuch 79 = .ok (.istore 7, 2) := dAX2_isSoMuch_5.2.2.2.2.2.2.1
theorem dX2_isSoMuch_81 : decode cX2_isSoMuch 81 = .ok (.iload 7, 2) := dAX2_isSoMuch_5.2.2.2.2.2.2.2
set_option maxRecDepth 100000 in
theorem dAX2_isSoMuch_6 : decode cX2_isSoMuch 83 = .ok (.aload_n 1, 1) ∧ decode cX2_isSoMuch 84 = .ok (.getfield 84, 3) ∧ decode cX2_isSoMuch 87 = .ok (.iload_n 3, 1) ∧ decode cX2_isSoMuch 88 = .ok (.iaload, 1) ∧ decode cX2_isSoMuch 89 = .ok (.if_icmp .ge 37, 3) ∧ decode cX2_isSoMuch 92 = .ok (.aload_n 0, 1) ∧ decode cX2_isSoMuch 93 = .ok (.aload_n 1, 1) ∧ decode cX2_isSoMuch 94 = .ok (.aload_n 2, 1) := by decide +kernel
theorem dX2_isSoMuch_83 : decode cX2_isSoMuch 83 = .ok (.aload_n 1, 1) := dAX2_isSoMuch_6.1
theorem dX2_isSoMuch_84 : decode cX2_isSoMuch 84 = .ok (.getfield 84, 3) := dAX2_isSoMuch_6.2.1
theorem dX2_isSoMuch_87 : decode cX2_isSoMuch 87 = .ok (.iload_n 3, 1) := dAX2_isSoMuch_6.2.2.1
theorem dX2_isSoMuch_88 : decode cX2_isSoMuch 88 = .ok (.iaload, 1) := dAX2_isSoMuch_6.2.2.2.1
theorem dX2_isSoMuch_89 : decode cX2_isSoMuch 89 = .ok (.if_icmp .ge 37, 3) := dAX2_isSoMuch_6.2.2.2.2.1
theorem dX2_isSoMuch_92 : decode cX2_isSoMuch 92 = .ok (.aload_n 0, 1) := dAX2_isSoMuch_6.2.2.2.2.2.1
theorem dX2_isSoMuch_93 : decode cX2_isSoMuch 93 = .ok (.aload_n 1, 1) := dAX2_isSoMuch_6.2.2.2.2.2.2.1
theorem dX2_isSoMuch_94 : decode cX2_isSoMuch 94 = .ok (.aload_n 2, 1) := dAX2_isSoMuch_6.2.2.2.2.2.2.2
set_option maxRecDepth 100000 in
theorem dAX2_isSoMuch_7 : decode cX2_isSoMuch 95 = .ok (.aload_n 2, 1) ∧ decode cX2_isSoMuch 96 = .ok (.aload_n 1, 1) ∧ decode cX2_isSoMuch 97 = .ok (.iload_n 3, 1) ∧ decode cX2_isSoMuch 98 = .ok (.iload 7, 2) ∧ decode cX2_isSoMuch 100 = .ok (.invokevirtual 87, 3) ∧ decode cX2_isSoMuch 103 = .ok (.iload 4, 2) ∧ decode cX2_isSoMuch 105 = .ok (.iload 5, 2) ∧ decode cX2_isSoMuch 107 = .ok (.iconst 1, 1) := by decide +kernel
theorem dX2_isSoMuch_95 : decode cX2_isSoMuch 95 = .ok (.aload_n 2, 1) := dAX2_isSoMuch_7.1
theorem dX2_isSoMuch_96 : decode cX2_isSoMuch 96 = .ok (.aload_n 1, 1) := dAX2_isSoMuch_7.2.1
theorem dX2_isSoMuch_97 : decode cX2_isSoMuch 97 = .ok (.iload_n 3, 1) := dAX2_isSoMuch_7.2.2.1
theorem dX2_isSoMuch_98 : decode cX2_isSoMuch 98 = .ok (.iload 7, 2) := dAX2_isSoMuch_7.2.2.2.1
theorem dX2_isSoMuch_100 : decode cX2_isSoMuch 100 = .ok (.invokevirtual 87, 3) := dAX2_isSoMuch_7.2.2.2.2.1
theorem dX2_isSoMuch_103 : decode cX2_isSoMuch 103 = .ok (.iload 4, 2) := dAX2_isSoMuch_7.2.2.2.2.2.1
theorem dX2_isSoMuch_105 : decode cX2_isSoMuch 105 = .ok (.iload 5, 2) := dAX2_isSoMuch_7.2.2.2.2.2.2.1
theorem dX2_isSoMuch_107 : decode cX2_isSoMuch 107 = .ok (.iconst 1, 1) := dAX2_isSoMuch_7.2.2.2.2.2.2.2
set_option maxRecDepth 100000 in
theorem dAX2_isSoMuch_8 : decode cX2_isSoMuch 108 = .ok (.iadd, 1) ∧ decode cX2_isSoMuch 109 = .ok (.invokevirtual 47, 3) ∧ decode cX2_isSoMuch 112 = .ok (.iload 6, 2) ∧ decode cX2_isSoMuch 114 = .ok (.if_icmp .ne 6, 3) ∧ decode cX2_isSoMuch 117 = .ok (.iload 6, 2) ∧ decode cX2_isSoMuch 119 = .ok (.ireturn, 1) ∧ decode cX2_isSoMuch 120 = .ok (.iinc 7 1, 3) ∧ decode cX2_isSoMuch 123 = .ok (.goto (-42), 3) := by decide +kernel
theorem dX2_isSoMuch_108 : decode cX2_isSoMuch 108 = .ok (.iadd, 1) := dAX2_isSoMuch_8.1
theorem dX2_isSoMuch_109 : decode cX2_isSoMuch 109 = .ok (.invokevirtual 47, 3) := dAX2_isSoMuch_8.2.1
theorem dX2_isSoMuch_112 : decode cX2_isSoMuch 112 = .ok (.iload 6, 2) := dAX2_isSoMuch_8.2.2.1
theorem dX2_isSoMuch_114 : decode cX2_isSoMuch 114 = .ok (.if_icmp .ne 6, 3) := dAX2_isSoMuch_8.2.2.2.1
theorem dX2_isSoMuch_117 : decode cX2_isSoMuch 117 = .ok (.iload 6, 2) := dAX2_isSoMuch_8.2.2.2.2.1
theorem dX2_isSoMuch_119 : decode cX2_isSoMuch 119 = .ok (.ireturn, 1) := dAX2_isSoMuch_8.2.2.2.2.2.1
theorem dX2_isSoMuch_120 : decode cX2_isSoMuch 120 = .ok (.iinc 7 1, 3) := dAX2_isSoMuch_8.2.2.2.2.2.2.1
theorem dX2_isSoMuch_123 : decode cX2_isSoMuch 123 = .ok (.goto (-42), 3) := dAX2_isSoMuch_8.2.2.2.2.2.2.2
set_option maxRecDepth 100000 in
theorem dAX2_isSoMuch_9 : decode cX2_isSoMuch 126 = .ok (.iload 6, 2) ∧ decode cX2_isSoMuch 128 = .ok (.ifCond .ne 7, 3) ∧ decode cX2_isSoMuch 131 = .ok (.iconst 1, 1) ∧ decode cX2_isSoMuch 132 = .ok (.goto 4, 3) ∧ decode cX2_isSoMuch 135 = .ok (.iconst 0, 1) ∧ decode cX2_isSoMuch 136 = .ok (.ireturn, 1) := by decide +kernel
theorem dX2_isSoMuch_126 : decode cX2_isSoMuch 126 = .ok (.iload 6, 2) := dAX2_isSoMuch_9.1
theorem dX2_isSoMuch_128 : decode cX2_isSoMuch 128 = .ok (.ifCond .ne 7, 3) := dAX2_isSoMuch_9.2.1
theorem dX2_isSoMuch_131 : decode cX2_isSoMuch 131 = .ok (.iconst 1, 1) := dAX2_isSoMuch_9.2.2.1
theorem dX2_isSoMuch_132 : decode cX2_isSoMuch 132 = .ok (.goto 4, 3) := dAX2_isSoMuch_9.2.2.2.1
theorem dX2_isSoMuch_135 : decode cX2_isSoMuch 135 = .ok (.iconst 0, 1) := dAX2_isSoMuch_9.2.2.2.2.1
theorem dX2_isSoMuch_136 : decode cX2_isSoMuch 136 = .ok (.ireturn, 1) := dAX2_isSoMuch_9.2.2.2.2.2
set_option maxRecDepth 100000 in
theorem dAX2_listen_0 : decode cX2_listen 0 = .ok (.iload 6, 2) ∧ decode cX2_listen 2 = .ok (.bipush 12, 2) ∧ decode cX2_listen 4 = .ok (.if_icmp .gt 11, 3) ∧ decode cX2_listen 7 = .ok (.aload_n 1, 1) ∧ decode cX2_listen 8 = .ok (.iload_n 3, 1) ∧ decode cX2_listen 9 = .ok (.invokevirtual 61, 3) ∧ decode cX2_listen 12 = .ok (.ifCond .ne 5, 3) ∧ decode cX2_listen 15 = .ok (.iconst 0, 1) := by decide +kernel
theorem dX2_listen_0 : decode cX2_listen 0 = .ok (.iload 6, 2) := dAX2_listen_0.1
theorem dX2_listen_2 : decode cX2_listen 2 = .ok (.bipush 12, 2) := dAX2_listen_0.2.1
theorem dX2_listen_4 : decode cX2_listen 4 = .ok (.if_icmp .gt 11, 3) := dAX2_listen_0.2.2.1
theorem dX2_listen_7 : decode cX2_listen 7 = .ok (.aload_n 1, 1) := dAX2_listen_0.2.2.2.1
theorem dX2_listen_8 : decode cX2_listen 8 = .ok (.iload_n 3, 1) := dAX2_listen_0.2.2.2.2.1
theorem dX2_listen_9 : decode cX2_listen 9 = .ok (.invokevirtual 61, 3) := dAX2_listen_0.2.2.2.2.2.1
theorem dX2_listen_12 : decode cX2_listen 12 = .ok (.ifCond .ne 5, 3) := dAX2_listen_0.2.2.2.2.2.2.1
theorem dX2_listen_15 : decode cX2_listen 15 = .ok (.iconst 0, 1) := dAX2_listen_0.2.2.2.2.2.2.2
set_option maxRecDepth 100000 in
theorem dAX2_listen_1 : decode cX2_listen 16 = .ok (.ireturn, 1) ∧ decode cX2_listen 17 = .ok (.aload_n 1, 1) ∧ decode cX2_listen 18 = .ok (.getfield 65, 3) ∧ decode cX2_listen 21 = .ok (.iload_n 3, 1) ∧ decode cX2_listen 22 = .ok (.iaload, 1) ∧ decode cX2_listen 23 = .ok (.ifCond .ne 20, 3) ∧ decode cX2_listen 26 = .ok (.aload_n 0, 1) ∧ decode cX2_listen 27 = .ok (.iload_n 3, 1) := by decide +kernel
theorem dX2_listen_16 : decode cX2_listen 16 = .ok (.ireturn, 1) := dAX2_listen_1.1
theorem dX2_listen_17 : decode cX2_listen 17 = .ok (.aload_n 1, 1) := dAX2_listen_1.2.1
theorem dX2_listen_18 : decode cX2_listen 18 = .ok (.getfield 65, 3) := dAX2_listen_1.2.2.1
theorem dX2_listen_21 : decode cX2_listen 21 = .ok (.iload_n 3, 1) := dAX2_listen_1.2.2.2.1
theorem dX2_listen_22 : decode cX2_listen 22 = .ok (.iaload, 1) := dAX2_listen_1.2.2.2.2.1
theorem dX2_listen_23 : decode cX2_listen 23 = .ok (.ifCond .ne 20, 3) := dAX2_listen_1.2.2.2.2.2.1
theorem dX2_listen_26 : decode cX2_listen 26 = .ok (.aload_n 0, 1) := dAX2_listen_1.2.2.2.2.2.2.1
theorem dX2_listen_27 : decode cX2_listen 27 = .ok (.iload_n 3, 1) := dAX2_listen_1.2.2.2.2.2.2.2
set_option maxRecDepth 100000 in
theorem dAX2_listen_2 : decode cX2_listen 28 = .ok (.invokevirtual 68, 3) ∧ decode cX2_listen 31 = .ok (.aload_n 2, 1) ∧ decode cX2_listen 32 = .ok (.getfield 72, 3) ∧ decode cX2_listen 35 = .ok (.iload_n 3, 1) ∧ decode cX2_listen 36 = .ok (.iaload, 1) ∧ decode cX2_listen 37 = .ok (.aload_n 1, 1) ∧ decode cX2_listen 38 = .ok (.getfield 18, 3) ∧ decode cX2_listen 41 = .ok (.imul, 1) := by decide +kernel
theorem dX2_listen_28 : decode cX2_listen 28 = .ok (.invokevirtual 68, 3) := dAX2_listen_2.1
theorem dX2_listen_31 : decode cX2_listen 31 = .ok (.aload_n 2, 1) := dAX2_listen_2.2.1
theorem dX2_listen_32 : decode cX2_listen 32 = .ok (.getfield 72, 3) := dAX2_listen_2.2.2.1
theorem dX2_listen_35 : decode cX2_listen 35 = .ok (.iload_n 3, 1) := dAX2_listen_2.2.2.2.1
theorem dX2_listen_36 : decode cX2_listen 36 = .ok (.iaload, 1) := dAX2_listen_2.2.2.2.2.1
theorem dX2_listen_37 : decode cX2_listen 37 = .ok (.aload_n 1, 1) := dAX2_listen_2.2.2.2.2.2.1
theorem dX2_listen_38 : decode cX2_listen 38 = .ok (.getfield 18, 3) := dAX2_listen_2.2.2.2.2.2.2.1
theorem dX2_listen_41 : decode cX2_listen 41 = .ok (.imul, 1) := dAX2_listen_2.2.2.2.2.2.2.2
set_option maxRecDepth 100000 in
theorem dAX2_listen_3 : decode cX2_listen 42 = .ok (.ireturn, 1) ∧ decode cX2_listen 43 = .ok (.aload_n 1, 1) ∧ decode cX2_listen 44 = .ok (.getfield 65, 3) ∧ decode cX2_listen 47 = .ok (.iload_n 3, 1) ∧ decode cX2_listen 48 = .ok (.iaload, 1) ∧ decode cX2_listen 49 = .ok (.iconst 3, 1) ∧ decode cX2_listen 50 = .ok (.if_icmp .ne 13, 3) ∧ decode cX2_listen 53 = .ok (.aload_n 0, 1) := by decide +kernel
theorem dX2_listen_42 : decode cX2_listen 42 = .ok (.ireturn, 1) := dAX2_listen_3.1
theorem dX2_listen_43 : decode cX2_listen 43 = .ok (.aload_n 1, 1) := dAX2_listen_3.2.1
theorem dX2_listen_44 : decode cX2_listen 44 = .ok (.getfield 65, 3) := dAX2_listen_3.2.2.1
theorem dX2_listen_47 : decode cX2_listen 47 = .ok (.iload_n 3, 1) := dAX2_listen_3.2.2.2.1
theorem dX2_listen_48 : decode cX2_listen 48 = .ok (.iaload, 1) := dAX2_listen_3.2.2.2.2.1
theorem dX2_listen_49 : decode cX2_listen 49 = .ok (.iconst 3, 1) := dAX2_listen_3.2.2.2.2.2.1
theorem dX2_listen_50 : decode cX2_listen 50 = .ok (.if_icmp .ne 13, 3) := dAX2_listen_3.2.2.2.2.2.2.1
theorem dX2_listen_53 : decode cX2_listen 53 = .ok (.aload_n 0, 1) := dAX2_listen_3.2.2.2.2.2.2.2
set_option maxRecDepth 100000 in
theorem dAX2_listen_4 : decode cX2_listen 54 = .ok (.aload_n 1, 1) ∧ decode cX2_listen 55 = .ok (.aload_n 2, 1) ∧ decode cX2_listen 56 = .ok (.iload_n 3, 1) ∧ decode cX2_listen 57 = .ok (.iload 6, 2) ∧ decode cX2_listen 59 = .ok (.invokevirtual 77, 3) ∧ decode cX2_listen 62 = .ok (.ireturn, 1) ∧ decode cX2_listen 63 = .ok (.aload_n 0, 1) ∧ decode cX2_listen 64 = .ok (.aload_n 1, 1) := by decide +kernel
theorem dX2_listen_54 : decode cX2_listen 54 = .ok (.aload_n 1, 1) := dAX2_listen_4.1
theorem dX2_listen_55 : decode cX2_listen 55 = .ok (.aload_n 2, 1) := dAX2_listen_4.2.1
theorem dX2_listen_56 : decode cX2_listen 56 = .ok (.iload_n 3, 1) := dAX2_listen_4.2.2.1
theorem dX2_listen_57 : decode cX2_listen 57 = .ok (.iload 6, 2) := dAX2_listen_4.2.2.2.1
theorem dX2_listen_59 : decode cX2_listen 59 = .ok (.invokevirtual 77, 3) := dAX2_listen_4.2.2.2.2.1
theorem dX2_listen_62 : decode cX2_listen 62 = .ok (.ireturn, 1) := dAX2_listen_4.2.2.2.2.2.1
theorem dX2_listen_63 : decode cX2_listen 63 = .ok (.aload_n 0, 1) := dAX2_listen_4.2.2.2.2.2.2.1
theorem dX2_listen_64 : decode cX2_listen 64 = .ok (.aload_n 1, 1) := dAX2_listen_4.2.2.2.2.2.2.2
set_option maxRecDepth 100000 in
theorem dAX2_listen_5 : decode cX2_listen 65 = .ok (.aload_n 2, 1) ∧ decode cX2_listen 66 = .ok (.iload_n 3, 1) ∧ decode cX2_listen 67 = .ok (.iload 4, 2) ∧ decode cX2_listen 69 = .ok (.iload 5, 2) ∧ decode cX2_listen 71 = .ok (.iload 6, 2) ∧ decode cX2_listen 73 = .ok (.invokevirtual 81, 3) ∧ decode cX2_listen 76 = .ok (.ireturn, 1) := by decide +kernel
theorem dX2_listen_65 : decode cX2_listen 65 = .ok (.aload_n 2, 1) := dAX2_listen_5.1
theorem dX2_listen_66 : decode cX2_listen 66 = .ok (.iload_n 3, 1) := dAX2_listen_5.2.1
theorem dX2_listen_67 : decode cX2_listen 67 = .ok (.iload 4, 2) := dAX2_listen_5.2.2.1
theorem dX2_listen_69 : decode cX2_listen 69 = .ok (.iload 5, 2) := dAX2_listen_5.2.2.2.1
theorem dX2_listen_71 : decode cX2_listen 71 = .ok (.iload 6, 2) := dAX2_listen_5.2.2.2.2.1
theorem dX2_listen_73 : decode cX2_listen 73 = .ok (.invokevirtual 81, 3) := dAX2_listen_5.2.2.2.2.2.1
theorem dX2_listen_76 : decode cX2_listen 76 = .ok (.ireturn, 1) := dAX2_listen_5.2.2.2.2.2.2
set_option maxRecDepth 100000 in
theorem dAX2_listenToChance_0 : decode cX2_listenToChance 0 = .ok (.iconst 0, 1) ∧ decode cX2_listenToChance 1 = .ok (.istore 5, 2) ∧ decode cX2_listenToChance 3 = .ok (.iconst 0, 1) ∧ decode cX2_listenToChance 4 = .ok (.istore 6, 2) ∧ decode cX2_listenToChance 6 = .ok (.iload 6, 2) ∧ decode cX2_listenToChance 8 = .ok (.aload_n 1, 1) ∧ decode cX2_listenToChance 9 = .ok (.getfield 84, 3) ∧ decode cX2_listenToChance 12 = .ok (.iload_n 3, 1) := by decide +kernel
theorem dX2_listenToChance_0 : decode cX2_listenToChance 0 = .ok (.iconst 0, 1) := dAX2_listenToChance_0.1
theorem dX2_listenToChance_1 : decode cX2_listenToChance 1 = .ok (.istore 5, 2) := dAX2_listenToChance_0.2.1
theorem dX2_listenToChance_3 : decode cX2_listenToChance 3 = .ok (.iconst 0, 1) := dAX2_listenToChance_0.2.2.1
theorem dX2_listenToChance_4 : decode cX2_listenToChance 4 = .ok (.istore 6, 2) := dAX2_listenToChance_0.2.2.2.1
theorem dX2_listenToChance_6 : decode cX2_listenToChance 6 = .ok (.iload 6, 2) := dAX2_listenToChance_0.2.2.2.2.1
theorem dX2_listenToChance_8 : decode cX2_listenToChance 8 = .ok (.aload_n 1, 1) := dAX2_listenToChance_0.2.2.2.2.2.1
theorem dX2_listenToChance_9 : decode cX2_listenToChance 9 = .ok (.getfield 84, 3) := dAX2_listenToChance_0.2.2.2.2.2.2.1
theorem dX2_listenToChance_12 : decode cX2_listenToChance 12 = .ok (.iload_n 3, 1) := dAX2_listenToChance_0.2.2.2.2.2.2.2
set_option maxRecDepth 100000 in
theorem dAX2_listenToChance_1 : decode cX2_listenToChance 13 = .ok (.iaload, 1) ∧ decode cX2_listenToChance 14 = .ok (.if_icmp .ge 54, 3) ∧ decode cX2_listenToChance 17 = .ok (.aload_n 2, 1) ∧ decode cX2_listenToChance 18 = .ok (.aload_n 1, 1) ∧ decode cX2_listenToChance 19 = .ok (.iload_n 3, 1) ∧ decode cX2_listenToChance 20 = .ok (.iload 6, 2) ∧ decode cX2_listenToChance 22 = .ok (.invokevirtual 87, 3) ∧ decode cX2_listenToChance 25 = .ok (.istore 7, 2) := by decide +kernel
theorem dX2_listenToChance_13 : decode cX2_listenToChance 13 = .ok (.iaload, 1) := dAX2_listenToChance_1.1
theorem dX2_listenToChance_14 : decode cX2_listenToChance 14 = .ok (.if_icmp .ge 54, 3) := dAX2_listenToChance_1.2.1
theorem dX2_listenToChance_17 : decode cX2_listenToChance 17 = .ok (.aload_n 2, 1) := dAX2_listenToChance_1.2.2.1
theorem dX2_listenToChance_18 : decode cX2_listenToChance 18 = .ok (.aload_n 1, 1) := dAX2_listenToChance_1.2.2.2.1
theorem dX2_listenToChance_19 : decode cX2_listenToChance 19 = .ok (.iload_n 3, 1) := dAX2_listenToChance_1.2.2.2.2.1
theorem dX2_listenToChance_20 : decode cX2_listenToChance 20 = .ok (.iload 6, 2) := dAX2_listenToChance_1.2.2.2.2.2.1
theorem dX2_listenToChance_22 : decode cX2_listenToChance 22 = .ok (.invokevirtual 87, 3) := dAX2_listenToChance_1.2.2.2.2.2.2.1
theorem dX2_listenToChance_25 : decode cX2_listenToChance 25 = .ok (.istore 7, 2) := dAX2_listenToChance_1.2.2.2.2.2.2.2
set_option maxRecDepth 100000 in
theorem dAX2_listenToChance_2 : decode cX2_listenToChance 27 = .ok (.aload_n 0, 1) ∧ decode cX2_listenToChance 28 = .ok (.aload_n 1, 1) ∧ decode cX2_listenToChance 29 = .ok (.aload_n 2, 1) ∧ decode cX2_listenToChance 30 = .ok (.iload 7, 2) ∧ decode cX2_listenToChance 32 = .ok (.iconst (-1), 1) ∧ decode cX2_listenToChance 33 = .ok (.aload_n 1, 1) ∧ decode cX2_listenToChance 34 = .ok (.invokestatic 39, 3) ∧ decode cX2_listenToChance 37 = .ok (.iload 4, 2) := by decide +kernel
theorem dX2_listenToChance_27 : decode cX2_listenToChance 27 = .ok (.aload_n 0, 1) := dAX2_listenToChance_2.1
theorem dX2_listenToChance_28 : decode cX2_listenToChance 28 = .ok (.aload_n 1, 1) := dAX2_listenToChance_2.2.1
theorem dX2_listenToChance_29 : decode cX2_listenToChance 29 = .ok (.aload_n 2, 1) := dAX2_listenToChance_2.2.2.1
theorem dX2_listenToChance_30 : decode cX2_listenToChance 30 = .ok (.iload 7, 2) := dAX2_listenToChance_2.2.2.2.1
theorem dX2_listenToChance_32 : decode cX2_listenToChance 32 = .ok (.iconst (-1), 1) := dAX2_listenToChance_2.2.2.2.2.1
theorem dX2_listenToChance_33 : decode cX2_listenToChance 33 = .ok (.aload_n 1, 1) := dAX2_listenToChance_2.2.2.2.2.2.1
theorem dX2_listenToChance_34 : decode cX2_listenToChance 34 = .ok (.invokestatic 39, 3) := dAX2_listenToChance_2.2.2.2.2.2.2.1
theorem dX2_listenToChance_37 : decode cX2_listenToChance 37 = .ok (.iload 4, 2) := dAX2_listenToChance_2.2.2.2.2.2.2.2
set_option maxRecDepth 100000 in
theorem dAX2_listenToChance_3 : decode cX2_listenToChance 39 = .ok (.iconst 1, 1) ∧ decode cX2_listenToChance 40 = .ok (.iadd, 1) ∧ decode cX2_listenToChance 41 = .ok (.invokevirtual 43, 3) ∧ decode cX2_listenToChance 44 = .ok (.istore 8, 2) ∧ decode cX2_listenToChance 46 = .ok (.iload 5, 2) ∧ decode cX2_listenToChance 48 = .ok (.iload 8, 2) ∧ decode cX2_listenToChance 50 = .ok (.aload_n 2, 1) ∧ decode cX2_listenToChance 51 = .ok (.aload_n 1, 1) := by decide +kernel
theorem dX2_listenToChance_39 : decode cX2_listenToChance 39 = .ok (.iconst 1, 1) := dAX2_listenToChance_3.1
theorem dX2_listenToChance_40 : decode cX2_listenToChance 40 = .ok (.iadd, 1) := dAX2_listenToChance_3.2.1
theorem dX2_listenToChance_41 : decode cX2_listenToChance 41 = .ok (.invokevirtual 43, 3) := dAX2_listenToChance_3.2.2.1
theorem dX2_listenToChance_44 : decode cX2_listenToChance 44 = .ok (.istore 8, 2) := dAX2_listenToChance_3.2.2.2.1
theorem dX2_listenToChance_46 : decode cX2_listenToChance 46 = .ok (.iload 5, 2) := dAX2_listenToChance_3.2.2.2.2.1
theorem dX2_listenToChance_48 : decode cX2_listenToChance 48 = .ok (.iload 8, 2) := dAX2_listenToChance_3.2.2.2.2.2.1
theorem dX2_listenToChance_50 : decode cX2_listenToChance 50 = .ok (.aload_n 2, 1) := dAX2_listenToChance_3.2.2.2.2.2.2.1
theorem dX2_listenToChance_51 : decode cX2_listenToChance 51 = .ok (.aload_n 1, 1) := dAX2_listenToChance_3.2.2.2.2.2.2.2
set_option maxRecDepth 100000 in
theorem dAX2_listenToChance_4 : decode cX2_listenToChance 52 = .ok (.iload_n 3, 1) ∧ decode cX2_listenToChance 53 = .ok (.iload 6, 2) ∧ decode cX2_listenToChance 55 = .ok (.invokevirtual 91, 3) ∧ decode cX2_listenToChance 58 = .ok (.imul, 1) ∧ decode cX2_listenToChance 59 = .ok (.iadd, 1) ∧ decode cX2_listenToChance 60 = .ok (.istore 5, 2) ∧ decode cX2_listenToChance 62 = .ok (.iinc 6 1, 3) ∧ decode cX2_listenToChance 65 = .ok (.goto (-59), 3) := by decide +kernel
theorem dX2_listenToChance_52 : decode cX2_listenToChance 52 = .ok (.iload_n 3, 1) := dAX2_listenToChance_4.1
theorem dX2_listenToChance_53 : decode cX2_listenToChance 53 = .ok (.iload 6, 2) := dAX2_listenToChance_4.2.1
theorem dX2_listenToChance_55 : decode cX2_listenToChance 55 = .ok (.invokevirtual 91, 3) := dAX2_listenToChance_4.2.2.1
theorem dX2_listenToChance_58 : decode cX2_listenToChance 58 = .ok (.imul, 1) := dAX2_listenToChance_4.2.2.2.1
theorem dX2_listenToChance_59 : decode cX2_listenToChance 59 = .ok (.iadd, 1) := dAX2_listenToChance_4.2.2.2.2.1
theorem dX2_listenToChance_60 : decode cX2_listenToChance 60 = .ok (.istore 5, 2) := dAX2_listenToChance_4.2.2.2.2.2.1
theorem dX2_listenToChance_62 : decode cX2_listenToChance 62 = .ok (.iinc 6 1, 3) := dAX2_listenToChance_4.2.2.2.2.2.2.1
theorem dX2_listenToChance_65 : decode cX2_listenToChance 65 = .ok (.goto (-59), 3) := dAX2_listenToChance_4.2.2.2.2.2.2.2
set_option maxRecDepth 100000 in
theorem dAX2_listenToChance_5 : decode cX2_listenToChance 68 = .ok (.iload 5, 2) ∧ decode cX2_listenToChance 70 = .ok (.aload_n 1, 1) ∧ decode cX2_listenToChance 71 = .ok (.getfield 94, 3) ∧ decode cX2_listenToChance 74 = .ok (.iload_n 3, 1) ∧ decode cX2_listenToChance 75 = .ok (.iaload, 1) ∧ decode cX2_listenToChance 76 = .ok (.invokestatic 97, 3) ∧ decode cX2_listenToChance 79 = .ok (.ireturn, 1) := by decide +kernel
theorem dX2_listenToChance_68 : decode cX2_listenToChance 68 = .ok (.iload 5, 2) := dAX2_listenToChance_5.1
theorem dX2_listenToChance_70 : decode cX2_listenToChance 70 = .ok (.aload_n 1, 1) := dAX2_listenToChance_5.2.1
theorem dX2_listenToChance_71 : decode cX2_listenToChance 71 = .ok (.getfield 94, 3) := dAX2_listenToChance_5.2.2.1
theorem dX2_listenToChance_74 : decode cX2_listenToChance 74 = .ok (.iload_n 3, 1) := dAX2_listenToChance_5.2.2.2.1
theorem dX2_listenToChance_75 : decode cX2_listenToChance 75 = .ok (.iaload, 1) := dAX2_listenToChance_5.2.2.2.2.1
theorem dX2_listenToChance_76 : decode cX2_listenToChance 76 = .ok (.invokestatic 97, 3) := dAX2_listenToChance_5.2.2.2.2.2.1
theorem dX2_listenToChance_79 : decode cX2_listenToChance 79 = .ok (.ireturn, 1) := dAX2_listenToChance_5.2.2.2.2.2.2
set_option maxRecDepth 100000 in
theorem dAX2_listenToRuler_0 : decode cX2_listenToRuler 0 = .ok (.aload_n 1, 1) ∧ decode cX2_listenToRuler 1 = .ok (.getfield 65, 3) ∧ decode cX2_listenToRuler 4 = .ok (.iload_n 3, 1) ∧ decode cX2_listenToRuler 5 = .ok (.iaload, 1) ∧ decode cX2_listenToRuler 6 = .ok (.iconst 1, 1) ∧ decode cX2_listenToRuler 7 = .ok (.if_icmp .ne 7, 3) ∧ decode cX2_listenToRuler 10 = .ok (.iconst 1, 1) ∧ decode cX2_listenToRuler 11 = .ok (.goto 4, 3) := by decide +kernel
theorem dX2_listenToRuler_0 : decode cX2_listenToRuler 0 = .ok (.aload_n 1, 1) := dAX2_listenToRuler_0.1
theorem dX2_listenToRuler_1 : decode cX2_listenToRuler 1 = .ok (.getfield 65, 3) := dAX2_listenToRuler_0.2.1
theorem dX2_listenToRuler_4 : decode cX2_listenToRuler 4 = .ok (.iload_n 3, 1) := dAX2_listenToRuler_0.2.2.1
theorem dX2_listenToRuler_5 : decode cX2_listenToRuler 5 = .ok (.iaload, 1) := dAX2_listenToRuler_0.2.2.2.1
theorem dX2_listenToRuler_6 : decode cX2_listenToRuler 6 = .ok (.iconst 1, 1) := dAX2_listenToRuler_0.2.2.2.2.1
theorem dX2_listenToRuler_7 : decode cX2_listenToRuler 7 = .ok (.if_icmp .ne 7, 3) := dAX2_listenToRuler_0.2.2.2.2.2.1
theorem dX2_listenToRuler_10 : decode cX2_listenToRuler 10 = .ok (.iconst 1, 1) := dAX2_listenToRuler_0.2.2.2.2.2.2.1
theorem dX2_listenToRuler_11 : decode cX2_listenToRuler 11 = .ok (.goto 4, 3) := dAX2_listenToRuler_0.2.2.2.2.2.2.2
set_option maxRecDepth 100000 in
theorem dAX2_listenToRuler_1 : decode cX2_listenToRuler 14 = .ok (.iconst 0, 1) ∧ decode cX2_listenToRuler 15 = .ok (.istore 7, 2) ∧ decode cX2_listenToRuler 17 = .ok (.iload 4, 2) ∧ decode cX2_listenToRuler 19 = .ok (.istore 8, 2) ∧ decode cX2_listenToRuler 21 = .ok (.iload 5, 2) ∧ decode cX2_listenToRuler 23 = .ok (.istore 9, 2) ∧ decode cX2_listenToRuler 25 = .ok (.iconst 0, 1) ∧ decode cX2_listenToRuler 26 = .ok (.istore 10, 2) := by decide +kernel
theorem dX2_listenToRuler_14 : decode cX2_listenToRuler 14 = .ok (.iconst 0, 1) := dAX2_listenToRuler_1.1
theorem dX2_listenToRuler_15 : decode cX2_listenToRuler 15 = .ok (.istore 7, 2) := dAX2_listenToRuler_1.2.1
theorem dX2_listenToRuler_17 : decode cX2_listenToRuler 17 = .ok (.iload 4, 2) := dAX2_listenToRuler_1.2.2.1
theorem dX2_listenToRuler_19 : decode cX2_listenToRuler 19 = .ok (.istore 8, 2) := dAX2_listenToRuler_1.2.2.2.1
theorem dX2_listenToRuler_21 : decode cX2_listenToRuler 21 = .ok (.iload 5, 2) := dAX2_listenToRuler_1.2.2.2.2.1
theorem dX2_listenToRuler_23 : decode cX2_listenToRuler 23 = .ok (.istore 9, 2) := dAX2_listenToRuler_1.2.2.2.2.2.1
theorem dX2_listenToRuler_25 : decode cX2_listenToRuler 25 = .ok (.iconst 0, 1) := dAX2_listenToRuler_1.2.2.2.2.2.2.1
theorem dX2_listenToRuler_26 : decode cX2_listenToRuler 26 = .ok (.istore 10, 2) := dAX2_listenToRuler_1.2.2.2.2.2.2.2
set_option maxRecDepth 100000 in
theorem dAX2_listenToRuler_2 : decode cX2_listenToRuler 28 = .ok (.iconst 0, 1) ∧ decode cX2_listenToRuler 29 = .ok (.istore 11, 2) ∧ decode cX2_listenToRuler 31 = .ok (.iload 11, 2) ∧ decode cX2_listenToRuler 33 = .ok (.aload_n 1, 1) ∧ decode cX2_listenToRuler 34 = .ok (.getfield 84, 3) ∧ decode cX2_listenToRuler 37 = .ok (.iload_n 3, 1) ∧ decode cX2_listenToRuler 38 = .ok (.iaload, 1) ∧ decode cX2_listenToRuler 39 = .ok (.if_icmp .ge 126, 3) := by decide +kernel
theorem dX2_listenToRuler_28 : decode cX2_listenToRuler 28 = .ok (.iconst 0, 1) := dAX2_listenToRuler_2.1
theorem dX2_listenToRuler_29 : decode cX2_listenToRuler 29 = .ok (.istore 11, 2) := dAX2_listenToRuler_2.2.1
theorem dX2_listenToRuler_31 : decode cX2_listenToRuler 31 = .ok (.iload 11, 2) := dAX2_listenToRuler_2.2.2.1
theorem dX2_listenToRuler_33 : decode cX2_listenToRuler 33 = .ok (.aload_n 1, 1) := dAX2_listenToRuler_2.2.2.2.1
theorem dX2_listenToRuler_34 : decode cX2_listenToRuler 34 = .ok (.getfield 84, 3) := dAX2_listenToRuler_2.2.2.2.2.1
theorem dX2_listenToRuler_37 : decode cX2_listenToRuler 37 = .ok (.iload_n 3, 1) := dAX2_listenToRuler_2.2.2.2.2.2.1
theorem dX2_listenToRuler_38 : decode cX2_listenToRuler 38 = .ok (.iaload, 1) := dAX2_listenToRuler_2.2.2.2.2.2.2.1
theorem dX2_listenToRuler_39 : decode cX2_listenToRuler 39 = .ok (.if_icmp .ge 126, 3) := dAX2_listenToRuler_2.2.2.2.2.2.2.2
set_option maxRecDepth 100000 in
theorem dAX2_listenToRuler_3 : decode cX2_listenToRuler 42 = .ok (.aload_n 0, 1) ∧ decode cX2_listenToRuler 43 = .ok (.aload_n 1, 1) ∧ decode cX2_listenToRuler 44 = .ok (.aload_n 2, 1) ∧ decode cX2_listenToRuler 45 = .ok (.aload_n 2, 1) ∧ decode cX2_listenToRuler 46 = .ok (.aload_n 1, 1) ∧ decode cX2_listenToRuler 47 = .ok (.iload_n 3, 1) ∧ decode cX2_listenToRuler 48 = .ok (.iload 11, 2) ∧ decode cX2_listenToRuler 50 = .ok (.invokevirtual 87, 3) := by decide +kernel
theorem dX2_listenToRuler_42 : decode cX2_listenToRuler 42 = .ok (.aload_n 0, 1) := dAX2_listenToRuler_3.1
theorem dX2_listenToRuler_43 : decode cX2_listenToRuler 43 = .ok (.aload_n 1, 1) := dAX2_listenToRuler_3.2.1
theorem dX2_listenToRuler_44 : decode cX2_listenToRuler 44 = .ok (.aload_n 2, 1) := dAX2_listenToRuler_3.2.2.1
theorem dX2_listenToRuler_45 : decode cX2_listenToRuler 45 = .ok (.aload_n 2, 1) := dAX2_listenToRuler_3.2.2.2.1
theorem dX2_listenToRuler_46 : decode cX2_listenToRuler 46 = .ok (.aload_n 1, 1) := dAX2_listenToRuler_3.2.2.2.2.1
theorem dX2_listenToRuler_47 : decode cX2_listenToRuler 47 = .ok (.iload_n 3, 1) := dAX2_listenToRuler_3.2.2.2.2.2.1
theorem dX2_listenToRuler_48 : decode cX2_listenToRuler 48 = .ok (.iload 11, 2) := dAX2_listenToRuler_3.2.2.2.2.2.2.1
theorem dX2_listenToRuler_50 : decode cX2_listenToRuler 50 = .ok (.invokevirtual 87, 3) := dAX2_listenToRuler_3.2.2.2.2.2.2.2
set_option maxRecDepth 100000 in
theorem dAX2_listenToRuler_4 : decode cX2_listenToRuler 53 = .ok (.iload 8, 2) ∧ decode cX2_listenToRuler 55 = .ok (.iload 9, 2) ∧ decode cX2_listenToRuler 57 = .ok (.iload 6, 2) ∧ decode cX2_listenToRuler 59 = .ok (.iconst 1, 1) ∧ decode cX2_listenToRuler 60 = .ok (.iadd, 1) ∧ decode cX2_listenToRuler 61 = .ok (.invokevirtual 43, 3) ∧ decode cX2_listenToRuler 64 = .ok (.istore 12, 2) ∧ decode cX2_listenToRuler 66 = .ok (.iload 11, 2) := by decide +kernel
theorem dX2_listenToRuler_53 : decode cX2_listenToRuler 53 = .ok (.iload 8, 2) := dAX2_listenToRuler_4.1
theorem dX2_listenToRuler_55 : decode cX2_listenToRuler 55 = .ok (.iload 9, 2) := dAX2_listenToRuler_4.2.1
theorem dX2_listenToRuler_57 : decode cX2_listenToRuler 57 = .ok (.iload 6, 2) := dAX2_listenToRuler_4.2.2.1
theorem dX2_listenToRuler_59 : decode cX2_listenToRuler 59 = .ok (.iconst 1, 1) := dAX2_listenToRuler_4.2.2.2.1
theorem dX2_listenToRuler_60 : decode cX2_listenToRuler 60 = .ok (.iadd, 1) := dAX2_listenToRuler_4.2.2.2.2.1
theorem dX2_listenToRuler_61 : decode cX2_listenToRuler 61 = .ok (.invokevirtual 43, 3) := dAX2_listenToRuler_4.2.2.2.2.2.1
theorem dX2_listenToRuler_64 : decode cX2_listenToRuler 64 = .ok (.istore 12, 2) := dAX2_listenToRuler_4.2.2.2.2.2.2.1
theorem dX2_listenToRuler_66 : decode cX2_listenToRuler 66 = .ok (.iload 11, 2) := dAX2_listenToRuler_4.2.2.2.2.2.2.2
set_option maxRecDepth 100000 in
theorem dAX2_listenToRuler_5 : decode cX2_listenToRuler 68 = .ok (.ifCond .eq 25, 3) ∧ decode cX2_listenToRuler 71 = .ok (.iload 7, 2) ∧ decode cX2_listenToRuler 73 = .ok (.ifCond .eq 13, 3) ∧ decode cX2_listenToRuler 76 = .ok (.iload 12, 2) ∧ decode cX2_listenToRuler 78 = .ok (.iload 10, 2) ∧ decode cX2_listenToRuler 80 = .ok (.if_icmp .le 17, 3) ∧ decode cX2_listenToRuler 83 = .ok (.goto 10, 3) ∧ decode cX2_listenToRuler 86 = .ok (.iload 12, 2) := by decide +kernel
theorem dX2_listenToRuler_68 : decode cX2_listenToRuler 68 = .ok (.ifCond .eq 25, 3) := dAX2_listenToRuler_5.1
theorem dX2_listenToRuler_71 : decode cX2_listenToRuler 71 = .ok (.iload 7, 2) := dAX2_listenToRuler_5.2.1
theorem dX2_listenToRuler_73 : decode cX2_listenToRuler 73 = .ok (.ifCond .eq 13, 3) := dAX2_listenToRuler_5.2.2.1
theorem dX2_listenToRuler_76 : decode cX2_listenToRuler 76 = .ok (.iload 12, 2) := dAX2_listenToRuler_5.2.2.2.1
theorem dX2_listenToRuler_78 : decode cX2_listenToRuler 78 = .ok (.iload 10, 2) := dAX2_listenToRuler_5.2.2.2.2.1
theorem dX2_listenToRuler_80 : decode cX2_listenToRuler 80 = .ok (.if_icmp .le 17, 3) := dAX2_listenToRuler_5.2.2.2.2.2.1
theorem dX2_listenToRuler_83 : decode cX2_listenToRuler 83 = .ok (.goto 10, 3) := dAX2_listenToRuler_5.2.2.2.2.2.2.1
theorem dX2_listenToRuler_86 : decode cX2_listenToRuler 86 = .ok (.iload 12, 2) := dAX2_listenToRuler_5.2.2.2.2.2.2.2
set_option maxRecDepth 100000 in
theorem dAX2_listenToRuler_6 : decode cX2_listenToRuler 88 = .ok (.iload 10, 2) ∧ decode cX2_listenToRuler 90 = .ok (.if_icmp .ge 7, 3) ∧ decode cX2_listenToRuler 93 = .ok (.iload 12, 2) ∧ decode cX2_listenToRuler 95 = .ok (.istore 10, 2) ∧ decode cX2_listenToRuler 97 = .ok (.iload 7, 2) ∧ decode cX2_listenToRuler 99 = .ok (.ifCond .eq 13, 3) ∧ decode cX2_listenToRuler 102 = .ok (.iload 10, 2) ∧ decode cX2_listenToRuler 104 = .ok (.iload 9, 2) := by decide +kernel
theorem dX2_listenToRuler_88 : decode cX2_listenToRuler 88 = .ok (.iload 10, 2) := dAX2_listenToRuler_6.1
theorem dX2_listenToRuler_90 : decode cX2_listenToRuler 90 = .ok (.if_icmp .ge 7, 3) := dAX2_listenToRuler_6.2.1
theorem dX2_listenToRuler_93 : decode cX2_listenToRuler 93 = .ok (.iload 12, 2) := dAX2_listenToRuler_6.2.2.1
theorem dX2_listenToRuler_95 : decode cX2_listenToRuler 95 = .ok (.istore 10, 2) := dAX2_listenToRuler_6.2.2.2.1
theorem dX2_listenToRuler_97 : decode cX2_listenToRuler 97 = .ok (.iload 7, 2) := dAX2_listenToRuler_6.2.2.2.2.1
theorem dX2_listenToRuler_99 : decode cX2_listenToRuler 99 = .ok (.ifCond .eq 13, 3) := dAX2_listenToRuler_6.2.2.2.2.2.1
theorem dX2_listenToRuler_102 : decode cX2_listenToRuler 102 = .ok (.iload 10, 2) := dAX2_listenToRuler_6.2.2.2.2.2.2.1
theorem dX2_listenToRuler_104 : decode cX2_listenToRuler 104 = .ok (.iload 9, 2) := dAX2_listenToRuler_6.2.2.2.2.2.2.2
set_option maxRecDepth 100000 in
theorem dAX2_listenToRuler_7 : decode cX2_listenToRuler 106 = .ok (.if_icmp .lt 27, 3) ∧ decode cX2_listenToRuler 109 = .ok (.goto 10, 3) ∧ decode cX2_listenToRuler 112 = .ok (.iload 10, 2) ∧ decode cX2_listenToRuler 114 = .ok (.iload 8, 2) ∧ decode cX2_listenToRuler 116 = .ok (.if_icmp .gt 17, 3) ∧ decode cX2_listenToRuler 119 = .ok (.aload_n 0, 1) ∧ decode cX2_listenToRuler 120 = .ok (.aload_n 1, 1) ∧ decode cX2_listenToRuler 121 = .ok (.aload_n 2, 1) := by decide +kernel
theorem dX2_listenToRuler_106 : decode cX2_listenToRuler 106 = .ok (.if_icmp .lt 27, 3) := dAX2_listenToRuler_7.1
theorem dX2_listenToRuler_109 : decode cX2_listenToRuler 109 = .ok (.goto 10, 3) := dAX2_listenToRuler_7.2.1
theorem dX2_listenToRuler_112 : decode cX2_listenToRuler 112 = .ok (.iload 10, 2) := dAX2_listenToRuler_7.2.2.1
theorem dX2_listenToRuler_114 : decode cX2_listenToRuler 114 = .ok (.iload 8, 2) := dAX2_listenToRuler_7.2.2.2.1
theorem dX2_listenToRuler_116 : decode cX2_listenToRuler 116 = .ok (.if_icmp .gt 17, 3) := dAX2_listenToRuler_7.2.2.2.2.1
theorem dX2_listenToRuler_119 : decode cX2_listenToRuler 119 = .ok (.aload_n 0, 1) := dAX2_listenToRuler_7.2.2.2.2.2.1
theorem dX2_listenToRuler_120 : decode cX2_listenToRuler 120 = .ok (.aload_n 1, 1) := dAX2_listenToRuler_7.2.2.2.2.2.2.1
theorem dX2_listenToRuler_121 : decode cX2_listenToRuler 121 = .ok (.aload_n 2, 1) := dAX2_listenToRuler_7.2.2.2.2.2.2.2
set_option maxRecDepth 100000 in
theorem dAX2_listenToRuler_8 : decode cX2_listenToRuler 122 = .ok (.iload_n 3, 1) ∧ decode cX2_listenToRuler 123 = .ok (.iload 11, 2) ∧ decode cX2_listenToRuler 125 = .ok (.iconst 1, 1) ∧ decode cX2_listenToRuler 126 = .ok (.iadd, 1) ∧ decode cX2_listenToRuler 127 = .ok (.invokevirtual 101, 3) ∧ decode cX2_listenToRuler 130 = .ok (.iload 10, 2) ∧ decode cX2_listenToRuler 132 = .ok (.ireturn, 1) ∧ decode cX2_listenToRuler 133 = .ok (.iload 7, 2) := by decide +kernel
theorem dX2_listenToRuler_122 : decode cX2_listenToRuler 122 = .ok (.iload_n 3, 1) := dAX2_listenToRuler_8.1
theorem dX2_listenToRuler_123 : decode cX2_listenToRuler 123 = .ok (.iload 11, 2) := dAX2_listenToRuler_8.2.1
theorem dX2_listenToRuler_125 : decode cX2_listenToRuler 125 = .ok (.iconst 1, 1) := dAX2_listenToRuler_8.2.2.1
theorem dX2_listenToRuler_126 : decode cX2_listenToRuler 126 = .ok (.iadd, 1) := dAX2_listenToRuler_8.2.2.2.1
theorem dX2_listenToRuler_127 : decode cX2_listenToRuler 127 = .ok (.invokevirtual 101, 3) := dAX2_listenToRuler_8.2.2.2.2.1
theorem dX2_listenToRuler_130 : decode cX2_listenToRuler 130 = .ok (.iload 10, 2) := dAX2_listenToRuler_8.2.2.2.2.2.1
theorem dX2_listenToRuler_132 : decode cX2_listenToRuler 132 = .ok (.ireturn, 1) := dAX2_listenToRuler_8.2.2.2.2.2.2.1
theorem dX2_listenToRuler_133 : decode cX2_listenToRuler 133 = .ok (.iload 7, 2) := dAX2_listenToRuler_8.2.2.2.2.2.2.2
set_option maxRecDepth 100000 in
theorem dAX2_listenToRuler_9 : decode cX2_listenToRuler 135 = .ok (.ifCond .eq 15, 3) ∧ decode cX2_listenToRuler 138 = .ok (.iload 8, 2) ∧ decode cX2_listenToRuler 140 = .ok (.iload 10, 2) ∧ decode cX2_listenToRuler 142 = .ok (.invokestatic 105, 3) ∧ decode cX2_listenToRuler 145 = .ok (.istore 8, 2) ∧ decode cX2_listenToRuler 147 = .ok (.goto 12, 3) ∧ decode cX2_listenToRuler 150 = .ok (.iload 9, 2) ∧ decode cX2_listenToRuler 152 = .ok (.iload 10, 2) := by decide +kernel
theorem dX2_listenToRuler_135 : decode cX2_listenToRuler 135 = .ok (.ifCond .eq 15, 3) := dAX2_listenToRuler_9.1
theorem dX2_listenToRuler_138 : decode cX2_listenToRuler 138 = .ok (.iload 8, 2) := dAX2_listenToRuler_9.2.1
theorem dX2_listenToRuler_140 : decode cX2_listenToRuler 140 = .ok (.iload 10, 2) := dAX2_listenToRuler_9.2.2.1
theorem dX2_listenToRuler_142 : decode cX2_listenToRuler 142 = .ok (.invokestatic 105, 3) := dAX2_listenToRuler_9.2.2.2.1
theorem dX2_listenToRuler_145 : decode cX2_listenToRuler 145 = .ok (.istore 8, 2) := dAX2_listenToRuler_9.2.2.2.2.1
theorem dX2_listenToRuler_147 : decode cX2_listenToRuler 147 = .ok (.goto 12, 3) := dAX2_listenToRuler_9.2.2.2.2.2.1
theorem dX2_listenToRuler_150 : decode cX2_listenToRuler 150 = .ok (.iload 9, 2) := dAX2_listenToRuler_9.2.2.2.2.2.2.1
theorem dX2_listenToRuler_152 : decode cX2_listenToRuler 152 = .ok (.iload 10, 2) := dAX2_listenToRuler_9.2.2.2.2.2.2.2
set_option maxRecDepth 100000 in
theorem dAX2_listenToRuler_10 : decode cX2_listenToRuler 154 = .ok (.invokestatic 110, 3) ∧ decode cX2_listenToRuler 157 = .ok (.istore 9, 2) ∧ decode cX2_listenToRuler 159 = .ok (.iinc 11 1, 3) ∧ decode cX2_listenToRuler 162 = .ok (.goto (-131), 3) ∧ decode cX2_listenToRuler 165 = .ok (.iload 10, 2) ∧ decode cX2_listenToRuler 167 = .ok (.ireturn, 1) := by decide +kernel
theorem dX2_listenToRuler_154 : decode cX2_listenToRuler 154 = .ok (.invokestatic 110, 3) := dAX2_listenToRuler_10.1
theorem dX2_listenToRuler_157 : decode cX2_listenToRuler 157 = .ok (.istore 9, 2) := dAX2_listenToRuler_10.2.1
theorem dX2_listenToRuler_159 : decode cX2_listenToRuler 159 = .ok (.iinc 11 1, 3) := dAX2_listenToRuler_10.2.2.1
theorem dX2_listenToRuler_162 : decode cX2_listenToRuler 162 = .ok (.goto (-131), 3) := dAX2_listenToRuler_10.2.2.2.1
theorem dX2_listenToRuler_165 : decode cX2_listenToRuler 165 = .ok (.iload 10, 2) := dAX2_listenToRuler_10.2.2.2.2.1
theorem dX2_listenToRuler_167 : decode cX2_listenToRuler 167 = .ok (.ireturn, 1) := dAX2_listenToRuler_10.2.2.2.2.2
set_option maxRecDepth 100000 in
theorem dAX2_noteCuts_0 : decode cX2_noteCuts 0 = .ok (.iload 4, 2) ∧ decode cX2_noteCuts 2 = .ok (.istore 5, 2) ∧ decode cX2_noteCuts 4 = .ok (.iload 5, 2) ∧ decode cX2_noteCuts 6 = .ok (.aload_n 1, 1) ∧ decode cX2_noteCuts 7 = .ok (.getfield 84, 3) ∧ decode cX2_noteCuts 10 = .ok (.iload_n 3, 1) ∧ decode cX2_noteCuts 11 = .ok (.iaload, 1) ∧ decode cX2_noteCuts 12 = .ok (.if_icmp .ge 46, 3) := by decide +kernel
theorem dX2_noteCuts_0 : decode cX2_noteCuts 0 = .ok (.iload 4, 2) := dAX2_noteCuts_0.1
theorem dX2_noteCuts_2 : decode cX2_noteCuts 2 = .ok (.istore 5, 2) := dAX2_noteCuts_0.2.1
theorem dX2_noteCuts_4 : decode cX2_noteCuts 4 = .ok (.iload 5, 2) := dAX2_noteCuts_0.2.2.1
theorem dX2_noteCuts_6 : decode cX2_noteCuts 6 = .ok (.aload_n 1, 1) := dAX2_noteCuts_0.2.2.2.1
theorem dX2_noteCuts_7 : decode cX2_noteCuts 7 = .ok (.getfield 84, 3) := dAX2_noteCuts_0.2.2.2.2.1
theorem dX2_noteCuts_10 : decode cX2_noteCuts 10 = .ok (.iload_n 3, 1) := dAX2_noteCuts_0.2.2.2.2.2.1
theorem dX2_noteCuts_11 : decode cX2_noteCuts 11 = .ok (.iaload, 1) := dAX2_noteCuts_0.2.2.2.2.2.2.1
theorem dX2_noteCuts_12 : decode cX2_noteCuts 12 = .ok (.if_icmp .ge 46, 3) := dAX2_noteCuts_0.2.2.2.2.2.2.2
set_option maxRecDepth 100000 in
theorem dAX2_noteCuts_1 : decode cX2_noteCuts 15 = .ok (.aload_n 0, 1) ∧ decode cX2_noteCuts 16 = .ok (.getfield 30, 3) ∧ decode cX2_noteCuts 19 = .ok (.sipush 512, 3) ∧ decode cX2_noteCuts 22 = .ok (.if_icmp .ge 20, 3) ∧ decode cX2_noteCuts 25 = .ok (.aload_n 0, 1) ∧ decode cX2_noteCuts 26 = .ok (.getfield 15, 3) ∧ decode cX2_noteCuts 29 = .ok (.aload_n 0, 1) ∧ decode cX2_noteCuts 30 = .ok (.getfield 30, 3) := by decide +kernel
theorem dX2_noteCuts_15 : decode cX2_noteCuts 15 = .ok (.aload_n 0, 1) := dAX2_noteCuts_1.1
theorem dX2_noteCuts_16 : decode cX2_noteCuts 16 = .ok (.getfield 30, 3) := dAX2_noteCuts_1.2.1
theorem dX2_noteCuts_19 : decode cX2_noteCuts 19 = .ok (.sipush 512, 3) := dAX2_noteCuts_1.2.2.1
theorem dX2_noteCuts_22 : decode cX2_noteCuts 22 = .ok (.if_icmp .ge 20, 3) := dAX2_noteCuts_1.2.2.2.1
theorem dX2_noteCuts_25 : decode cX2_noteCuts 25 = .ok (.aload_n 0, 1) := dAX2_noteCuts_1.2.2.2.2.1
theorem dX2_noteCuts_26 : decode cX2_noteCuts 26 = .ok (.getfield 15, 3) := dAX2_noteCuts_1.2.2.2.2.2.1
theorem dX2_noteCuts_29 : decode cX2_noteCuts 29 = .ok (.aload_n 0, 1) := dAX2_noteCuts_1.2.2.2.2.2.2.1
theorem dX2_noteCuts_30 : decode cX2_noteCuts 30 = .ok (.getfield 30, 3) := dAX2_noteCuts_1.2.2.2.2.2.2.2
set_option maxRecDepth 100000 in
theorem dAX2_noteCuts_2 : decode cX2_noteCuts 33 = .ok (.aload_n 2, 1) ∧ decode cX2_noteCuts 34 = .ok (.aload_n 1, 1) ∧ decode cX2_noteCuts 35 = .ok (.iload_n 3, 1) ∧ decode cX2_noteCuts 36 = .ok (.iload 5, 2) ∧ decode cX2_noteCuts 38 = .ok (.invokevirtual 87, 3) ∧ decode cX2_noteCuts 41 = .ok (.iastore, 1) ∧ decode cX2_noteCuts 42 = .ok (.aload_n 0, 1) ∧ decode cX2_noteCuts 43 = .ok (.dup, 1) := by decide +kernel
theorem dX2_noteCuts_33 : decode cX2_noteCuts 33 = .ok (.aload_n 2, 1) := dAX2_noteCuts_2.1
theorem dX2_noteCuts_34 : decode cX2_noteCuts 34 = .ok (.aload_n 1, 1) := dAX2_noteCuts_2.2.1
theorem dX2_noteCuts_35 : decode cX2_noteCuts 35 = .ok (.iload_n 3, 1) := dAX2_noteCuts_2.2.2.1
theorem dX2_noteCuts_36 : decode cX2_noteCuts 36 = .ok (.iload 5, 2) := dAX2_noteCuts_2.2.2.2.1
theorem dX2_noteCuts_38 : decode cX2_noteCuts 38 = .ok (.invokevirtual 87, 3) := dAX2_noteCuts_2.2.2.2.2.1
theorem dX2_noteCuts_41 : decode cX2_noteCuts 41 = .ok (.iastore, 1) := dAX2_noteCuts_2.2.2.2.2.2.1
theorem dX2_noteCuts_42 : decode cX2_noteCuts 42 = .ok (.aload_n 0, 1) := dAX2_noteCuts_2.2.2.2.2.2.2.1
theorem dX2_noteCuts_43 : decode cX2_noteCuts 43 = .ok (.dup, 1) := dAX2_noteCuts_2.2.2.2.2.2.2.2
set_option maxRecDepth 100000 in
theorem dAX2_noteCuts_3 : decode cX2_noteCuts 44 = .ok (.getfield 30, 3) ∧ decode cX2_noteCuts 47 = .ok (.iconst 1, 1) ∧ decode cX2_noteCuts 48 = .ok (.iadd, 1) ∧ decode cX2_noteCuts 49 = .ok (.putfield 30, 3) ∧ decode cX2_noteCuts 52 = .ok (.iinc 5 1, 3) ∧ decode cX2_noteCuts 55 = .ok (.goto (-51), 3) ∧ decode cX2_noteCuts 58 = .ok (.return_, 1) := by decide +kernel
theorem dX2_noteCuts_44 : decode cX2_noteCuts 44 = .ok (.getfield 30, 3) := dAX2_noteCuts_3.1
theorem dX2_noteCuts_47 : decode cX2_noteCuts 47 = .ok (.iconst 1, 1) := dAX2_noteCuts_3.2.1
theorem dX2_noteCuts_48 : decode cX2_noteCuts 48 = .ok (.iadd, 1) := dAX2_noteCuts_3.2.2.1
theorem dX2_noteCuts_49 : decode cX2_noteCuts 49 = .ok (.putfield 30, 3) := dAX2_noteCuts_3.2.2.2.1
theorem dX2_noteCuts_52 : decode cX2_noteCuts 52 = .ok (.iinc 5 1, 3) := dAX2_noteCuts_3.2.2.2.2.1
theorem dX2_noteCuts_55 : decode cX2_noteCuts 55 = .ok (.goto (-51), 3) := dAX2_noteCuts_3.2.2.2.2.2.1
theorem dX2_noteCuts_58 : decode cX2_noteCuts 58 = .ok (.return_, 1) := dAX2_noteCuts_3.2.2.2.2.2.2
set_option maxRecDepth 100000 in
theorem dAX2_noteWord_0 : decode cX2_noteWord 0 = .ok (.aload_n 0, 1) ∧ decode cX2_noteWord 1 = .ok (.getfield 24, 3) ∧ decode cX2_noteWord 4 = .ok (.sipush 512, 3) ∧ decode cX2_noteWord 7 = .ok (.if_icmp .ge 13, 3) ∧ decode cX2_noteWord 10 = .ok (.aload_n 0, 1) ∧ decode cX2_noteWord 11 = .ok (.getfield 9, 3) ∧ decode cX2_noteWord 14 = .ok (.aload_n 0, 1) ∧ decode cX2_noteWord 15 = .ok (.getfield 24, 3) := by decide +kernel
theorem dX2_noteWord_0 : decode cX2_noteWord 0 = .ok (.aload_n 0, 1) := dAX2_noteWord_0.1
theorem dX2_noteWord_1 : decode cX2_noteWord 1 = .ok (.getfield 24, 3) := dAX2_noteWord_0.2.1
theorem dX2_noteWord_4 : decode cX2_noteWord 4 = .ok (.sipush 512, 3) := dAX2_noteWord_0.2.2.1
theorem dX2_noteWord_7 : decode cX2_noteWord 7 = .ok (.if_icmp .ge 13, 3) := dAX2_noteWord_0.2.2.2.1
theorem dX2_noteWord_10 : decode cX2_noteWord 10 = .ok (.aload_n 0, 1) := dAX2_noteWord_0.2.2.2.2.1
theorem dX2_noteWord_11 : decode cX2_noteWord 11 = .ok (.getfield 9, 3) := dAX2_noteWord_0.2.2.2.2.2.1
theorem dX2_noteWord_14 : decode cX2_noteWord 14 = .ok (.aload_n 0, 1) := dAX2_noteWord_0.2.2.2.2.2.2.1
theorem dX2_noteWord_15 : decode cX2_noteWord 15 = .ok (.getfield 24, 3) := dAX2_noteWord_0.2.2.2.2.2.2.2
set_option maxRecDepth 100000 in
theorem dAX2_noteWord_1 : decode cX2_noteWord 18 = .ok (.iload_n 1, 1) ∧ decode cX2_noteWord 19 = .ok (.iastore, 1) ∧ decode cX2_noteWord 20 = .ok (.aload_n 0, 1) ∧ decode cX2_noteWord 21 = .ok (.dup, 1) ∧ decode cX2_noteWord 22 = .ok (.getfield 24, 3) ∧ decode cX2_noteWord 25 = .ok (.iconst 1, 1) ∧ decode cX2_noteWord 26 = .ok (.iadd, 1) ∧ decode cX2_noteWord 27 = .ok (.putfield 24, 3) := by decide +kernel
theorem dX2_noteWord_18 : decode cX2_noteWord 18 = .ok (.iload_n 1, 1) := dAX2_noteWord_1.1
theorem dX2_noteWord_19 : decode cX2_noteWord 19 = .ok (.iastore, 1) := dAX2_noteWord_1.2.1
theorem dX2_noteWord_20 : decode cX2_noteWord 20 = .ok (.aload_n 0, 1) := dAX2_noteWord_1.2.2.1
theorem dX2_noteWord_21 : decode cX2_noteWord 21 = .ok (.dup, 1) := dAX2_noteWord_1.2.2.2.1
theorem dX2_noteWord_22 : decode cX2_noteWord 22 = .ok (.getfield 24, 3) := dAX2_noteWord_1.2.2.2.2.1
theorem dX2_noteWord_25 : decode cX2_noteWord 25 = .ok (.iconst 1, 1) := dAX2_noteWord_1.2.2.2.2.2.1
theorem dX2_noteWord_26 : decode cX2_noteWord 26 = .ok (.iadd, 1) := dAX2_noteWord_1.2.2.2.2.2.2.1
theorem dX2_noteWord_27 : decode cX2_noteWord 27 = .ok (.putfield 24, 3) := dAX2_noteWord_1.2.2.2.2.2.2.2
set_option maxRecDepth 100000 in
theorem dAX2_noteWord_2 : decode cX2_noteWord 30 = .ok (.aload_n 0, 1) ∧ decode cX2_noteWord 31 = .ok (.dup, 1) ∧ decode cX2_noteWord 32 = .ok (.getfield 27, 3) ∧ decode cX2_noteWord 35 = .ok (.iconst 1, 1) ∧ decode cX2_noteWord 36 = .ok (.iload_n 1, 1) ∧ decode cX2_noteWord 37 = .ok (.ishl, 1) ∧ decode cX2_noteWord 38 = .ok (.ior, 1) ∧ decode cX2_noteWord 39 = .ok (.putfield 27, 3) := by decide +kernel
theorem dX2_noteWord_30 : decode cX2_noteWord 30 = .ok (.aload_n 0, 1) := dAX2_noteWord_2.1
theorem dX2_noteWord_31 : decode cX2_noteWord 31 = .ok (.dup, 1) := dAX2_noteWord_2.2.1
theorem dX2_noteWord_32 : decode cX2_noteWord 32 = .ok (.getfield 27, 3) := dAX2_noteWord_2.2.2.1
theorem dX2_noteWord_35 : decode cX2_noteWord 35 = .ok (.iconst 1, 1) := dAX2_noteWord_2.2.2.2.1
theorem dX2_noteWord_36 : decode cX2_noteWord 36 = .ok (.iload_n 1, 1) := dAX2_noteWord_2.2.2.2.2.1
theorem dX2_noteWord_37 : decode cX2_noteWord 37 = .ok (.ishl, 1) := dAX2_noteWord_2.2.2.2.2.2.1
theorem dX2_noteWord_38 : decode cX2_noteWord 38 = .ok (.ior, 1) := dAX2_noteWord_2.2.2.2.2.2.2.1
theorem dX2_noteWord_39 : decode cX2_noteWord 39 = .ok (.putfield 27, 3) := dAX2_noteWord_2.2.2.2.2.2.2.2
theorem dX2_noteWord_42 : decode cX2_noteWord 42 = .ok (.return_, 1) := by decide +kernel
set_option maxRecDepth 100000 in
theorem dAX2_wordAt_0 : decode cX2_wordAt 0 = .ok (.iload_n 1, 1) ∧ decode cX2_wordAt 1 = .ok (.ifCond .lt 27, 3) ∧ decode cX2_wordAt 4 = .ok (.iload_n 1, 1) ∧ decode cX2_wordAt 5 = .ok (.aload_n 0, 1) ∧ decode cX2_wordAt 6 = .ok (.getfield 24, 3) ∧ decode cX2_wordAt 9 = .ok (.if_icmp .ge 19, 3) ∧ decode cX2_wordAt 12 = .ok (.iload_n 1, 1) ∧ decode cX2_wordAt 13 = .ok (.sipush 512, 3) := by decide +kernel
theorem dX2_wordAt_0 : decode cX2_wordAt 0 = .ok (.iload_n 1, 1) := dAX2_wordAt_0.1
theorem dX2_wordAt_1 : decode cX2_wordAt 1 = .ok (.ifCond .lt 27, 3) := dAX2_wordAt_0.2.1
theorem dX2_wordAt_4 : decode cX2_wordAt 4 = .ok (.iload_n 1, 1) := dAX2_wordAt_0.2.2.1
theorem dX2_wordAt_5 : decode cX2_wordAt 5 = .ok (.aload_n 0, 1) := dAX2_wordAt_0.2.2.2.1
theorem dX2_wordAt_6 : decode cX2_wordAt 6 = .ok (.getfield 24, 3) := dAX2_wordAt_0.2.2.2.2.1
theorem dX2_wordAt_9 : decode cX2_wordAt 9 = .ok (.if_icmp .ge 19, 3) := dAX2_wordAt_0.2.2.2.2.2.1
theorem dX2_wordAt_12 : decode cX2_wordAt 12 = .ok (.iload_n 1, 1) := dAX2_wordAt_0.2.2.2.2.2.2.1
theorem dX2_wordAt_13 : decode cX2_wordAt 13 = .ok (.sipush 512, 3) := dAX2_wordAt_0.2.2.2.2.2.2.2
set_option maxRecDepth 100000 in
theorem dAX2_wordAt_1 : decode cX2_wordAt 16 = .ok (.if_icmp .ge 12, 3) ∧ decode cX2_wordAt 19 = .ok (.aload_n 0, 1) ∧ decode cX2_wordAt 20 = .ok (.getfield 9, 3) ∧ decode cX2_wordAt 23 = .ok (.iload_n 1, 1) ∧ decode cX2_wordAt 24 = .ok (.iaload, 1) ∧ decode cX2_wordAt 25 = .ok (.goto 4, 3) ∧ decode cX2_wordAt 28 = .ok (.iconst (-1), 1) ∧ decode cX2_wordAt 29 = .ok (.ireturn, 1) := by decide +kernel
theorem dX2_wordAt_16 : decode cX2_wordAt 16 = .ok (.if_icmp .ge 12, 3) := dAX2_wordAt_1.1
theorem dX2_wordAt_19 : decode cX2_wordAt 19 = .ok (.aload_n 0, 1) := dAX2_wordAt_1.2.1
theorem dX2_wordAt_20 : decode cX2_wordAt 20 = .ok (.getfield 9, 3) := dAX2_wordAt_1.2.2.1
theorem dX2_wordAt_23 : decode cX2_wordAt 23 = .ok (.iload_n 1, 1) := dAX2_wordAt_1.2.2.2.1
theorem dX2_wordAt_24 : decode cX2_wordAt 24 = .ok (.iaload, 1) := dAX2_wordAt_1.2.2.2.2.1
theorem dX2_wordAt_25 : decode cX2_wordAt 25 = .ok (.goto 4, 3) := dAX2_wordAt_1.2.2.2.2.2.1
theorem dX2_wordAt_28 : decode cX2_wordAt 28 = .ok (.iconst (-1), 1) := dAX2_wordAt_1.2.2.2.2.2.2.1
theorem dX2_wordAt_29 : decode cX2_wordAt 29 = .ok (.ireturn, 1) := dAX2_wordAt_1.2.2.2.2.2.2.2
