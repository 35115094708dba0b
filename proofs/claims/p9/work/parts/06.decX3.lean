set_option maxRecDepth 100000 in
theorem dAX3_byteAt_0 : decode cX3_byteAt 0 = .ok (.iload_n 1, 1) ∧ decode cX3_byteAt 1 = .ok (.ifCond .lt 19, 3) ∧ decode cX3_byteAt 4 = .ok (.iload_n 1, 1) ∧ decode cX3_byteAt 5 = .ok (.sipush 900, 3) ∧ decode cX3_byteAt 8 = .ok (.if_icmp .ge 12, 3) ∧ decode cX3_byteAt 11 = .ok (.aload_n 0, 1) ∧ decode cX3_byteAt 12 = .ok (.getfield 9, 3) ∧ decode cX3_byteAt 15 = .ok (.iload_n 1, 1) := by decide +kernel
theorem dX3_byteAt_0 : decode cX3_byteAt 0 = .ok (.iload_n 1, 1) := dAX3_byteAt_0.1
theorem dX3_byteAt_1 : decode cX3_byteAt 1 = .ok (.ifCond .lt 19, 3) := dAX3_byteAt_0.2.1
theorem dX3_byteAt_4 : decode cX3_byteAt 4 = .ok (.iload_n 1, 1) := dAX3_byteAt_0.2.2.1
theorem dX3_byteAt_5 : decode cX3_byteAt 5 = .ok (.sipush 900, 3) := dAX3_byteAt_0.2.2.2.1
theorem dX3_byteAt_8 : decode cX3_byteAt 8 = .ok (.if_icmp .ge 12, 3) := dAX3_byteAt_0.2.2.2.2.1
theorem dX3_byteAt_11 : decode cX3_byteAt 11 = .ok (.aload_n 0, 1) := dAX3_byteAt_0.2.2.2.2.2.1
theorem dX3_byteAt_12 : decode cX3_byteAt 12 = .ok (.getfield 9, 3) := dAX3_byteAt_0.2.2.2.2.2.2.1
theorem dX3_byteAt_15 : decode cX3_byteAt 15 = .ok (.iload_n 1, 1) := dAX3_byteAt_0.2.2.2.2.2.2.2
set_option maxRecDepth 100000 in
theorem dAX3_byteAt_1 : decode cX3_byteAt 16 = .ok (.baload, 1) ∧ decode cX3_byteAt 17 = .ok (.goto 4, 3) ∧ decode cX3_byteAt 20 = .ok (.iconst 0, 1) ∧ decode cX3_byteAt 21 = .ok (.ireturn, 1) := by decide +kernel
theorem dX3_byteAt_16 : decode cX3_byteAt 16 = .ok (.baload, 1) := dAX3_byteAt_1.1
theorem dX3_byteAt_17 : decode cX3_byteAt 17 = .ok (.goto 4, 3) := dAX3_byteAt_1.2.1
theorem dX3_byteAt_20 : decode cX3_byteAt 20 = .ok (.iconst 0, 1) := dAX3_byteAt_1.2.2.1
theorem dX3_byteAt_21 : decode cX3_byteAt 21 = .ok (.ireturn, 1) := dAX3_byteAt_1.2.2.2
set_option maxRecDepth 100000 in
theorem dAX3_endNode_0 : decode cX3_endNode 0 = .ok (.aload_n 0, 1) ∧ decode cX3_endNode 1 = .ok (.getfield 18, 3) ∧ decode cX3_endNode 4 = .ok (.getfield 98, 3) ∧ decode cX3_endNode 7 = .ok (.bipush 18, 2) ∧ decode cX3_endNode 9 = .ok (.if_icmp .ge 16, 3) ∧ decode cX3_endNode 12 = .ok (.aload_n 0, 1) ∧ decode cX3_endNode 13 = .ok (.getfield 22, 3) ∧ decode cX3_endNode 16 = .ok (.aload_n 0, 1) := by decide +kernel
theorem dX3_endNode_0 : decode cX3_endNode 0 = .ok (.aload_n 0, 1) := dAX3_endNode_0.1
theorem dX3_endNode_1 : decode cX3_endNode 1 = .ok (.getfield 18, 3) := dAX3_endNode_0.2.1
theorem dX3_endNode_4 : decode cX3_endNode 4 = .ok (.getfield 98, 3) := dAX3_endNode_0.2.2.1
theorem dX3_endNode_7 : decode cX3_endNode 7 = .ok (.bipush 18, 2) := dAX3_endNode_0.2.2.2.1
theorem dX3_endNode_9 : decode cX3_endNode 9 = .ok (.if_icmp .ge 16, 3) := dAX3_endNode_0.2.2.2.2.1
theorem dX3_endNode_12 : decode cX3_endNode 12 = .ok (.aload_n 0, 1) := dAX3_endNode_0.2.2.2.2.2.1
theorem dX3_endNode_13 : decode cX3_endNode 13 = .ok (.getfield 22, 3) := dAX3_endNode_0.2.2.2.2.2.2.1
theorem dX3_endNode_16 : decode cX3_endNode 16 = .ok (.aload_n 0, 1) := dAX3_endNode_0.2.2.2.2.2.2.2
set_option maxRecDepth 100000 in
theorem dAX3_endNode_1 : decode cX3_endNode 17 = .ok (.getfield 18, 3) ∧ decode cX3_endNode 20 = .ok (.getfield 98, 3) ∧ decode cX3_endNode 23 = .ok (.lload_n 1, 1) ∧ decode cX3_endNode 24 = .ok (.lastore, 1) ∧ decode cX3_endNode 25 = .ok (.aload_n 0, 1) ∧ decode cX3_endNode 26 = .ok (.getfield 18, 3) ∧ decode cX3_endNode 29 = .ok (.iload_n 3, 1) ∧ decode cX3_endNode 30 = .ok (.invokevirtual 191, 3) := by decide +kernel
theorem dX3_endNode_17 : decode cX3_endNode 17 = .ok (.getfield 18, 3) := dAX3_endNode_1.1
theorem dX3_endNode_20 : decode cX3_endNode 20 = .ok (.getfield 98, 3) := dAX3_endNode_1.2.1
theorem dX3_endNode_23 : decode cX3_endNode 23 = .ok (.lload_n 1, 1) := dAX3_endNode_1.2.2.1
theorem dX3_endNode_24 : decode cX3_endNode 24 = .ok (.lastore, 1) := dAX3_endNode_1.2.2.2.1
theorem dX3_endNode_25 : decode cX3_endNode 25 = .ok (.aload_n 0, 1) := dAX3_endNode_1.2.2.2.2.1
theorem dX3_endNode_26 : decode cX3_endNode 26 = .ok (.getfield 18, 3) := dAX3_endNode_1.2.2.2.2.2.1
theorem dX3_endNode_29 : decode cX3_endNode 29 = .ok (.iload_n 3, 1) := dAX3_endNode_1.2.2.2.2.2.2.1
theorem dX3_endNode_30 : decode cX3_endNode 30 = .ok (.invokevirtual 191, 3) := dAX3_endNode_1.2.2.2.2.2.2.2
theorem dX3_endNode_33 : decode cX3_endNode 33 = .ok (.return_, 1) := by decide +kernel
set_option maxRecDepth 100000 in
theorem dAX3_exchanged_0 : decode cX3_exchanged 0 = .ok (.aload_n 0, 1) ∧ decode cX3_exchanged 1 = .ok (.getfield 18, 3) ∧ decode cX3_exchanged 4 = .ok (.astore_n 2, 1) ∧ decode cX3_exchanged 5 = .ok (.aload_n 0, 1) ∧ decode cX3_exchanged 6 = .ok (.aload_n 1, 1) ∧ decode cX3_exchanged 7 = .ok (.putfield 18, 3) ∧ decode cX3_exchanged 10 = .ok (.aload_n 2, 1) ∧ decode cX3_exchanged 11 = .ok (.areturn, 1) := by decide +kernel
theorem dX3_exchanged_0 : decode cX3_exchanged 0 = .ok (.aload_n 0, 1) := dAX3_exchanged_0.1
theorem dX3_exchanged_1 : decode cX3_exchanged 1 = .ok (.getfield 18, 3) := dAX3_exchanged_0.2.1
theorem dX3_exchanged_4 : decode cX3_exchanged 4 = .ok (.astore_n 2, 1) := dAX3_exchanged_0.2.2.1
theorem dX3_exchanged_5 : decode cX3_exchanged 5 = .ok (.aload_n 0, 1) := dAX3_exchanged_0.2.2.2.1
theorem dX3_exchanged_6 : decode cX3_exchanged 6 = .ok (.aload_n 1, 1) := dAX3_exchanged_0.2.2.2.2.1
theorem dX3_exchanged_7 : decode cX3_exchanged 7 = .ok (.putfield 18, 3) := dAX3_exchanged_0.2.2.2.2.2.1
theorem dX3_exchanged_10 : decode cX3_exchanged 10 = .ok (.aload_n 2, 1) := dAX3_exchanged_0.2.2.2.2.2.2.1
theorem dX3_exchanged_11 : decode cX3_exchanged 11 = .ok (.areturn, 1) := dAX3_exchanged_0.2.2.2.2.2.2.2
set_option maxRecDepth 100000 in
theorem dAX3_faulty_0 : decode cX3_faulty 0 = .ok (.aload_n 0, 1) ∧ decode cX3_faulty 1 = .ok (.iload_n 1, 1) ∧ decode cX3_faulty 2 = .ok (.putfield 66, 3) ∧ decode cX3_faulty 5 = .ok (.aload_n 0, 1) ∧ decode cX3_faulty 6 = .ok (.aload_n 0, 1) ∧ decode cX3_faulty 7 = .ok (.getfield 101, 3) ∧ decode cX3_faulty 10 = .ok (.putfield 69, 3) ∧ decode cX3_faulty 13 = .ok (.iconst 0, 1) := by decide +kernel
theorem dX3_faulty_0 : decode cX3_faulty 0 = .ok (.aload_n 0, 1) := dAX3_faulty_0.1
theorem dX3_faulty_1 : decode cX3_faulty 1 = .ok (.iload_n 1, 1) := dAX3_faulty_0.2.1
theorem dX3_faulty_2 : decode cX3_faulty 2 = .ok (.putfield 66, 3) := dAX3_faulty_0.2.2.1
theorem dX3_faulty_5 : decode cX3_faulty 5 = .ok (.aload_n 0, 1) := dAX3_faulty_0.2.2.2.1
theorem dX3_faulty_6 : decode cX3_faulty 6 = .ok (.aload_n 0, 1) := dAX3_faulty_0.2.2.2.2.1
theorem dX3_faulty_7 : decode cX3_faulty 7 = .ok (.getfield 101, 3) := dAX3_faulty_0.2.2.2.2.2.1
theorem dX3_faulty_10 : decode cX3_faulty 10 = .ok (.putfield 69, 3) := dAX3_faulty_0.2.2.2.2.2.2.1
theorem dX3_faulty_13 : decode cX3_faulty 13 = .ok (.iconst 0, 1) := dAX3_faulty_0.2.2.2.2.2.2.2
theorem dX3_faulty_14 : decode cX3_faulty 14 = .ok (.ireturn, 1) := by decide +kernel
set_option maxRecDepth 100000 in
theorem dAX3_init_0 : decode cX3_init 0 = .ok (.aload_n 0, 1) ∧ decode cX3_init 1 = .ok (.invokespecial 3, 3) ∧ decode cX3_init 4 = .ok (.aload_n 0, 1) ∧ decode cX3_init 5 = .ok (.sipush 900, 3) ∧ decode cX3_init 8 = .ok (.newarray .byte, 2) ∧ decode cX3_init 10 = .ok (.putfield 9, 3) ∧ decode cX3_init 13 = .ok (.aload_n 0, 1) ∧ decode cX3_init 14 = .ok (.new 15, 3) := by decide +kernel
theorem dX3_init_0 : decode cX3_init 0 = .ok (.aload_n 0, 1) := dAX3_init_0.1
theorem dX3_init_1 : decode cX3_init 1 = .ok (.invokespecial 3, 3) := dAX3_init_0.2.1
theorem dX3_init_4 : decode cX3_init 4 = .ok (.aload_n 0, 1) := dAX3_init_0.2.2.1
theorem dX3_init_5 : decode cX3_init 5 = .ok (.sipush 900, 3) := dAX3_init_0.2.2.2.1
theorem dX3_init_8 : decode cX3_init 8 = .ok (.newarray .byte, 2) := dAX3_init_0.2.2.2.2.1
theorem dX3_init_10 : decode cX3_init 10 = .ok (.putfield 9, 3) := dAX3_init_0.2.2.2.2.2.1
theorem dX3_init_13 : decode cX3_init 13 = .ok (.aload_n 0, 1) := dAX3_init_0.2.2.2.2.2.2.1
theorem dX3_init_14 : decode cX3_init 14 = .ok (.new 15, 3) := dAX3_init_0.2.2.2.2.2.2.2
set_option maxRecDepth 100000 in
theorem dAX3_init_1 : decode cX3_init 17 = .ok (.dup, 1) ∧ decode cX3_init 18 = .ok (.invokespecial 17, 3) ∧ decode cX3_init 21 = .ok (.putfield 18, 3) ∧ decode cX3_init 24 = .ok (.aload_n 0, 1) ∧ decode cX3_init 25 = .ok (.bipush 18, 2) ∧ decode cX3_init 27 = .ok (.newarray .long, 2) ∧ decode cX3_init 29 = .ok (.putfield 22, 3) ∧ decode cX3_init 32 = .ok (.aload_n 0, 1) := by decide +kernel
theorem dX3_init_17 : decode cX3_init 17 = .ok (.dup, 1) := dAX3_init_1.1
theorem dX3_init_18 : decode cX3_init 18 = .ok (.invokespecial 17, 3) := dAX3_init_1.2.1
theorem dX3_init_21 : decode cX3_init 21 = .ok (.putfield 18, 3) := dAX3_init_1.2.2.1
theorem dX3_init_24 : decode cX3_init 24 = .ok (.aload_n 0, 1) := dAX3_init_1.2.2.2.1
theorem dX3_init_25 : decode cX3_init 25 = .ok (.bipush 18, 2) := dAX3_init_1.2.2.2.2.1
theorem dX3_init_27 : decode cX3_init 27 = .ok (.newarray .long, 2) := dAX3_init_1.2.2.2.2.2.1
theorem dX3_init_29 : decode cX3_init 29 = .ok (.putfield 22, 3) := dAX3_init_1.2.2.2.2.2.2.1
theorem dX3_init_32 : decode cX3_init 32 = .ok (.aload_n 0, 1) := dAX3_init_1.2.2.2.2.2.2.2
set_option maxRecDepth 100000 in
theorem dAX3_init_2 : decode cX3_init 33 = .ok (.bipush 10, 2) ∧ decode cX3_init 35 = .ok (.newarray .long, 2) ∧ decode cX3_init 37 = .ok (.putfield 26, 3) ∧ decode cX3_init 40 = .ok (.aload_n 0, 1) ∧ decode cX3_init 41 = .ok (.getfield 26, 3) ∧ decode cX3_init 44 = .ok (.iconst 0, 1) ∧ decode cX3_init 45 = .ok (.ldc 29, 2) ∧ decode cX3_init 47 = .ok (.invokestatic 31, 3) := by decide +kernel
theorem dX3_init_33 : decode cX3_init 33 = .ok (.bipush 10, 2) := dAX3_init_2.1
theorem dX3_init_35 : decode cX3_init 35 = .ok (.newarray .long, 2) := dAX3_init_2.2.1
theorem dX3_init_37 : decode cX3_init 37 = .ok (.putfield 26, 3) := dAX3_init_2.2.2.1
theorem dX3_init_40 : decode cX3_init 40 = .ok (.aload_n 0, 1) := dAX3_init_2.2.2.2.1
theorem dX3_init_41 : decode cX3_init 41 = .ok (.getfield 26, 3) := dAX3_init_2.2.2.2.2.1
theorem dX3_init_44 : decode cX3_init 44 = .ok (.iconst 0, 1) := dAX3_init_2.2.2.2.2.2.1
theorem dX3_init_45 : decode cX3_init 45 = .ok (.ldc 29, 2) := dAX3_init_2.2.2.2.2.2.2.1
theorem dX3_init_47 : decode cX3_init 47 = .ok (.invokestatic 31, 3) := dAX3_init_2.2.2.2.2.2.2.2
set_option maxRecDepth 100000 in
theorem dAX3_init_3 : decode cX3_init 50 = .ok (.lastore, 1) ∧ decode cX3_init 51 = .ok (.aload_n 0, 1) ∧ decode cX3_init 52 = .ok (.getfield 26, 3) ∧ decode cX3_init 55 = .ok (.iconst 1, 1) ∧ decode cX3_init 56 = .ok (.ldc 35, 2) ∧ decode cX3_init 58 = .ok (.invokestatic 31, 3) ∧ decode cX3_init 61 = .ok (.lastore, 1) ∧ decode cX3_init 62 = .ok (.aload_n 0, 1) := by decide +kernel
theorem dX3_init_50 : decode cX3_init 50 = .ok (.lastore, 1) := dAX3_init_3.1
theorem dX3_init_51 : decode cX3_init 51 = .ok (.aload_n 0, 1) := dAX3_init_3.2.1
theorem dX3_init_52 : decode cX3_init 52 = .ok (.getfield 26, 3) := dAX3_init_3.2.2.1
theorem dX3_init_55 : decode cX3_init 55 = .ok (.iconst 1, 1) := dAX3_init_3.2.2.2.1
theorem dX3_init_56 : decode cX3_init 56 = .ok (.ldc 35, 2) := dAX3_init_3.2.2.2.2.1
theorem dX3_init_58 : decode cX3_init 58 = .ok (.invokestatic 31, 3) := dAX3_init_3.2.2.2.2.2.1
theorem dX3_init_61 : decode cX3_init 61 = .ok (.lastore, 1) := dAX3_init_3.2.2.2.2.2.2.1
theorem dX3_init_62 : decode cX3_init 62 = .ok (.aload_n 0, 1) := dAX3_init_3.2.2.2.2.2.2.2
set_option maxRecDepth 100000 in
theorem dAX3_init_4 : decode cX3_init 63 = .ok (.getfield 26, 3) ∧ decode cX3_init 66 = .ok (.iconst 2, 1) ∧ decode cX3_init 67 = .ok (.ldc 37, 2) ∧ decode cX3_init 69 = .ok (.invokestatic 31, 3) ∧ decode cX3_init 72 = .ok (.lastore, 1) ∧ decode cX3_init 73 = .ok (.aload_n 0, 1) ∧ decode cX3_init 74 = .ok (.getfield 26, 3) ∧ decode cX3_init 77 = .ok (.iconst 3, 1) := by decide +kernel
theorem dX3_init_63 : decode cX3_init 63 = .ok (.getfield 26, 3) := dAX3_init_4.1
theorem dX3_init_66 : decode cX3_init 66 = .ok (.iconst 2, 1) := dAX3_init_4.2.1
theorem dX3_init_67 : decode cX3_init 67 = .ok (.ldc 37, 2) := dAX3_init_4.2.2.1
theorem dX3_init_69 : decode cX3_init 69 = .ok (.invokestatic 31, 3) := dAX3_init_4.2.2.2.1
theorem dX3_init_72 : decode cX3_init 72 = .ok (.lastore, 1) := dAX3_init_4.2.2.2.2.1
theorem dX3_init_73 : decode cX3_init 73 = .ok (.aload_n 0, 1) := dAX3_init_4.2.2.2.2.2.1
theorem dX3_init_74 : decode cX3_init 74 = .ok (.getfield 26, 3) := dAX3_init_4.2.2.2.2.2.2.1
theorem dX3_init_77 : decode cX3_init 77 = .ok (.iconst 3, 1) := dAX3_init_4.2.2.2.2.2.2.2
set_option maxRecDepth 100000 in
theorem dAX3_init_5 : decode cX3_init 78 = .ok (.ldc 39, 2) ∧ decode cX3_init 80 = .ok (.invokestatic 31, 3) ∧ decode cX3_init 83 = .ok (.lastore, 1) ∧ decode cX3_init 84 = .ok (.aload_n 0, 1) ∧ decode cX3_init 85 = .ok (.getfield 26, 3) ∧ decode cX3_init 88 = .ok (.iconst 4, 1) ∧ decode cX3_init 89 = .ok (.ldc 41, 2) ∧ decode cX3_init 91 = .ok (.invokestatic 31, 3) := by decide +kernel
theorem dX3_init_78 : decode cX3_init 78 = .ok (.ldc 39, 2) := dAX3_init_5.1
theorem dX3_init_80 : decode cX3_init 80 = .ok (.invokestatic 31, 3) := dAX3_init_5.2.1
theorem dX3_init_83 : decode cX3_init 83 = .ok (.lastore, 1) := dAX3_init_5.2.2.1
theorem dX3_init_84 : decode cX3_init 84 = .ok (.aload_n 0, 1) := dAX3_init_5.2.2.2.1
theorem dX3_init_85 : decode cX3_init 85 = .ok (.getfield 26, 3) := dAX3_init_5.2.2.2.2.1
theorem dX3_init_88 : decode cX3_init 88 = .ok (.iconst 4, 1) := dAX3_init_5.2.2.2.2.2.1
theorem dX3_init_89 : decode cX3_init 89 = .ok (.ldc 41, 2) := dAX3_init_5.2.2.2.2.2.2.1
theorem dX3_init_91 : decode cX3_init 91 = .ok (.invokestatic 31, 3) := dAX3_init_5.2.2.2.2.2.2.2
set_option maxRecDepth 100000 in
theorem dAX3_init_6 : decode cX3_init 94 = .ok (.lastore, 1) ∧ decode cX3_init 95 = .ok (.aload_n 0, 1) ∧ decode cX3_init 96 = .ok (.getfield 26, 3) ∧ decode cX3_init 99 = .ok (.iconst 5, 1) ∧ decode cX3_init 100 = .ok (.ldc 42, 2) ∧ decode cX3_init 102 = .ok (.invokestatic 31, 3) ∧ decode cX3_init 105 = .ok (.lastore, 1) ∧ decode cX3_init 106 = .ok (.aload_n 0, 1) := by decide +kernel
theorem dX3_init_94 : decode cX3_init 94 = .ok (.lastore, 1) := dAX3_init_6.1
theorem dX3_init_95 : decode cX3_init 95 = .ok (.aload_n 0, 1) := dAX3_init_6.2.1
theorem dX3_init_96 : decode cX3_init 96 = .ok (.getfield 26, 3) := dAX3_init_6.2.2.1
theorem dX3_init_99 : decode cX3_init 99 = .ok (.iconst 5, 1) := dAX3_init_6.2.2.2.1
theorem dX3_init_100 : decode cX3_init 100 = .ok (.ldc 42, 2) := dAX3_init_6.2.2.2.2.1
theorem dX3_init_102 : decode cX3_init 102 = .ok (.invokestatic 31, 3) := dAX3_init_6.2.2.2.2.2.1
theorem dX3_init_105 : decode cX3_init 105 = .ok (.lastore, 1) := dAX3_init_6.2.2.2.2.2.2.1
theorem dX3_init_106 : decode cX3_init 106 = .ok (.aload_n 0, 1) := dAX3_init_6.2.2.2.2.2.2.2
set_option maxRecDepth 100000 in
theorem dAX3_init_7 : decode cX3_init 107 = .ok (.getfield 26, 3) ∧ decode cX3_init 110 = .ok (.bipush 6, 2) ∧ decode cX3_init 112 = .ok (.ldc 44, 2) ∧ decode cX3_init 114 = .ok (.invokestatic 31, 3) ∧ decode cX3_init 117 = .ok (.lastore, 1) ∧ decode cX3_init 118 = .ok (.aload_n 0, 1) ∧ decode cX3_init 119 = .ok (.getfield 26, 3) ∧ decode cX3_init 122 = .ok (.bipush 7, 2) := by decide +kernel
theorem dX3_init_107 : decode cX3_init 107 = .ok (.getfield 26, 3) := dAX3_init_7.1
theorem dX3_init_110 : decode cX3_init 110 = .ok (.bipush 6, 2) := dAX3_init_7.2.1
theorem dX3_init_112 : decode cX3_init 112 = .ok (.ldc 44, 2) := dAX3_init_7.2.2.1
theorem dX3_init_114 : decode cX3_init 114 = .ok (.invokestatic 31, 3) := dAX3_init_7.2.2.2.1
theorem dX3_init_117 : decode cX3_init 117 = .ok (.lastore, 1) := dAX3_init_7.2.2.2.2.1
theorem dX3_init_118 : decode cX3_init 118 = .ok (.aload_n 0, 1) := dAX3_init_7.2.2.2.2.2.1
theorem dX3_init_119 : decode cX3_init 119 = .ok (.getfield 26, 3) := dAX3_init_7.2.2.2.2.2.2.1
theorem dX3_init_122 : decode cX3_init 122 = .ok (.bipush 7, 2) := dAX3_init_7.2.2.2.2.2.2.2
set_option maxRecDepth 100000 in
theorem dAX3_init_8 : decode cX3_init 124 = .ok (.ldc 46, 2) ∧ decode cX3_init 126 = .ok (.invokestatic 31, 3) ∧ decode cX3_init 129 = .ok (.lastore, 1) ∧ decode cX3_init 130 = .ok (.aload_n 0, 1) ∧ decode cX3_init 131 = .ok (.getfield 26, 3) ∧ decode cX3_init 134 = .ok (.bipush 8, 2) ∧ decode cX3_init 136 = .ok (.ldc 48, 2) ∧ decode cX3_init 138 = .ok (.invokestatic 31, 3) := by decide +kernel
theorem dX3_init_124 : decode cX3_init 124 = .ok (.ldc 46, 2) := dAX3_init_8.1
theorem dX3_init_126 : decode cX3_init 126 = .ok (.invokestatic 31, 3) := dAX3_init_8.2.1
theorem dX3_init_129 : decode cX3_init 129 = .ok (.lastore, 1) := dAX3_init_8.2.2.1
theorem dX3_init_130 : decode cX3_init 130 = .ok (.aload_n 0, 1) := dAX3_init_8.2.2.2.1
theorem dX3_init_131 : decode cX3_init 131 = .ok (.getfield 26, 3) := dAX3_init_8.2.2.2.2.1
theorem dX3_init_134 : decode cX3_init 134 = .ok (.bipush 8, 2) := dAX3_init_8.2.2.2.2.2.1
theorem dX3_init_136 : decode cX3_init 136 = .ok (.ldc 48, 2) := dAX3_init_8.2.2.2.2.2.2.1
theorem dX3_init_138 : decode cX3_init 138 = .ok (.invokestatic 31, 3) := dAX3_init_8.2.2.2.2.2.2.2
set_option maxRecDepth 100000 in
theorem dAX3_init_9 : decode cX3_init 141 = .ok (.lastore, 1) ∧ decode cX3_init 142 = .ok (.aload_n 0, 1) ∧ decode cX3_init 143 = .ok (.getfield 26, 3) ∧ decode cX3_init 146 = .ok (.bipush 9, 2) ∧ decode cX3_init 148 = .ok (.ldc 50, 2) ∧ decode cX3_init 150 = .ok (.invokestatic 31, 3) ∧ decode cX3_init 153 = .ok (.lastore, 1) ∧ decode cX3_init 154 = .ok (.return_, 1) := by decide +kernel
theorem dX3_init_141 : decode cX3_init 141 = .ok (.lastore, 1) := dAX3_init_9.1
theorem dX3_init_142 : decode cX3_init 142 = .ok (.aload_n 0, 1) := dAX3_init_9.2.1
theorem dX3_init_143 : decode cX3_init 143 = .ok (.getfield 26, 3) := dAX3_init_9.2.2.1
theorem dX3_init_146 : decode cX3_init 146 = .ok (.bipush 9, 2) := dAX3_init_9.2.2.2.1
theorem dX3_init_148 : decode cX3_init 148 = .ok (.ldc 50, 2) := dAX3_init_9.2.2.2.2.1
theorem dX3_init_150 : decode cX3_init 150 = .ok (.invokestatic 31, 3) := dAX3_init_9.2.2.2.2.2.1
theorem dX3_init_153 : decode cX3_init 153 = .ok (.lastore, 1) := dAX3_init_9.2.2.2.2.2.2.1
theorem dX3_init_154 : decode cX3_init 154 = .ok (.return_, 1) := dAX3_init_9.2.2.2.2.2.2.2
set_option maxRecDepth 100000 in
theorem dAX3_isDigit_0 : decode cX3_isDigit 0 = .ok (.iload_n 0, 1) ∧ decode cX3_isDigit 1 = .ok (.bipush 48, 2) ∧ decode cX3_isDigit 3 = .ok (.if_icmp .lt 13, 3) ∧ decode cX3_isDigit 6 = .ok (.iload_n 0, 1) ∧ decode cX3_isDigit 7 = .ok (.bipush 57, 2) ∧ decode cX3_isDigit 9 = .ok (.if_icmp .gt 7, 3) ∧ decode cX3_isDigit 12 = .ok (.iconst 1, 1) ∧ decode cX3_isDigit 13 = .ok (.goto 4, 3) := by decide +kernel
theorem dX3_isDigit_0 : decode cX3_isDigit 0 = .ok (.iload_n 0, 1) := dAX3_isDigit_0.1
theorem dX3_isDigit_1 : decode cX3_isDigit 1 = .ok (.bipush 48, 2) := dAX3_isDigit_0.2.1
theorem dX3_isDigit_3 : decode cX3_isDigit 3 = .ok (.if_icmp .lt 13, 3) := dAX3_isDigit_0.2.2.1
theorem dX3_isDigit_6 : decode cX3_isDigit 6 = .ok (.iload_n 0, 1) := dAX3_isDigit_0.2.2.2.1
theorem dX3_isDigit_7 : decode cX3_isDigit 7 = .ok (.bipush 57, 2) := dAX3_isDigit_0.2.2.2.2.1
theorem dX3_isDigit_9 : decode cX3_isDigit 9 = .ok (.if_icmp .gt 7, 3) := dAX3_isDigit_0.2.2.2.2.2.1
theorem dX3_isDigit_12 : decode cX3_isDigit 12 = .ok (.iconst 1, 1) := dAX3_isDigit_0.2.2.2.2.2.2.1
theorem dX3_isDigit_13 : decode cX3_isDigit 13 = .ok (.goto 4, 3) := dAX3_isDigit_0.2.2.2.2.2.2.2
set_option maxRecDepth 100000 in
theorem dAX3_isDigit_1 : decode cX3_isDigit 16 = .ok (.iconst 0, 1) ∧ decode cX3_isDigit 17 = .ok (.ireturn, 1) := by decide +kernel
theorem dX3_isDigit_16 : decode cX3_isDigit 16 = .ok (.iconst 0, 1) := dAX3_isDigit_1.1
theorem dX3_isDigit_17 : decode cX3_isDigit 17 = .ok (.ireturn, 1) := dAX3_isDigit_1.2
set_option maxRecDepth 100000 in
theorem dAX3_isLetter_0 : decode cX3_isLetter 0 = .ok (.iload_n 0, 1) ∧ decode cX3_isLetter 1 = .ok (.bipush 97, 2) ∧ decode cX3_isLetter 3 = .ok (.if_icmp .lt 13, 3) ∧ decode cX3_isLetter 6 = .ok (.iload_n 0, 1) ∧ decode cX3_isLetter 7 = .ok (.bipush 122, 2) ∧ decode cX3_isLetter 9 = .ok (.if_icmp .gt 7, 3) ∧ decode cX3_isLetter 12 = .ok (.iconst 1, 1) ∧ decode cX3_isLetter 13 = .ok (.goto 4, 3) := by decide +kernel
theorem dX3_isLetter_0 : decode cX3_isLetter 0 = .ok (.iload_n 0, 1) := dAX3_isLetter_0.1
theorem dX3_isLetter_1 : decode cX3_isLetter 1 = .ok (.bipush 97, 2) := dAX3_isLetter_0.2.1
theorem dX3_isLetter_3 : decode cX3_isLetter 3 = .ok (.if_icmp .lt 13, 3) := dAX3_isLetter_0.2.2.1
theorem dX3_isLetter_6 : decode cX3_isLetter 6 = .ok (.iload_n 0, 1) := dAX3_isLetter_0.2.2.2.1
theorem dX3_isLetter_7 : decode cX3_isLetter 7 = .ok (.bipush 122, 2) := dAX3_isLetter_0.2.2.2.2.1
theorem dX3_isLetter_9 : decode cX3_isLetter 9 = .ok (.if_icmp .gt 7, 3) := dAX3_isLetter_0.2.2.2.2.2.1
theorem dX3_isLetter_12 : decode cX3_isLetter 12 = .ok (.iconst 1, 1) := dAX3_isLetter_0.2.2.2.2.2.2.1
theorem dX3_isLetter_13 : decode cX3_isLetter 13 = .ok (.goto 4, 3) := dAX3_isLetter_0.2.2.2.2.2.2.2
set_option maxRecDepth 100000 in
theorem dAX3_isLetter_1 : decode cX3_isLetter 16 = .ok (.iconst 0, 1) ∧ decode cX3_isLetter 17 = .ok (.ireturn, 1) := by decide +kernel
theorem dX3_isLetter_16 : decode cX3_isLetter 16 = .ok (.iconst 0, 1) := dAX3_isLetter_1.1
theorem dX3_isLetter_17 : decode cX3_isLetter 17 = .ok (.ireturn, 1) := dAX3_isLetter_1.2
set_option maxRecDepth 100000 in
theorem dAX3_isLineKey_0 : decode cX3_isLineKey 0 = .ok (.aload_n 0, 1) ∧ decode cX3_isLineKey 1 = .ok (.getfield 107, 3) ∧ decode cX3_isLineKey 4 = .ok (.ifCond .lt 16, 3) ∧ decode cX3_isLineKey 7 = .ok (.aload_n 0, 1) ∧ decode cX3_isLineKey 8 = .ok (.getfield 107, 3) ∧ decode cX3_isLineKey 11 = .ok (.bipush 7, 2) ∧ decode cX3_isLineKey 13 = .ok (.if_icmp .gt 7, 3) ∧ decode cX3_isLineKey 16 = .ok (.iconst 1, 1) := by decide +kernel
theorem dX3_isLineKey_0 : decode cX3_isLineKey 0 = .ok (.aload_n 0, 1) := dAX3_isLineKey_0.1
theorem dX3_isLineKey_1 : decode cX3_isLineKey 1 = .ok (.getfield 107, 3) := dAX3_isLineKey_0.2.1
theorem dX3_isLineKey_4 : decode cX3_isLineKey 4 = .ok (.ifCond .lt 16, 3) := dAX3_isLineKey_0.2.2.1
theorem dX3_isLineKey_7 : decode cX3_isLineKey 7 = .ok (.aload_n 0, 1) := dAX3_isLineKey_0.2.2.2.1
theorem dX3_isLineKey_8 : decode cX3_isLineKey 8 = .ok (.getfield 107, 3) := dAX3_isLineKey_0.2.2.2.2.1
theorem dX3_isLineKey_11 : decode cX3_isLineKey 11 = .ok (.bipush 7, 2) := dAX3_isLineKey_0.2.2.2.2.2.1
theorem dX3_isLineKey_13 : decode cX3_isLineKey 13 = .ok (.if_icmp .gt 7, 3) := dAX3_isLineKey_0.2.2.2.2.2.2.1
theorem dX3_isLineKey_16 : decode cX3_isLineKey 16 = .ok (.iconst 1, 1) := dAX3_isLineKey_0.2.2.2.2.2.2.2
set_option maxRecDepth 100000 in
theorem dAX3_isLineKey_1 : decode cX3_isLineKey 17 = .ok (.goto 4, 3) ∧ decode cX3_isLineKey 20 = .ok (.iconst 0, 1) ∧ decode cX3_isLineKey 21 = .ok (.ireturn, 1) := by decide +kernel
theorem dX3_isLineKey_17 : decode cX3_isLineKey 17 = .ok (.goto 4, 3) := dAX3_isLineKey_1.1
theorem dX3_isLineKey_20 : decode cX3_isLineKey 20 = .ok (.iconst 0, 1) := dAX3_isLineKey_1.2.1
theorem dX3_isLineKey_21 : decode cX3_isLineKey 21 = .ok (.ireturn, 1) := dAX3_isLineKey_1.2.2
set_option maxRecDepth 100000 in
theorem dAX3_isNewName_0 : decode cX3_isNewName 0 = .ok (.aload_n 0, 1) ∧ decode cX3_isNewName 1 = .ok (.getfield 82, 3) ∧ decode cX3_isNewName 4 = .ok (.iconst 1, 1) ∧ decode cX3_isNewName 5 = .ok (.if_icmp .ne 10, 3) ∧ decode cX3_isNewName 8 = .ok (.aload_n 0, 1) ∧ decode cX3_isNewName 9 = .ok (.invokevirtual 104, 3) ∧ decode cX3_isNewName 12 = .ok (.ifCond .eq 9, 3) ∧ decode cX3_isNewName 15 = .ok (.aload_n 0, 1) := by decide +kernel
theorem dX3_isNewName_0 : decode cX3_isNewName 0 = .ok (.aload_n 0, 1) := dAX3_isNewName_0.1
theorem dX3_isNewName_1 : decode cX3_isNewName 1 = .ok (.getfield 82, 3) := dAX3_isNewName_0.2.1
theorem dX3_isNewName_4 : decode cX3_isNewName 4 = .ok (.iconst 1, 1) := dAX3_isNewName_0.2.2.1
theorem dX3_isNewName_5 : decode cX3_isNewName 5 = .ok (.if_icmp .ne 10, 3) := dAX3_isNewName_0.2.2.2.1
theorem dX3_isNewName_8 : decode cX3_isNewName 8 = .ok (.aload_n 0, 1) := dAX3_isNewName_0.2.2.2.2.1
theorem dX3_isNewName_9 : decode cX3_isNewName 9 = .ok (.invokevirtual 104, 3) := dAX3_isNewName_0.2.2.2.2.2.1
theorem dX3_isNewName_12 : decode cX3_isNewName 12 = .ok (.ifCond .eq 9, 3) := dAX3_isNewName_0.2.2.2.2.2.2.1
theorem dX3_isNewName_15 : decode cX3_isNewName 15 = .ok (.aload_n 0, 1) := dAX3_isNewName_0.2.2.2.2.2.2.2
set_option maxRecDepth 100000 in
theorem dAX3_isNewName_1 : decode cX3_isNewName 16 = .ok (.iconst 1, 1) ∧ decode cX3_isNewName 17 = .ok (.invokevirtual 88, 3) ∧ decode cX3_isNewName 20 = .ok (.ireturn, 1) ∧ decode cX3_isNewName 21 = .ok (.aload_n 0, 1) ∧ decode cX3_isNewName 22 = .ok (.invokevirtual 161, 3) ∧ decode cX3_isNewName 25 = .ok (.ifCond .lt 11, 3) ∧ decode cX3_isNewName 28 = .ok (.aload_n 0, 1) ∧ decode cX3_isNewName 29 = .ok (.iconst 3, 1) := by decide +kernel
theorem dX3_isNewName_16 : decode cX3_isNewName 16 = .ok (.iconst 1, 1) := dAX3_isNewName_1.1
theorem dX3_isNewName_17 : decode cX3_isNewName 17 = .ok (.invokevirtual 88, 3) := dAX3_isNewName_1.2.1
theorem dX3_isNewName_20 : decode cX3_isNewName 20 = .ok (.ireturn, 1) := dAX3_isNewName_1.2.2.1
theorem dX3_isNewName_21 : decode cX3_isNewName 21 = .ok (.aload_n 0, 1) := dAX3_isNewName_1.2.2.2.1
theorem dX3_isNewName_22 : decode cX3_isNewName 22 = .ok (.invokevirtual 161, 3) := dAX3_isNewName_1.2.2.2.2.1
theorem dX3_isNewName_25 : decode cX3_isNewName 25 = .ok (.ifCond .lt 11, 3) := dAX3_isNewName_1.2.2.2.2.2.1
theorem dX3_isNewName_28 : decode cX3_isNewName 28 = .ok (.aload_n 0, 1) := dAX3_isNewName_1.2.2.2.2.2.2.1
theorem dX3_isNewName_29 : decode cX3_isNewName 29 = .ok (.iconst 3, 1) := dAX3_isNewName_1.2.2.2.2.2.2.2
set_option maxRecDepth 100000 in
theorem dAX3_isNewName_2 : decode cX3_isNewName 30 = .ok (.invokevirtual 88, 3) ∧ decode cX3_isNewName 33 = .ok (.ifCond .eq 7, 3) ∧ decode cX3_isNewName 36 = .ok (.iconst 1, 1) ∧ decode cX3_isNewName 37 = .ok (.goto 4, 3) ∧ decode cX3_isNewName 40 = .ok (.iconst 0, 1) ∧ decode cX3_isNewName 41 = .ok (.ireturn, 1) := by decide +kernel
theorem dX3_isNewName_30 : decode cX3_isNewName 30 = .ok (.invokevirtual 88, 3) := dAX3_isNewName_2.1
theorem dX3_isNewName_33 : decode cX3_isNewName 33 = .ok (.ifCond .eq 7, 3) := dAX3_isNewName_2.2.1
theorem dX3_isNewName_36 : decode cX3_isNewName 36 = .ok (.iconst 1, 1) := dAX3_isNewName_2.2.2.1
theorem dX3_isNewName_37 : decode cX3_isNewName 37 = .ok (.goto 4, 3) := dAX3_isNewName_2.2.2.2.1
theorem dX3_isNewName_40 : decode cX3_isNewName 40 = .ok (.iconst 0, 1) := dAX3_isNewName_2.2.2.2.2.1
theorem dX3_isNewName_41 : decode cX3_isNewName 41 = .ok (.ireturn, 1) := dAX3_isNewName_2.2.2.2.2.2
set_option maxRecDepth 100000 in
theorem dAX3_isToldName_0 : decode cX3_isToldName 0 = .ok (.aload_n 0, 1) ∧ decode cX3_isToldName 1 = .ok (.getfield 82, 3) ∧ decode cX3_isToldName 4 = .ok (.iconst 1, 1) ∧ decode cX3_isToldName 5 = .ok (.if_icmp .ne 10, 3) ∧ decode cX3_isToldName 8 = .ok (.aload_n 0, 1) ∧ decode cX3_isToldName 9 = .ok (.invokevirtual 104, 3) ∧ decode cX3_isToldName 12 = .ok (.ifCond .eq 9, 3) ∧ decode cX3_isToldName 15 = .ok (.aload_n 0, 1) := by decide +kernel
theorem dX3_isToldName_0 : decode cX3_isToldName 0 = .ok (.aload_n 0, 1) := dAX3_isToldName_0.1
theorem dX3_isToldName_1 : decode cX3_isToldName 1 = .ok (.getfield 82, 3) := dAX3_isToldName_0.2.1
theorem dX3_isToldName_4 : decode cX3_isToldName 4 = .ok (.iconst 1, 1) := dAX3_isToldName_0.2.2.1
theorem dX3_isToldName_5 : decode cX3_isToldName 5 = .ok (.if_icmp .ne 10, 3) := dAX3_isToldName_0.2.2.2.1
theorem dX3_isToldName_8 : decode cX3_isToldName 8 = .ok (.aload_n 0, 1) := dAX3_isToldName_0.2.2.2.2.1
theorem dX3_isToldName_9 : decode cX3_isToldName 9 = .ok (.invokevirtual 104, 3) := dAX3_isToldName_0.2.2.2.2.2.1
theorem dX3_isToldName_12 : decode cX3_isToldName 12 = .ok (.ifCond .eq 9, 3) := dAX3_isToldName_0.2.2.2.2.2.2.1
theorem dX3_isToldName_15 : decode cX3_isToldName 15 = .ok (.aload_n 0, 1) := dAX3_isToldName_0.2.2.2.2.2.2.2
set_option maxRecDepth 100000 in
theorem dAX3_isToldName_1 : decode cX3_isToldName 16 = .ok (.iconst 1, 1) ∧ decode cX3_isToldName 17 = .ok (.invokevirtual 88, 3) ∧ decode cX3_isToldName 20 = .ok (.ireturn, 1) ∧ decode cX3_isToldName 21 = .ok (.aload_n 0, 1) ∧ decode cX3_isToldName 22 = .ok (.invokevirtual 161, 3) ∧ decode cX3_isToldName 25 = .ok (.ifCond .ge 11, 3) ∧ decode cX3_isToldName 28 = .ok (.aload_n 0, 1) ∧ decode cX3_isToldName 29 = .ok (.iconst 2, 1) := by decide +kernel
theorem dX3_isToldName_16 : decode cX3_isToldName 16 = .ok (.iconst 1, 1) := dAX3_isToldName_1.1
theorem dX3_isToldName_17 : decode cX3_isToldName 17 = .ok (.invokevirtual 88, 3) := dAX3_isToldName_1.2.1
theorem dX3_isToldName_20 : decode cX3_isToldName 20 = .ok (.ireturn, 1) := dAX3_isToldName_1.2.2.1
theorem dX3_isToldName_21 : decode cX3_isToldName 21 = .ok (.aload_n 0, 1) := dAX3_isToldName_1.2.2.2.1
theorem dX3_isToldName_22 : decode cX3_isToldName 22 = .ok (.invokevirtual 161, 3) := dAX3_isToldName_1.2.2.2.2.1
theorem dX3_isToldName_25 : decode cX3_isToldName 25 = .ok (.ifCond .ge 11, 3) := dAX3_isToldName_1.2.2.2.2.2.1
theorem dX3_isToldName_28 : decode cX3_isToldName 28 = .ok (.aload_n 0, 1) := dAX3_isToldName_1.2.2.2.2.2.2.1
theorem dX3_isToldName_29 : decode cX3_isToldName 29 = .ok (.iconst 2, 1) := dAX3_isToldName_1.2.2.2.2.2.2.2
set_option maxRecDepth 100000 in
theorem dAX3_isToldName_2 : decode cX3_isToldName 30 = .ok (.invokevirtual 88, 3) ∧ decode cX3_isToldName 33 = .ok (.ifCond .eq 7, 3) ∧ decode cX3_isToldName 36 = .ok (.iconst 1, 1) ∧ decode cX3_isToldName 37 = .ok (.goto 4, 3) ∧ decode cX3_isToldName 40 = .ok (.iconst 0, 1) ∧ decode cX3_isToldName 41 = .ok (.ireturn, 1) := by decide +kernel
theorem dX3_isToldName_30 : decode cX3_isToldName 30 = .ok (.invokevirtual 88, 3) := dAX3_isToldName_2.1
theorem dX3_isToldName_33 : decode cX3_isToldName 33 = .ok (.ifCond .eq 7, 3) := dAX3_isToldName_2.2.1
theorem dX3_isToldName_36 : decode cX3_isToldName 36 = .ok (.iconst 1, 1) := dAX3_isToldName_2.2.2.1
theorem dX3_isToldName_37 : decode cX3_isToldName 37 = .ok (.goto 4, 3) := dAX3_isToldName_2.2.2.2.1
theorem dX3_isToldName_40 : decode cX3_isToldName 40 = .ok (.iconst 0, 1) := dAX3_isToldName_2.2.2.2.2.1
theorem dX3_isToldName_41 : decode cX3_isToldName 41 = .ok (.ireturn, 1) := dAX3_isToldName_2.2.2.2.2.2
set_option maxRecDepth 100000 in
theorem dAX3_isWholeWithin_0 : decode cX3_isWholeWithin 0 = .ok (.aload_n 0, 1) ∧ decode cX3_isWholeWithin 1 = .ok (.getfield 82, 3) ∧ decode cX3_isWholeWithin 4 = .ok (.iconst 2, 1) ∧ decode cX3_isWholeWithin 5 = .ok (.if_icmp .eq 9, 3) ∧ decode cX3_isWholeWithin 8 = .ok (.aload_n 0, 1) ∧ decode cX3_isWholeWithin 9 = .ok (.iconst 1, 1) ∧ decode cX3_isWholeWithin 10 = .ok (.invokevirtual 88, 3) ∧ decode cX3_isWholeWithin 13 = .ok (.ireturn, 1) := by decide +kernel
theorem dX3_isWholeWithin_0 : decode cX3_isWholeWithin 0 = .ok (.aload_n 0, 1) := dAX3_isWholeWithin_0.1
theorem dX3_isWholeWithin_1 : decode cX3_isWholeWithin 1 = .ok (.getfield 82, 3) := dAX3_isWholeWithin_0.2.1
theorem dX3_isWholeWithin_4 : decode cX3_isWholeWithin 4 = .ok (.iconst 2, 1) := dAX3_isWholeWithin_0.2.2.1
theorem dX3_isWholeWithin_5 : decode cX3_isWholeWithin 5 = .ok (.if_icmp .eq 9, 3) := dAX3_isWholeWithin_0.2.2.2.1
theorem dX3_isWholeWithin_8 : decode cX3_isWholeWithin 8 = .ok (.aload_n 0, 1) := dAX3_isWholeWithin_0.2.2.2.2.1
theorem dX3_isWholeWithin_9 : decode cX3_isWholeWithin 9 = .ok (.iconst 1, 1) := dAX3_isWholeWithin_0.2.2.2.2.2.1
theorem dX3_isWholeWithin_10 : decode cX3_isWholeWithin 10 = .ok (.invokevirtual 88, 3) := dAX3_isWholeWithin_0.2.2.2.2.2.2.1
theorem dX3_isWholeWithin_13 : decode cX3_isWholeWithin 13 = .ok (.ireturn, 1) := dAX3_isWholeWithin_0.2.2.2.2.2.2.2
set_option maxRecDepth 100000 in
theorem dAX3_isWholeWithin_1 : decode cX3_isWholeWithin 14 = .ok (.aload_n 0, 1) ∧ decode cX3_isWholeWithin 15 = .ok (.getfield 132, 3) ∧ decode cX3_isWholeWithin 18 = .ok (.iload_n 1, 1) ∧ decode cX3_isWholeWithin 19 = .ok (.if_icmp .lt 11, 3) ∧ decode cX3_isWholeWithin 22 = .ok (.aload_n 0, 1) ∧ decode cX3_isWholeWithin 23 = .ok (.getfield 132, 3) ∧ decode cX3_isWholeWithin 26 = .ok (.iload_n 2, 1) ∧ decode cX3_isWholeWithin 27 = .ok (.if_icmp .le 11, 3) := by decide +kernel
theorem dX3_isWholeWithin_14 : decode cX3_isWholeWithin 14 = .ok (.aload_n 0, 1) := dAX3_isWholeWithin_1.1
theorem dX3_isWholeWithin_15 : decode cX3_isWholeWithin 15 = .ok (.getfield 132, 3) := dAX3_isWholeWithin_1.2.1
theorem dX3_isWholeWithin_18 : decode cX3_isWholeWithin 18 = .ok (.iload_n 1, 1) := dAX3_isWholeWithin_1.2.2.1
theorem dX3_isWholeWithin_19 : decode cX3_isWholeWithin 19 = .ok (.if_icmp .lt 11, 3) := dAX3_isWholeWithin_1.2.2.2.1
theorem dX3_isWholeWithin_22 : decode cX3_isWholeWithin 22 = .ok (.aload_n 0, 1) := dAX3_isWholeWithin_1.2.2.2.2.1
theorem dX3_isWholeWithin_23 : decode cX3_isWholeWithin 23 = .ok (.getfield 132, 3) := dAX3_isWholeWithin_1.2.2.2.2.2.1
theorem dX3_isWholeWithin_26 : decode cX3_isWholeWithin 26 = .ok (.iload_n 2, 1) := dAX3_isWholeWithin_1.2.2.2.2.2.2.1
theorem dX3_isWholeWithin_27 : decode cX3_isWholeWithin 27 = .ok (.if_icmp .le 11, 3) := dAX3_isWholeWithin_1.2.2.2.2.2.2.2
set_option maxRecDepth 100000 in
theorem dAX3_isWholeWithin_2 : decode cX3_isWholeWithin 30 = .ok (.aload_n 0, 1) ∧ decode cX3_isWholeWithin 31 = .ok (.iconst 4, 1) ∧ decode cX3_isWholeWithin 32 = .ok (.invokevirtual 88, 3) ∧ decode cX3_isWholeWithin 35 = .ok (.ifCond .eq 7, 3) ∧ decode cX3_isWholeWithin 38 = .ok (.iconst 1, 1) ∧ decode cX3_isWholeWithin 39 = .ok (.goto 4, 3) ∧ decode cX3_isWholeWithin 42 = .ok (.iconst 0, 1) ∧ decode cX3_isWholeWithin 43 = .ok (.ireturn, 1) := by decide +kernel
theorem dX3_isWholeWithin_30 : decode cX3_isWholeWithin 30 = .ok (.aload_n 0, 1) := dAX3_isWholeWithin_2.1
theorem dX3_isWholeWithin_31 : decode cX3_isWholeWithin 31 = .ok (.iconst 4, 1) := dAX3_isWholeWithin_2.2.1
theorem dX3_isWholeWithin_32 : decode cX3_isWholeWithin 32 = .ok (.invokevirtual 88, 3) := dAX3_isWholeWithin_2.2.2.1
theorem dX3_isWholeWithin_35 : decode cX3_isWholeWithin 35 = .ok (.ifCond .eq 7, 3) := dAX3_isWholeWithin_2.2.2.2.1
theorem dX3_isWholeWithin_38 : decode cX3_isWholeWithin 38 = .ok (.iconst 1, 1) := dAX3_isWholeWithin_2.2.2.2.2.1
theorem dX3_isWholeWithin_39 : decode cX3_isWholeWithin 39 = .ok (.goto 4, 3) := dAX3_isWholeWithin_2.2.2.2.2.2.1
theorem dX3_isWholeWithin_42 : decode cX3_isWholeWithin 42 = .ok (.iconst 0, 1) := dAX3_isWholeWithin_2.2.2.2.2.2.2.1
theorem dX3_isWholeWithin_43 : decode cX3_isWholeWithin 43 = .ok (.ireturn, 1) := dAX3_isWholeWithin_2.2.2.2.2.2.2.2
set_option maxRecDepth 100000 in
theorem dAX3_nameOf_0 : decode cX3_nameOf 0 = .ok (.lconst 0, 1) ∧ decode cX3_nameOf 1 = .ok (.lstore_n 1, 1) ∧ decode cX3_nameOf 2 = .ok (.iconst 0, 1) ∧ decode cX3_nameOf 3 = .ok (.istore_n 3, 1) ∧ decode cX3_nameOf 4 = .ok (.iload_n 3, 1) ∧ decode cX3_nameOf 5 = .ok (.aload_n 0, 1) ∧ decode cX3_nameOf 6 = .ok (.invokevirtual 215, 3) ∧ decode cX3_nameOf 9 = .ok (.if_icmp .ge 19, 3) := by decide +kernel
theorem dX3_nameOf_0 : decode cX3_nameOf 0 = .ok (.lconst 0, 1) := dAX3_nameOf_0.1
theorem dX3_nameOf_1 : decode cX3_nameOf 1 = .ok (.lstore_n 1, 1) := dAX3_nameOf_0.2.1
theorem dX3_nameOf_2 : decode cX3_nameOf 2 = .ok (.iconst 0, 1) := dAX3_nameOf_0.2.2.1
theorem dX3_nameOf_3 : decode cX3_nameOf 3 = .ok (.istore_n 3, 1) := dAX3_nameOf_0.2.2.2.1
theorem dX3_nameOf_4 : decode cX3_nameOf 4 = .ok (.iload_n 3, 1) := dAX3_nameOf_0.2.2.2.2.1
theorem dX3_nameOf_5 : decode cX3_nameOf 5 = .ok (.aload_n 0, 1) := dAX3_nameOf_0.2.2.2.2.2.1
theorem dX3_nameOf_6 : decode cX3_nameOf 6 = .ok (.invokevirtual 215, 3) := dAX3_nameOf_0.2.2.2.2.2.2.1
theorem dX3_nameOf_9 : decode cX3_nameOf 9 = .ok (.if_icmp .ge 19, 3) := dAX3_nameOf_0.2.2.2.2.2.2.2
set_option maxRecDepth 100000 in
theorem dAX3_nameOf_1 : decode cX3_nameOf 12 = .ok (.lload_n 1, 1) ∧ decode cX3_nameOf 13 = .ok (.aload_n 0, 1) ∧ decode cX3_nameOf 14 = .ok (.iload_n 3, 1) ∧ decode cX3_nameOf 15 = .ok (.invokevirtual 220, 3) ∧ decode cX3_nameOf 18 = .ok (.invokestatic 209, 3) ∧ decode cX3_nameOf 21 = .ok (.lstore_n 1, 1) ∧ decode cX3_nameOf 22 = .ok (.iinc 3 1, 3) ∧ decode cX3_nameOf 25 = .ok (.goto (-21), 3) := by decide +kernel
theorem dX3_nameOf_12 : decode cX3_nameOf 12 = .ok (.lload_n 1, 1) := dAX3_nameOf_1.1
theorem dX3_nameOf_13 : decode cX3_nameOf 13 = .ok (.aload_n 0, 1) := dAX3_nameOf_1.2.1
theorem dX3_nameOf_14 : decode cX3_nameOf 14 = .ok (.iload_n 3, 1) := dAX3_nameOf_1.2.2.1
theorem dX3_nameOf_15 : decode cX3_nameOf 15 = .ok (.invokevirtual 220, 3) := dAX3_nameOf_1.2.2.2.1
theorem dX3_nameOf_18 : decode cX3_nameOf 18 = .ok (.invokestatic 209, 3) := dAX3_nameOf_1.2.2.2.2.1
theorem dX3_nameOf_21 : decode cX3_nameOf 21 = .ok (.lstore_n 1, 1) := dAX3_nameOf_1.2.2.2.2.2.1
theorem dX3_nameOf_22 : decode cX3_nameOf 22 = .ok (.iinc 3 1, 3) := dAX3_nameOf_1.2.2.2.2.2.2.1
theorem dX3_nameOf_25 : decode cX3_nameOf 25 = .ok (.goto (-21), 3) := dAX3_nameOf_1.2.2.2.2.2.2.2
set_option maxRecDepth 100000 in
theorem dAX3_nameOf_2 : decode cX3_nameOf 28 = .ok (.lload_n 1, 1) ∧ decode cX3_nameOf 29 = .ok (.lreturn, 1) := by decide +kernel
theorem dX3_nameOf_28 : decode cX3_nameOf 28 = .ok (.lload_n 1, 1) := dAX3_nameOf_2.1
theorem dX3_nameOf_29 : decode cX3_nameOf 29 = .ok (.lreturn, 1) := dAX3_nameOf_2.2
set_option maxRecDepth 100000 in
theorem dAX3_nextToken_0 : decode cX3_nextToken 0 = .ok (.aload_n 0, 1) ∧ decode cX3_nextToken 1 = .ok (.getfield 72, 3) ∧ decode cX3_nextToken 4 = .ok (.istore_n 1, 1) ∧ decode cX3_nextToken 5 = .ok (.iload_n 1, 1) ∧ decode cX3_nextToken 6 = .ok (.aload_n 0, 1) ∧ decode cX3_nextToken 7 = .ok (.getfield 56, 3) ∧ decode cX3_nextToken 10 = .ok (.if_icmp .ge 19, 3) ∧ decode cX3_nextToken 13 = .ok (.aload_n 0, 1) := by decide +kernel
theorem dX3_nextToken_0 : decode cX3_nextToken 0 = .ok (.aload_n 0, 1) := dAX3_nextToken_0.1
theorem dX3_nextToken_1 : decode cX3_nextToken 1 = .ok (.getfield 72, 3) := dAX3_nextToken_0.2.1
theorem dX3_nextToken_4 : decode cX3_nextToken 4 = .ok (.istore_n 1, 1) := dAX3_nextToken_0.2.2.1
theorem dX3_nextToken_5 : decode cX3_nextToken 5 = .ok (.iload_n 1, 1) := dAX3_nextToken_0.2.2.2.1
theorem dX3_nextToken_6 : decode cX3_nextToken 6 = .ok (.aload_n 0, 1) := dAX3_nextToken_0.2.2.2.2.1
theorem dX3_nextToken_7 : decode cX3_nextToken 7 = .ok (.getfield 56, 3) := dAX3_nextToken_0.2.2.2.2.2.1
theorem dX3_nextToken_10 : decode cX3_nextToken 10 = .ok (.if_icmp .ge 19, 3) := dAX3_nextToken_0.2.2.2.2.2.2.1
theorem dX3_nextToken_13 : decode cX3_nextToken 13 = .ok (.aload_n 0, 1) := dAX3_nextToken_0.2.2.2.2.2.2.2
set_option maxRecDepth 100000 in
theorem dAX3_nextToken_1 : decode cX3_nextToken 14 = .ok (.iload_n 1, 1) ∧ decode cX3_nextToken 15 = .ok (.invokevirtual 193, 3) ∧ decode cX3_nextToken 18 = .ok (.bipush 32, 2) ∧ decode cX3_nextToken 20 = .ok (.if_icmp .ne 9, 3) ∧ decode cX3_nextToken 23 = .ok (.iinc 1 1, 3) ∧ decode cX3_nextToken 26 = .ok (.goto (-21), 3) ∧ decode cX3_nextToken 29 = .ok (.aload_n 0, 1) ∧ decode cX3_nextToken 30 = .ok (.iload_n 1, 1) := by decide +kernel
theorem dX3_nextToken_14 : decode cX3_nextToken 14 = .ok (.iload_n 1, 1) := dAX3_nextToken_1.1
theorem dX3_nextToken_15 : decode cX3_nextToken 15 = .ok (.invokevirtual 193, 3) := dAX3_nextToken_1.2.1
theorem dX3_nextToken_18 : decode cX3_nextToken 18 = .ok (.bipush 32, 2) := dAX3_nextToken_1.2.2.1
theorem dX3_nextToken_20 : decode cX3_nextToken 20 = .ok (.if_icmp .ne 9, 3) := dAX3_nextToken_1.2.2.2.1
theorem dX3_nextToken_23 : decode cX3_nextToken 23 = .ok (.iinc 1 1, 3) := dAX3_nextToken_1.2.2.2.2.1
theorem dX3_nextToken_26 : decode cX3_nextToken 26 = .ok (.goto (-21), 3) := dAX3_nextToken_1.2.2.2.2.2.1
theorem dX3_nextToken_29 : decode cX3_nextToken 29 = .ok (.aload_n 0, 1) := dAX3_nextToken_1.2.2.2.2.2.2.1
theorem dX3_nextToken_30 : decode cX3_nextToken 30 = .ok (.iload_n 1, 1) := dAX3_nextToken_1.2.2.2.2.2.2.2
set_option maxRecDepth 100000 in
theorem dAX3_nextToken_2 : decode cX3_nextToken 31 = .ok (.putfield 101, 3) ∧ decode cX3_nextToken 34 = .ok (.aload_n 0, 1) ∧ decode cX3_nextToken 35 = .ok (.iload_n 1, 1) ∧ decode cX3_nextToken 36 = .ok (.iconst 1, 1) ∧ decode cX3_nextToken 37 = .ok (.iadd, 1) ∧ decode cX3_nextToken 38 = .ok (.putfield 72, 3) ∧ decode cX3_nextToken 41 = .ok (.aload_n 0, 1) ∧ decode cX3_nextToken 42 = .ok (.iconst (-1), 1) := by decide +kernel
theorem dX3_nextToken_31 : decode cX3_nextToken 31 = .ok (.putfield 101, 3) := dAX3_nextToken_2.1
theorem dX3_nextToken_34 : decode cX3_nextToken 34 = .ok (.aload_n 0, 1) := dAX3_nextToken_2.2.1
theorem dX3_nextToken_35 : decode cX3_nextToken 35 = .ok (.iload_n 1, 1) := dAX3_nextToken_2.2.2.1
theorem dX3_nextToken_36 : decode cX3_nextToken 36 = .ok (.iconst 1, 1) := dAX3_nextToken_2.2.2.2.1
theorem dX3_nextToken_37 : decode cX3_nextToken 37 = .ok (.iadd, 1) := dAX3_nextToken_2.2.2.2.2.1
theorem dX3_nextToken_38 : decode cX3_nextToken 38 = .ok (.putfield 72, 3) := dAX3_nextToken_2.2.2.2.2.2.1
theorem dX3_nextToken_41 : decode cX3_nextToken 41 = .ok (.aload_n 0, 1) := dAX3_nextToken_2.2.2.2.2.2.2.1
theorem dX3_nextToken_42 : decode cX3_nextToken 42 = .ok (.iconst (-1), 1) := dAX3_nextToken_2.2.2.2.2.2.2.2
set_option maxRecDepth 100000 in
theorem dAX3_nextToken_3 : decode cX3_nextToken 43 = .ok (.putfield 107, 3) ∧ decode cX3_nextToken 46 = .ok (.aload_n 0, 1) ∧ decode cX3_nextToken 47 = .ok (.iload_n 1, 1) ∧ decode cX3_nextToken 48 = .ok (.invokevirtual 193, 3) ∧ decode cX3_nextToken 51 = .ok (.istore_n 2, 1) ∧ decode cX3_nextToken 52 = .ok (.iload_n 1, 1) ∧ decode cX3_nextToken 53 = .ok (.aload_n 0, 1) ∧ decode cX3_nextToken 54 = .ok (.getfield 56, 3) := by decide +kernel
theorem dX3_nextToken_43 : decode cX3_nextToken 43 = .ok (.putfield 107, 3) := dAX3_nextToken_3.1
theorem dX3_nextToken_46 : decode cX3_nextToken 46 = .ok (.aload_n 0, 1) := dAX3_nextToken_3.2.1
theorem dX3_nextToken_47 : decode cX3_nextToken 47 = .ok (.iload_n 1, 1) := dAX3_nextToken_3.2.2.1
theorem dX3_nextToken_48 : decode cX3_nextToken 48 = .ok (.invokevirtual 193, 3) := dAX3_nextToken_3.2.2.2.1
theorem dX3_nextToken_51 : decode cX3_nextToken 51 = .ok (.istore_n 2, 1) := dAX3_nextToken_3.2.2.2.2.1
theorem dX3_nextToken_52 : decode cX3_nextToken 52 = .ok (.iload_n 1, 1) := dAX3_nextToken_3.2.2.2.2.2.1
theorem dX3_nextToken_53 : decode cX3_nextToken 53 = .ok (.aload_n 0, 1) := dAX3_nextToken_3.2.2.2.2.2.2.1
theorem dX3_nextToken_54 : decode cX3_nextToken 54 = .ok (.getfield 56, 3) := dAX3_nextToken_3.2.2.2.2.2.2.2
set_option maxRecDepth 100000 in
theorem dAX3_nextToken_4 : decode cX3_nextToken 57 = .ok (.if_icmp .lt 19, 3) ∧ decode cX3_nextToken 60 = .ok (.aload_n 0, 1) ∧ decode cX3_nextToken 61 = .ok (.iconst 0, 1) ∧ decode cX3_nextToken 62 = .ok (.putfield 82, 3) ∧ decode cX3_nextToken 65 = .ok (.aload_n 0, 1) ∧ decode cX3_nextToken 66 = .ok (.aload_n 0, 1) ∧ decode cX3_nextToken 67 = .ok (.getfield 56, 3) ∧ decode cX3_nextToken 70 = .ok (.putfield 72, 3) := by decide +kernel
theorem dX3_nextToken_57 : decode cX3_nextToken 57 = .ok (.if_icmp .lt 19, 3) := dAX3_nextToken_4.1
theorem dX3_nextToken_60 : decode cX3_nextToken 60 = .ok (.aload_n 0, 1) := dAX3_nextToken_4.2.1
theorem dX3_nextToken_61 : decode cX3_nextToken 61 = .ok (.iconst 0, 1) := dAX3_nextToken_4.2.2.1
theorem dX3_nextToken_62 : decode cX3_nextToken 62 = .ok (.putfield 82, 3) := dAX3_nextToken_4.2.2.2.1
theorem dX3_nextToken_65 : decode cX3_nextToken 65 = .ok (.aload_n 0, 1) := dAX3_nextToken_4.2.2.2.2.1
theorem dX3_nextToken_66 : decode cX3_nextToken 66 = .ok (.aload_n 0, 1) := dAX3_nextToken_4.2.2.2.2.2.1
theorem dX3_nextToken_67 : decode cX3_nextToken 67 = .ok (.getfield 56, 3) := dAX3_nextToken_4.2.2.2.2.2.2.1
theorem dX3_nextToken_70 : decode cX3_nextToken 70 = .ok (.putfield 72, 3) := dAX3_nextToken_4.2.2.2.2.2.2.2
set_option maxRecDepth 100000 in
theorem dAX3_nextToken_5 : decode cX3_nextToken 73 = .ok (.goto 56, 3) ∧ decode cX3_nextToken 76 = .ok (.iload_n 2, 1) ∧ decode cX3_nextToken 77 = .ok (.invokestatic 197, 3) ∧ decode cX3_nextToken 80 = .ok (.ifCond .eq 10, 3) ∧ decode cX3_nextToken 83 = .ok (.aload_n 0, 1) ∧ decode cX3_nextToken 84 = .ok (.invokevirtual 200, 3) ∧ decode cX3_nextToken 87 = .ok (.goto 42, 3) ∧ decode cX3_nextToken 90 = .ok (.iload_n 2, 1) := by decide +kernel
theorem dX3_nextToken_73 : decode cX3_nextToken 73 = .ok (.goto 56, 3) := dAX3_nextToken_5.1
theorem dX3_nextToken_76 : decode cX3_nextToken 76 = .ok (.iload_n 2, 1) := dAX3_nextToken_5.2.1
theorem dX3_nextToken_77 : decode cX3_nextToken 77 = .ok (.invokestatic 197, 3) := dAX3_nextToken_5.2.2.1
theorem dX3_nextToken_80 : decode cX3_nextToken 80 = .ok (.ifCond .eq 10, 3) := dAX3_nextToken_5.2.2.2.1
theorem dX3_nextToken_83 : decode cX3_nextToken 83 = .ok (.aload_n 0, 1) := dAX3_nextToken_5.2.2.2.2.1
theorem dX3_nextToken_84 : decode cX3_nextToken 84 = .ok (.invokevirtual 200, 3) := dAX3_nextToken_5.2.2.2.2.2.1
theorem dX3_nextToken_87 : decode cX3_nextToken 87 = .ok (.goto 42, 3) := dAX3_nextToken_5.2.2.2.2.2.2.1
theorem dX3_nextToken_90 : decode cX3_nextToken 90 = .ok (.iload_n 2, 1) := dAX3_nextToken_5.2.2.2.2.2.2.2
set_option maxRecDepth 100000 in
theorem dAX3_nextToken_6 : decode cX3_nextToken 91 = .ok (.invokestatic 203, 3) ∧ decode cX3_nextToken 94 = .ok (.ifCond .eq 10, 3) ∧ decode cX3_nextToken 97 = .ok (.aload_n 0, 1) ∧ decode cX3_nextToken 98 = .ok (.invokevirtual 206, 3) ∧ decode cX3_nextToken 101 = .ok (.goto 28, 3) ∧ decode cX3_nextToken 104 = .ok (.aload_n 0, 1) ∧ decode cX3_nextToken 105 = .ok (.iload_n 2, 1) ∧ decode cX3_nextToken 106 = .ok (.bipush 59, 2) := by decide +kernel
theorem dX3_nextToken_91 : decode cX3_nextToken 91 = .ok (.invokestatic 203, 3) := dAX3_nextToken_6.1
theorem dX3_nextToken_94 : decode cX3_nextToken 94 = .ok (.ifCond .eq 10, 3) := dAX3_nextToken_6.2.1
theorem dX3_nextToken_97 : decode cX3_nextToken 97 = .ok (.aload_n 0, 1) := dAX3_nextToken_6.2.2.1
theorem dX3_nextToken_98 : decode cX3_nextToken 98 = .ok (.invokevirtual 206, 3) := dAX3_nextToken_6.2.2.2.1
theorem dX3_nextToken_101 : decode cX3_nextToken 101 = .ok (.goto 28, 3) := dAX3_nextToken_6.2.2.2.2.1
theorem dX3_nextToken_104 : decode cX3_nextToken 104 = .ok (.aload_n 0, 1) := dAX3_nextToken_6.2.2.2.2.2.1
theorem dX3_nextToken_105 : decode cX3_nextToken 105 = .ok (.iload_n 2, 1) := dAX3_nextToken_6.2.2.2.2.2.2.1
theorem dX3_nextToken_106 : decode cX3_nextToken 106 = .ok (.bipush 59, 2) := dAX3_nextToken_6.2.2.2.2.2.2.2
set_option maxRecDepth 100000 in
theorem dAX3_nextToken_7 : decode cX3_nextToken 108 = .ok (.if_icmp .ne 7, 3) ∧ decode cX3_nextToken 111 = .ok (.iconst 3, 1) ∧ decode cX3_nextToken 112 = .ok (.goto 14, 3) ∧ decode cX3_nextToken 115 = .ok (.iload_n 2, 1) ∧ decode cX3_nextToken 116 = .ok (.bipush 44, 2) ∧ decode cX3_nextToken 118 = .ok (.if_icmp .ne 7, 3) ∧ decode cX3_nextToken 121 = .ok (.iconst 4, 1) ∧ decode cX3_nextToken 122 = .ok (.goto 4, 3) := by decide +kernel
theorem dX3_nextToken_108 : decode cX3_nextToken 108 = .ok (.if_icmp .ne 7, 3) := dAX3_nextToken_7.1
theorem dX3_nextToken_111 : decode cX3_nextToken 111 = .ok (.iconst 3, 1) := dAX3_nextToken_7.2.1
theorem dX3_nextToken_112 : decode cX3_nextToken 112 = .ok (.goto 14, 3) := dAX3_nextToken_7.2.2.1
theorem dX3_nextToken_115 : decode cX3_nextToken 115 = .ok (.iload_n 2, 1) := dAX3_nextToken_7.2.2.2.1
theorem dX3_nextToken_116 : decode cX3_nextToken 116 = .ok (.bipush 44, 2) := dAX3_nextToken_7.2.2.2.2.1
theorem dX3_nextToken_118 : decode cX3_nextToken 118 = .ok (.if_icmp .ne 7, 3) := dAX3_nextToken_7.2.2.2.2.2.1
theorem dX3_nextToken_121 : decode cX3_nextToken 121 = .ok (.iconst 4, 1) := dAX3_nextToken_7.2.2.2.2.2.2.1
theorem dX3_nextToken_122 : decode cX3_nextToken 122 = .ok (.goto 4, 3) := dAX3_nextToken_7.2.2.2.2.2.2.2
set_option maxRecDepth 100000 in
theorem dAX3_nextToken_8 : decode cX3_nextToken 125 = .ok (.iconst 5, 1) ∧ decode cX3_nextToken 126 = .ok (.putfield 82, 3) ∧ decode cX3_nextToken 129 = .ok (.return_, 1) := by decide +kernel
theorem dX3_nextToken_125 : decode cX3_nextToken 125 = .ok (.iconst 5, 1) := dAX3_nextToken_8.1
theorem dX3_nextToken_126 : decode cX3_nextToken 126 = .ok (.putfield 82, 3) := dAX3_nextToken_8.2.1
theorem dX3_nextToken_129 : decode cX3_nextToken 129 = .ok (.return_, 1) := dAX3_nextToken_8.2.2
set_option maxRecDepth 100000 in
theorem dAX3_putBytes_0 : decode cX3_putBytes 0 = .ok (.bipush 24, 2) ∧ decode cX3_putBytes 2 = .ok (.istore_n 2, 1) ∧ decode cX3_putBytes 3 = .ok (.iload_n 2, 1) ∧ decode cX3_putBytes 4 = .ok (.ifCond .lt 42, 3) ∧ decode cX3_putBytes 7 = .ok (.aload_n 0, 1) ∧ decode cX3_putBytes 8 = .ok (.getfield 52, 3) ∧ decode cX3_putBytes 11 = .ok (.sipush 900, 3) ∧ decode cX3_putBytes 14 = .ok (.if_icmp .ge 26, 3) := by decide +kernel
theorem dX3_putBytes_0 : decode cX3_putBytes 0 = .ok (.bipush 24, 2) := dAX3_putBytes_0.1
theorem dX3_putBytes_2 : decode cX3_putBytes 2 = .ok (.istore_n 2, 1) := dAX3_putBytes_0.2.1
theorem dX3_putBytes_3 : decode cX3_putBytes 3 = .ok (.iload_n 2, 1) := dAX3_putBytes_0.2.2.1
theorem dX3_putBytes_4 : decode cX3_putBytes 4 = .ok (.ifCond .lt 42, 3) := dAX3_putBytes_0.2.2.2.1
theorem dX3_putBytes_7 : decode cX3_putBytes 7 = .ok (.aload_n 0, 1) := dAX3_putBytes_0.2.2.2.2.1
theorem dX3_putBytes_8 : decode cX3_putBytes 8 = .ok (.getfield 52, 3) := dAX3_putBytes_0.2.2.2.2.2.1
theorem dX3_putBytes_11 : decode cX3_putBytes 11 = .ok (.sipush 900, 3) := dAX3_putBytes_0.2.2.2.2.2.2.1
theorem dX3_putBytes_14 : decode cX3_putBytes 14 = .ok (.if_icmp .ge 26, 3) := dAX3_putBytes_0.2.2.2.2.2.2.2
set_option maxRecDepth 100000 in
theorem dAX3_putBytes_1 : decode cX3_putBytes 17 = .ok (.aload_n 0, 1) ∧ decode cX3_putBytes 18 = .ok (.getfield 9, 3) ∧ decode cX3_putBytes 21 = .ok (.aload_n 0, 1) ∧ decode cX3_putBytes 22 = .ok (.getfield 52, 3) ∧ decode cX3_putBytes 25 = .ok (.iload_n 1, 1) ∧ decode cX3_putBytes 26 = .ok (.iload_n 2, 1) ∧ decode cX3_putBytes 27 = .ok (.ishr, 1) ∧ decode cX3_putBytes 28 = .ok (.i2b, 1) := by decide +kernel
theorem dX3_putBytes_17 : decode cX3_putBytes 17 = .ok (.aload_n 0, 1) := dAX3_putBytes_1.1
theorem dX3_putBytes_18 : decode cX3_putBytes 18 = .ok (.getfield 9, 3) := dAX3_putBytes_1.2.1
theorem dX3_putBytes_21 : decode cX3_putBytes 21 = .ok (.aload_n 0, 1) := dAX3_putBytes_1.2.2.1
theorem dX3_putBytes_22 : decode cX3_putBytes 22 = .ok (.getfield 52, 3) := dAX3_putBytes_1.2.2.2.1
theorem dX3_putBytes_25 : decode cX3_putBytes 25 = .ok (.iload_n 1, 1) := dAX3_putBytes_1.2.2.2.2.1
theorem dX3_putBytes_26 : decode cX3_putBytes 26 = .ok (.iload_n 2, 1) := dAX3_putBytes_1.2.2.2.2.2.1
theorem dX3_putBytes_27 : decode cX3_putBytes 27 = .ok (.ishr, 1) := dAX3_putBytes_1.2.2.2.2.2.2.1
theorem dX3_putBytes_28 : decode cX3_putBytes 28 = .ok (.i2b, 1) := dAX3_putBytes_1.2.2.2.2.2.2.2
set_option maxRecDepth 100000 in
theorem dAX3_putBytes_2 : decode cX3_putBytes 29 = .ok (.bastore, 1) ∧ decode cX3_putBytes 30 = .ok (.aload_n 0, 1) ∧ decode cX3_putBytes 31 = .ok (.dup, 1) ∧ decode cX3_putBytes 32 = .ok (.getfield 52, 3) ∧ decode cX3_putBytes 35 = .ok (.iconst 1, 1) ∧ decode cX3_putBytes 36 = .ok (.iadd, 1) ∧ decode cX3_putBytes 37 = .ok (.putfield 52, 3) ∧ decode cX3_putBytes 40 = .ok (.iinc 2 (-8), 3) := by decide +kernel
theorem dX3_putBytes_29 : decode cX3_putBytes 29 = .ok (.bastore, 1) := dAX3_putBytes_2.1
theorem dX3_putBytes_30 : decode cX3_putBytes 30 = .ok (.aload_n 0, 1) := dAX3_putBytes_2.2.1
theorem dX3_putBytes_31 : decode cX3_putBytes 31 = .ok (.dup, 1) := dAX3_putBytes_2.2.2.1
theorem dX3_putBytes_32 : decode cX3_putBytes 32 = .ok (.getfield 52, 3) := dAX3_putBytes_2.2.2.2.1
theorem dX3_putBytes_35 : decode cX3_putBytes 35 = .ok (.iconst 1, 1) := dAX3_putBytes_2.2.2.2.2.1
theorem dX3_putBytes_36 : decode cX3_putBytes 36 = .ok (.iadd, 1) := dAX3_putBytes_2.2.2.2.2.2.1
theorem dX3_putBytes_37 : decode cX3_putBytes 37 = .ok (.putfield 52, 3) := dAX3_putBytes_2.2.2.2.2.2.2.1
theorem dX3_putBytes_40 : decode cX3_putBytes 40 = .ok (.iinc 2 (-8), 3) := dAX3_putBytes_2.2.2.2.2.2.2.2
set_option maxRecDepth 100000 in
theorem dAX3_putBytes_3 : decode cX3_putBytes 43 = .ok (.goto (-40), 3) ∧ decode cX3_putBytes 46 = .ok (.return_, 1) := by decide +kernel
theorem dX3_putBytes_43 : decode cX3_putBytes 43 = .ok (.goto (-40), 3) := dAX3_putBytes_3.1
theorem dX3_putBytes_46 : decode cX3_putBytes 46 = .ok (.return_, 1) := dAX3_putBytes_3.2
set_option maxRecDepth 100000 in
theorem dAX3_readCourt_0 : decode cX3_readCourt 0 = .ok (.aload_n 0, 1) ∧ decode cX3_readCourt 1 = .ok (.getfield 62, 3) ∧ decode cX3_readCourt 4 = .ok (.ifCond .eq 9, 3) ∧ decode cX3_readCourt 7 = .ok (.aload_n 0, 1) ∧ decode cX3_readCourt 8 = .ok (.iconst 3, 1) ∧ decode cX3_readCourt 9 = .ok (.invokevirtual 88, 3) ∧ decode cX3_readCourt 12 = .ok (.ireturn, 1) ∧ decode cX3_readCourt 13 = .ok (.aload_n 0, 1) := by decide +kernel
theorem dX3_readCourt_0 : decode cX3_readCourt 0 = .ok (.aload_n 0, 1) := dAX3_readCourt_0.1
theorem dX3_readCourt_1 : decode cX3_readCourt 1 = .ok (.getfield 62, 3) := dAX3_readCourt_0.2.1
theorem dX3_readCourt_4 : decode cX3_readCourt 4 = .ok (.ifCond .eq 9, 3) := dAX3_readCourt_0.2.2.1
theorem dX3_readCourt_7 : decode cX3_readCourt 7 = .ok (.aload_n 0, 1) := dAX3_readCourt_0.2.2.2.1
theorem dX3_readCourt_8 : decode cX3_readCourt 8 = .ok (.iconst 3, 1) := dAX3_readCourt_0.2.2.2.2.1
theorem dX3_readCourt_9 : decode cX3_readCourt 9 = .ok (.invokevirtual 88, 3) := dAX3_readCourt_0.2.2.2.2.2.1
theorem dX3_readCourt_12 : decode cX3_readCourt 12 = .ok (.ireturn, 1) := dAX3_readCourt_0.2.2.2.2.2.2.1
theorem dX3_readCourt_13 : decode cX3_readCourt 13 = .ok (.aload_n 0, 1) := dAX3_readCourt_0.2.2.2.2.2.2.2
set_option maxRecDepth 100000 in
theorem dAX3_readCourt_1 : decode cX3_readCourt 14 = .ok (.iconst 1, 1) ∧ decode cX3_readCourt 15 = .ok (.putfield 62, 3) ∧ decode cX3_readCourt 18 = .ok (.aload_n 0, 1) ∧ decode cX3_readCourt 19 = .ok (.invokevirtual 75, 3) ∧ decode cX3_readCourt 22 = .ok (.aload_n 0, 1) ∧ decode cX3_readCourt 23 = .ok (.getfield 107, 3) ∧ decode cX3_readCourt 26 = .ok (.bipush 8, 2) ∧ decode cX3_readCourt 28 = .ok (.if_icmp .eq 9, 3) := by decide +kernel
theorem dX3_readCourt_14 : decode cX3_readCourt 14 = .ok (.iconst 1, 1) := dAX3_readCourt_1.1
theorem dX3_readCourt_15 : decode cX3_readCourt 15 = .ok (.putfield 62, 3) := dAX3_readCourt_1.2.1
theorem dX3_readCourt_18 : decode cX3_readCourt 18 = .ok (.aload_n 0, 1) := dAX3_readCourt_1.2.2.1
theorem dX3_readCourt_19 : decode cX3_readCourt 19 = .ok (.invokevirtual 75, 3) := dAX3_readCourt_1.2.2.2.1
theorem dX3_readCourt_22 : decode cX3_readCourt 22 = .ok (.aload_n 0, 1) := dAX3_readCourt_1.2.2.2.2.1
theorem dX3_readCourt_23 : decode cX3_readCourt 23 = .ok (.getfield 107, 3) := dAX3_readCourt_1.2.2.2.2.2.1
theorem dX3_readCourt_26 : decode cX3_readCourt 26 = .ok (.bipush 8, 2) := dAX3_readCourt_1.2.2.2.2.2.2.1
theorem dX3_readCourt_28 : decode cX3_readCourt 28 = .ok (.if_icmp .eq 9, 3) := dAX3_readCourt_1.2.2.2.2.2.2.2
set_option maxRecDepth 100000 in
theorem dAX3_readCourt_2 : decode cX3_readCourt 31 = .ok (.aload_n 0, 1) ∧ decode cX3_readCourt 32 = .ok (.iconst 1, 1) ∧ decode cX3_readCourt 33 = .ok (.invokevirtual 88, 3) ∧ decode cX3_readCourt 36 = .ok (.ireturn, 1) ∧ decode cX3_readCourt 37 = .ok (.aload_n 0, 1) ∧ decode cX3_readCourt 38 = .ok (.invokevirtual 75, 3) ∧ decode cX3_readCourt 41 = .ok (.aload_n 0, 1) ∧ decode cX3_readCourt 42 = .ok (.iconst 0, 1) := by decide +kernel
theorem dX3_readCourt_31 : decode cX3_readCourt 31 = .ok (.aload_n 0, 1) := dAX3_readCourt_2.1
theorem dX3_readCourt_32 : decode cX3_readCourt 32 = .ok (.iconst 1, 1) := dAX3_readCourt_2.2.1
theorem dX3_readCourt_33 : decode cX3_readCourt 33 = .ok (.invokevirtual 88, 3) := dAX3_readCourt_2.2.2.1
theorem dX3_readCourt_36 : decode cX3_readCourt 36 = .ok (.ireturn, 1) := dAX3_readCourt_2.2.2.2.1
theorem dX3_readCourt_37 : decode cX3_readCourt 37 = .ok (.aload_n 0, 1) := dAX3_readCourt_2.2.2.2.2.1
theorem dX3_readCourt_38 : decode cX3_readCourt 38 = .ok (.invokevirtual 75, 3) := dAX3_readCourt_2.2.2.2.2.2.1
theorem dX3_readCourt_41 : decode cX3_readCourt 41 = .ok (.aload_n 0, 1) := dAX3_readCourt_2.2.2.2.2.2.2.1
theorem dX3_readCourt_42 : decode cX3_readCourt 42 = .ok (.iconst 0, 1) := dAX3_readCourt_2.2.2.2.2.2.2.2
set_option maxRecDepth 100000 in
theorem dAX3_readCourt_3 : decode cX3_readCourt 43 = .ok (.bipush 100, 2) ∧ decode cX3_readCourt 45 = .ok (.invokevirtual 128, 3) ∧ decode cX3_readCourt 48 = .ok (.ifCond .ne 5, 3) ∧ decode cX3_readCourt 51 = .ok (.iconst 0, 1) ∧ decode cX3_readCourt 52 = .ok (.ireturn, 1) ∧ decode cX3_readCourt 53 = .ok (.aload_n 0, 1) ∧ decode cX3_readCourt 54 = .ok (.getfield 18, 3) ∧ decode cX3_readCourt 57 = .ok (.aload_n 0, 1) := by decide +kernel
theorem dX3_readCourt_43 : decode cX3_readCourt 43 = .ok (.bipush 100, 2) := dAX3_readCourt_3.1
theorem dX3_readCourt_45 : decode cX3_readCourt 45 = .ok (.invokevirtual 128, 3) := dAX3_readCourt_3.2.1
theorem dX3_readCourt_48 : decode cX3_readCourt 48 = .ok (.ifCond .ne 5, 3) := dAX3_readCourt_3.2.2.1
theorem dX3_readCourt_51 : decode cX3_readCourt 51 = .ok (.iconst 0, 1) := dAX3_readCourt_3.2.2.2.1
theorem dX3_readCourt_52 : decode cX3_readCourt 52 = .ok (.ireturn, 1) := dAX3_readCourt_3.2.2.2.2.1
theorem dX3_readCourt_53 : decode cX3_readCourt 53 = .ok (.aload_n 0, 1) := dAX3_readCourt_3.2.2.2.2.2.1
theorem dX3_readCourt_54 : decode cX3_readCourt 54 = .ok (.getfield 18, 3) := dAX3_readCourt_3.2.2.2.2.2.2.1
theorem dX3_readCourt_57 : decode cX3_readCourt 57 = .ok (.aload_n 0, 1) := dAX3_readCourt_3.2.2.2.2.2.2.2
set_option maxRecDepth 100000 in
theorem dAX3_readCourt_4 : decode cX3_readCourt 58 = .ok (.getfield 132, 3) ∧ decode cX3_readCourt 61 = .ok (.putfield 135, 3) ∧ decode cX3_readCourt 64 = .ok (.aload_n 0, 1) ∧ decode cX3_readCourt 65 = .ok (.invokevirtual 75, 3) ∧ decode cX3_readCourt 68 = .ok (.iconst 1, 1) ∧ decode cX3_readCourt 69 = .ok (.ireturn, 1) := by decide +kernel
theorem dX3_readCourt_58 : decode cX3_readCourt 58 = .ok (.getfield 132, 3) := dAX3_readCourt_4.1
theorem dX3_readCourt_61 : decode cX3_readCourt 61 = .ok (.putfield 135, 3) := dAX3_readCourt_4.2.1
theorem dX3_readCourt_64 : decode cX3_readCourt 64 = .ok (.aload_n 0, 1) := dAX3_readCourt_4.2.2.1
theorem dX3_readCourt_65 : decode cX3_readCourt 65 = .ok (.invokevirtual 75, 3) := dAX3_readCourt_4.2.2.2.1
theorem dX3_readCourt_68 : decode cX3_readCourt 68 = .ok (.iconst 1, 1) := dAX3_readCourt_4.2.2.2.2.1
theorem dX3_readCourt_69 : decode cX3_readCourt 69 = .ok (.ireturn, 1) := dAX3_readCourt_4.2.2.2.2.2
set_option maxRecDepth 100000 in
theorem dAX3_readEnd_0 : decode cX3_readEnd 0 = .ok (.aload_n 0, 1) ∧ decode cX3_readEnd 1 = .ok (.getfield 82, 3) ∧ decode cX3_readEnd 4 = .ok (.ifCond .eq 9, 3) ∧ decode cX3_readEnd 7 = .ok (.aload_n 0, 1) ∧ decode cX3_readEnd 8 = .ok (.iconst 1, 1) ∧ decode cX3_readEnd 9 = .ok (.invokevirtual 88, 3) ∧ decode cX3_readEnd 12 = .ok (.ireturn, 1) ∧ decode cX3_readEnd 13 = .ok (.aload_n 0, 1) := by decide +kernel
theorem dX3_readEnd_0 : decode cX3_readEnd 0 = .ok (.aload_n 0, 1) := dAX3_readEnd_0.1
theorem dX3_readEnd_1 : decode cX3_readEnd 1 = .ok (.getfield 82, 3) := dAX3_readEnd_0.2.1
theorem dX3_readEnd_4 : decode cX3_readEnd 4 = .ok (.ifCond .eq 9, 3) := dAX3_readEnd_0.2.2.1
theorem dX3_readEnd_7 : decode cX3_readEnd 7 = .ok (.aload_n 0, 1) := dAX3_readEnd_0.2.2.2.1
theorem dX3_readEnd_8 : decode cX3_readEnd 8 = .ok (.iconst 1, 1) := dAX3_readEnd_0.2.2.2.2.1
theorem dX3_readEnd_9 : decode cX3_readEnd 9 = .ok (.invokevirtual 88, 3) := dAX3_readEnd_0.2.2.2.2.2.1
theorem dX3_readEnd_12 : decode cX3_readEnd 12 = .ok (.ireturn, 1) := dAX3_readEnd_0.2.2.2.2.2.2.1
theorem dX3_readEnd_13 : decode cX3_readEnd 13 = .ok (.aload_n 0, 1) := dAX3_readEnd_0.2.2.2.2.2.2.2
set_option maxRecDepth 100000 in
theorem dAX3_readEnd_1 : decode cX3_readEnd 14 = .ok (.getfield 18, 3) ∧ decode cX3_readEnd 17 = .ok (.getfield 92, 3) ∧ decode cX3_readEnd 20 = .ok (.ifCond .ne 10, 3) ∧ decode cX3_readEnd 23 = .ok (.aload_n 0, 1) ∧ decode cX3_readEnd 24 = .ok (.bipush 6, 2) ∧ decode cX3_readEnd 26 = .ok (.invokevirtual 88, 3) ∧ decode cX3_readEnd 29 = .ok (.ireturn, 1) ∧ decode cX3_readEnd 30 = .ok (.aload_n 0, 1) := by decide +kernel
theorem dX3_readEnd_14 : decode cX3_readEnd 14 = .ok (.getfield 18, 3) := dAX3_readEnd_1.1
theorem dX3_readEnd_17 : decode cX3_readEnd 17 = .ok (.getfield 92, 3) := dAX3_readEnd_1.2.1
theorem dX3_readEnd_20 : decode cX3_readEnd 20 = .ok (.ifCond .ne 10, 3) := dAX3_readEnd_1.2.2.1
theorem dX3_readEnd_23 : decode cX3_readEnd 23 = .ok (.aload_n 0, 1) := dAX3_readEnd_1.2.2.2.1
theorem dX3_readEnd_24 : decode cX3_readEnd 24 = .ok (.bipush 6, 2) := dAX3_readEnd_1.2.2.2.2.1
theorem dX3_readEnd_26 : decode cX3_readEnd 26 = .ok (.invokevirtual 88, 3) := dAX3_readEnd_1.2.2.2.2.2.1
theorem dX3_readEnd_29 : decode cX3_readEnd 29 = .ok (.ireturn, 1) := dAX3_readEnd_1.2.2.2.2.2.2.1
theorem dX3_readEnd_30 : decode cX3_readEnd 30 = .ok (.aload_n 0, 1) := dAX3_readEnd_1.2.2.2.2.2.2.2
set_option maxRecDepth 100000 in
theorem dAX3_readEnd_2 : decode cX3_readEnd 31 = .ok (.getfield 18, 3) ∧ decode cX3_readEnd 34 = .ok (.getfield 95, 3) ∧ decode cX3_readEnd 37 = .ok (.ifCond .ge 19, 3) ∧ decode cX3_readEnd 40 = .ok (.aload_n 0, 1) ∧ decode cX3_readEnd 41 = .ok (.getfield 18, 3) ∧ decode cX3_readEnd 44 = .ok (.aload_n 0, 1) ∧ decode cX3_readEnd 45 = .ok (.getfield 18, 3) ∧ decode cX3_readEnd 48 = .ok (.getfield 98, 3) := by decide +kernel
theorem dX3_readEnd_31 : decode cX3_readEnd 31 = .ok (.getfield 18, 3) := dAX3_readEnd_2.1
theorem dX3_readEnd_34 : decode cX3_readEnd 34 = .ok (.getfield 95, 3) := dAX3_readEnd_2.2.1
theorem dX3_readEnd_37 : decode cX3_readEnd 37 = .ok (.ifCond .ge 19, 3) := dAX3_readEnd_2.2.2.1
theorem dX3_readEnd_40 : decode cX3_readEnd 40 = .ok (.aload_n 0, 1) := dAX3_readEnd_2.2.2.2.1
theorem dX3_readEnd_41 : decode cX3_readEnd 41 = .ok (.getfield 18, 3) := dAX3_readEnd_2.2.2.2.2.1
theorem dX3_readEnd_44 : decode cX3_readEnd 44 = .ok (.aload_n 0, 1) := dAX3_readEnd_2.2.2.2.2.2.1
theorem dX3_readEnd_45 : decode cX3_readEnd 45 = .ok (.getfield 18, 3) := dAX3_readEnd_2.2.2.2.2.2.2.1
theorem dX3_readEnd_48 : decode cX3_readEnd 48 = .ok (.getfield 98, 3) := dAX3_readEnd_2.2.2.2.2.2.2.2
set_option maxRecDepth 100000 in
theorem dAX3_readEnd_3 : decode cX3_readEnd 51 = .ok (.iconst 1, 1) ∧ decode cX3_readEnd 52 = .ok (.isub, 1) ∧ decode cX3_readEnd 53 = .ok (.putfield 95, 3) ∧ decode cX3_readEnd 56 = .ok (.iconst 1, 1) ∧ decode cX3_readEnd 57 = .ok (.ireturn, 1) := by decide +kernel
theorem dX3_readEnd_51 : decode cX3_readEnd 51 = .ok (.iconst 1, 1) := dAX3_readEnd_3.1
theorem dX3_readEnd_52 : decode cX3_readEnd 52 = .ok (.isub, 1) := dAX3_readEnd_3.2.1
theorem dX3_readEnd_53 : decode cX3_readEnd 53 = .ok (.putfield 95, 3) := dAX3_readEnd_3.2.2.1
theorem dX3_readEnd_56 : decode cX3_readEnd 56 = .ok (.iconst 1, 1) := dAX3_readEnd_3.2.2.2.1
theorem dX3_readEnd_57 : decode cX3_readEnd 57 = .ok (.ireturn, 1) := dAX3_readEnd_3.2.2.2.2
set_option maxRecDepth 100000 in
theorem dAX3_readLine_0 : decode cX3_readLine 0 = .ok (.aload_n 0, 1) ∧ decode cX3_readLine 1 = .ok (.invokevirtual 104, 3) ∧ decode cX3_readLine 4 = .ok (.ifCond .ne 9, 3) ∧ decode cX3_readLine 7 = .ok (.aload_n 0, 1) ∧ decode cX3_readLine 8 = .ok (.iconst 1, 1) ∧ decode cX3_readLine 9 = .ok (.invokevirtual 88, 3) ∧ decode cX3_readLine 12 = .ok (.ireturn, 1) ∧ decode cX3_readLine 13 = .ok (.aload_n 0, 1) := by decide +kernel
theorem dX3_readLine_0 : decode cX3_readLine 0 = .ok (.aload_n 0, 1) := dAX3_readLine_0.1
theorem dX3_readLine_1 : decode cX3_readLine 1 = .ok (.invokevirtual 104, 3) := dAX3_readLine_0.2.1
theorem dX3_readLine_4 : decode cX3_readLine 4 = .ok (.ifCond .ne 9, 3) := dAX3_readLine_0.2.2.1
theorem dX3_readLine_7 : decode cX3_readLine 7 = .ok (.aload_n 0, 1) := dAX3_readLine_0.2.2.2.1
theorem dX3_readLine_8 : decode cX3_readLine 8 = .ok (.iconst 1, 1) := dAX3_readLine_0.2.2.2.2.1
theorem dX3_readLine_9 : decode cX3_readLine 9 = .ok (.invokevirtual 88, 3) := dAX3_readLine_0.2.2.2.2.2.1
theorem dX3_readLine_12 : decode cX3_readLine 12 = .ok (.ireturn, 1) := dAX3_readLine_0.2.2.2.2.2.2.1
theorem dX3_readLine_13 : decode cX3_readLine 13 = .ok (.aload_n 0, 1) := dAX3_readLine_0.2.2.2.2.2.2.2
set_option maxRecDepth 100000 in
theorem dAX3_readLine_1 : decode cX3_readLine 14 = .ok (.getfield 62, 3) ∧ decode cX3_readLine 17 = .ok (.ifCond .ne 18, 3) ∧ decode cX3_readLine 20 = .ok (.aload_n 0, 1) ∧ decode cX3_readLine 21 = .ok (.getfield 107, 3) ∧ decode cX3_readLine 24 = .ok (.iconst 4, 1) ∧ decode cX3_readLine 25 = .ok (.if_icmp .eq 10, 3) ∧ decode cX3_readLine 28 = .ok (.aload_n 0, 1) ∧ decode cX3_readLine 29 = .ok (.bipush 6, 2) := by decide +kernel
theorem dX3_readLine_14 : decode cX3_readLine 14 = .ok (.getfield 62, 3) := dAX3_readLine_1.1
theorem dX3_readLine_17 : decode cX3_readLine 17 = .ok (.ifCond .ne 18, 3) := dAX3_readLine_1.2.1
theorem dX3_readLine_20 : decode cX3_readLine 20 = .ok (.aload_n 0, 1) := dAX3_readLine_1.2.2.1
theorem dX3_readLine_21 : decode cX3_readLine 21 = .ok (.getfield 107, 3) := dAX3_readLine_1.2.2.2.1
theorem dX3_readLine_24 : decode cX3_readLine 24 = .ok (.iconst 4, 1) := dAX3_readLine_1.2.2.2.2.1
theorem dX3_readLine_25 : decode cX3_readLine 25 = .ok (.if_icmp .eq 10, 3) := dAX3_readLine_1.2.2.2.2.2.1
theorem dX3_readLine_28 : decode cX3_readLine 28 = .ok (.aload_n 0, 1) := dAX3_readLine_1.2.2.2.2.2.2.1
theorem dX3_readLine_29 : decode cX3_readLine 29 = .ok (.bipush 6, 2) := dAX3_readLine_1.2.2.2.2.2.2.2
set_option maxRecDepth 100000 in
theorem dAX3_readLine_2 : decode cX3_readLine 31 = .ok (.invokevirtual 88, 3) ∧ decode cX3_readLine 34 = .ok (.ireturn, 1) ∧ decode cX3_readLine 35 = .ok (.aload_n 0, 1) ∧ decode cX3_readLine 36 = .ok (.getfield 107, 3) ∧ decode cX3_readLine 39 = .ok (.tableswitch 79 0 6 #[46, 51, 57, 63, 41, 69, 74], 41) ∧ decode cX3_readLine 80 = .ok (.aload_n 0, 1) ∧ decode cX3_readLine 81 = .ok (.invokevirtual 110, 3) ∧ decode cX3_readLine 84 = .ok (.ireturn, 1) := by decide +kernel
theorem dX3_readLine_31 : decode cX3_readLine 31 = .ok (.invokevirtual 88, 3) := dAX3_readLine_2.1
theorem dX3_readLine_34 : decode cX3_readLine 34 = .ok (.ireturn, 1) := dAX3_readLine_2.2.1
theorem dX3_readLine_35 : decode cX3_readLine 35 = .ok (.aload_n 0, 1) := dAX3_readLine_2.2.2.1
theorem dX3_readLine_36 : decode cX3_readLine 36 = .ok (.getfield 107, 3) := dAX3_readLine_2.2.2.2.1
theorem dX3_readLine_39 : decode cX3_readLine 39 = .ok (.tableswitch 79 0 6 #[46, 51, 57, 63, 41, 69, 74], 41) := dAX3_readLine_2.2.2.2.2.1
theorem dX3_readLine_80 : decode cX3_readLine 80 = .ok (.aload_n 0, 1) := dAX3_readLine_2.2.2.2.2.2.1
theorem dX3_readLine_81 : decode cX3_readLine 81 = .ok (.invokevirtual 110, 3) := dAX3_readLine_2.2.2.2.2.2.2.1
theorem dX3_readLine_84 : decode cX3_readLine 84 = .ok (.ireturn, 1) := dAX3_readLine_2.2.2.2.2.2.2.2
set_option maxRecDepth 100000 in
theorem dAX3_readLine_3 : decode cX3_readLine 85 = .ok (.aload_n 0, 1) ∧ decode cX3_readLine 86 = .ok (.invokevirtual 113, 3) ∧ decode cX3_readLine 89 = .ok (.ireturn, 1) ∧ decode cX3_readLine 90 = .ok (.aload_n 0, 1) ∧ decode cX3_readLine 91 = .ok (.iconst 1, 1) ∧ decode cX3_readLine 92 = .ok (.invokevirtual 116, 3) ∧ decode cX3_readLine 95 = .ok (.ireturn, 1) ∧ decode cX3_readLine 96 = .ok (.aload_n 0, 1) := by decide +kernel
theorem dX3_readLine_85 : decode cX3_readLine 85 = .ok (.aload_n 0, 1) := dAX3_readLine_3.1
theorem dX3_readLine_86 : decode cX3_readLine 86 = .ok (.invokevirtual 113, 3) := dAX3_readLine_3.2.1
theorem dX3_readLine_89 : decode cX3_readLine 89 = .ok (.ireturn, 1) := dAX3_readLine_3.2.2.1
theorem dX3_readLine_90 : decode cX3_readLine 90 = .ok (.aload_n 0, 1) := dAX3_readLine_3.2.2.2.1
theorem dX3_readLine_91 : decode cX3_readLine 91 = .ok (.iconst 1, 1) := dAX3_readLine_3.2.2.2.2.1
theorem dX3_readLine_92 : decode cX3_readLine 92 = .ok (.invokevirtual 116, 3) := dAX3_readLine_3.2.2.2.2.2.1
theorem dX3_readLine_95 : decode cX3_readLine 95 = .ok (.ireturn, 1) := dAX3_readLine_3.2.2.2.2.2.2.1
theorem dX3_readLine_96 : decode cX3_readLine 96 = .ok (.aload_n 0, 1) := dAX3_readLine_3.2.2.2.2.2.2.2
set_option maxRecDepth 100000 in
theorem dAX3_readLine_4 : decode cX3_readLine 97 = .ok (.iconst 2, 1) ∧ decode cX3_readLine 98 = .ok (.invokevirtual 116, 3) ∧ decode cX3_readLine 101 = .ok (.ireturn, 1) ∧ decode cX3_readLine 102 = .ok (.aload_n 0, 1) ∧ decode cX3_readLine 103 = .ok (.iconst 3, 1) ∧ decode cX3_readLine 104 = .ok (.invokevirtual 116, 3) ∧ decode cX3_readLine 107 = .ok (.ireturn, 1) ∧ decode cX3_readLine 108 = .ok (.aload_n 0, 1) := by decide +kernel
theorem dX3_readLine_97 : decode cX3_readLine 97 = .ok (.iconst 2, 1) := dAX3_readLine_4.1
theorem dX3_readLine_98 : decode cX3_readLine 98 = .ok (.invokevirtual 116, 3) := dAX3_readLine_4.2.1
theorem dX3_readLine_101 : decode cX3_readLine 101 = .ok (.ireturn, 1) := dAX3_readLine_4.2.2.1
theorem dX3_readLine_102 : decode cX3_readLine 102 = .ok (.aload_n 0, 1) := dAX3_readLine_4.2.2.2.1
theorem dX3_readLine_103 : decode cX3_readLine 103 = .ok (.iconst 3, 1) := dAX3_readLine_4.2.2.2.2.1
theorem dX3_readLine_104 : decode cX3_readLine 104 = .ok (.invokevirtual 116, 3) := dAX3_readLine_4.2.2.2.2.2.1
theorem dX3_readLine_107 : decode cX3_readLine 107 = .ok (.ireturn, 1) := dAX3_readLine_4.2.2.2.2.2.2.1
theorem dX3_readLine_108 : decode cX3_readLine 108 = .ok (.aload_n 0, 1) := dAX3_readLine_4.2.2.2.2.2.2.2
set_option maxRecDepth 100000 in
theorem dAX3_readLine_5 : decode cX3_readLine 109 = .ok (.invokevirtual 119, 3) ∧ decode cX3_readLine 112 = .ok (.ireturn, 1) ∧ decode cX3_readLine 113 = .ok (.aload_n 0, 1) ∧ decode cX3_readLine 114 = .ok (.invokevirtual 122, 3) ∧ decode cX3_readLine 117 = .ok (.ireturn, 1) ∧ decode cX3_readLine 118 = .ok (.aload_n 0, 1) ∧ decode cX3_readLine 119 = .ok (.invokevirtual 125, 3) ∧ decode cX3_readLine 122 = .ok (.ireturn, 1) := by decide +kernel
theorem dX3_readLine_109 : decode cX3_readLine 109 = .ok (.invokevirtual 119, 3) := dAX3_readLine_5.1
theorem dX3_readLine_112 : decode cX3_readLine 112 = .ok (.ireturn, 1) := dAX3_readLine_5.2.1
theorem dX3_readLine_113 : decode cX3_readLine 113 = .ok (.aload_n 0, 1) := dAX3_readLine_5.2.2.1
theorem dX3_readLine_114 : decode cX3_readLine 114 = .ok (.invokevirtual 122, 3) := dAX3_readLine_5.2.2.2.1
theorem dX3_readLine_117 : decode cX3_readLine 117 = .ok (.ireturn, 1) := dAX3_readLine_5.2.2.2.2.1
theorem dX3_readLine_118 : decode cX3_readLine 118 = .ok (.aload_n 0, 1) := dAX3_readLine_5.2.2.2.2.2.1
theorem dX3_readLine_119 : decode cX3_readLine 119 = .ok (.invokevirtual 125, 3) := dAX3_readLine_5.2.2.2.2.2.2.1
theorem dX3_readLine_122 : decode cX3_readLine 122 = .ok (.ireturn, 1) := dAX3_readLine_5.2.2.2.2.2.2.2
set_option maxRecDepth 100000 in
theorem dAX3_readPart_0 : decode cX3_readPart 0 = .ok (.aload_n 0, 1) ∧ decode cX3_readPart 1 = .ok (.invokevirtual 158, 3) ∧ decode cX3_readPart 4 = .ok (.ifCond .ne 5, 3) ∧ decode cX3_readPart 7 = .ok (.iconst 0, 1) ∧ decode cX3_readPart 8 = .ok (.ireturn, 1) ∧ decode cX3_readPart 9 = .ok (.aload_n 0, 1) ∧ decode cX3_readPart 10 = .ok (.invokevirtual 161, 3) ∧ decode cX3_readPart 13 = .ok (.istore_n 2, 1) := by decide +kernel
theorem dX3_readPart_0 : decode cX3_readPart 0 = .ok (.aload_n 0, 1) := dAX3_readPart_0.1
theorem dX3_readPart_1 : decode cX3_readPart 1 = .ok (.invokevirtual 158, 3) := dAX3_readPart_0.2.1
theorem dX3_readPart_4 : decode cX3_readPart 4 = .ok (.ifCond .ne 5, 3) := dAX3_readPart_0.2.2.1
theorem dX3_readPart_7 : decode cX3_readPart 7 = .ok (.iconst 0, 1) := dAX3_readPart_0.2.2.2.1
theorem dX3_readPart_8 : decode cX3_readPart 8 = .ok (.ireturn, 1) := dAX3_readPart_0.2.2.2.2.1
theorem dX3_readPart_9 : decode cX3_readPart 9 = .ok (.aload_n 0, 1) := dAX3_readPart_0.2.2.2.2.2.1
theorem dX3_readPart_10 : decode cX3_readPart 10 = .ok (.invokevirtual 161, 3) := dAX3_readPart_0.2.2.2.2.2.2.1
theorem dX3_readPart_13 : decode cX3_readPart 13 = .ok (.istore_n 2, 1) := dAX3_readPart_0.2.2.2.2.2.2.2
set_option maxRecDepth 100000 in
theorem dAX3_readPart_1 : decode cX3_readPart 14 = .ok (.aload_n 0, 1) ∧ decode cX3_readPart 15 = .ok (.getfield 18, 3) ∧ decode cX3_readPart 18 = .ok (.aload_n 0, 1) ∧ decode cX3_readPart 19 = .ok (.getfield 18, 3) ∧ decode cX3_readPart 22 = .ok (.getfield 98, 3) ∧ decode cX3_readPart 25 = .ok (.iload_n 2, 1) ∧ decode cX3_readPart 26 = .ok (.invokevirtual 165, 3) ∧ decode cX3_readPart 29 = .ok (.ifCond .lt 9, 3) := by decide +kernel
theorem dX3_readPart_14 : decode cX3_readPart 14 = .ok (.aload_n 0, 1) := dAX3_readPart_1.1
theorem dX3_readPart_15 : decode cX3_readPart 15 = .ok (.getfield 18, 3) := dAX3_readPart_1.2.1
theorem dX3_readPart_18 : decode cX3_readPart 18 = .ok (.aload_n 0, 1) := dAX3_readPart_1.2.2.1
theorem dX3_readPart_19 : decode cX3_readPart 19 = .ok (.getfield 18, 3) := dAX3_readPart_1.2.2.2.1
theorem dX3_readPart_22 : decode cX3_readPart 22 = .ok (.getfield 98, 3) := dAX3_readPart_1.2.2.2.2.1
theorem dX3_readPart_25 : decode cX3_readPart 25 = .ok (.iload_n 2, 1) := dAX3_readPart_1.2.2.2.2.2.1
theorem dX3_readPart_26 : decode cX3_readPart 26 = .ok (.invokevirtual 165, 3) := dAX3_readPart_1.2.2.2.2.2.2.1
theorem dX3_readPart_29 : decode cX3_readPart 29 = .ok (.ifCond .lt 9, 3) := dAX3_readPart_1.2.2.2.2.2.2.2
set_option maxRecDepth 100000 in
theorem dAX3_readPart_2 : decode cX3_readPart 32 = .ok (.aload_n 0, 1) ∧ decode cX3_readPart 33 = .ok (.iconst 3, 1) ∧ decode cX3_readPart 34 = .ok (.invokevirtual 88, 3) ∧ decode cX3_readPart 37 = .ok (.ireturn, 1) ∧ decode cX3_readPart 38 = .ok (.aload_n 0, 1) ∧ decode cX3_readPart 39 = .ok (.getfield 18, 3) ∧ decode cX3_readPart 42 = .ok (.invokevirtual 169, 3) ∧ decode cX3_readPart 45 = .ok (.ifCond .ne 9, 3) := by decide +kernel
theorem dX3_readPart_32 : decode cX3_readPart 32 = .ok (.aload_n 0, 1) := dAX3_readPart_2.1
theorem dX3_readPart_33 : decode cX3_readPart 33 = .ok (.iconst 3, 1) := dAX3_readPart_2.2.1
theorem dX3_readPart_34 : decode cX3_readPart 34 = .ok (.invokevirtual 88, 3) := dAX3_readPart_2.2.2.1
theorem dX3_readPart_37 : decode cX3_readPart 37 = .ok (.ireturn, 1) := dAX3_readPart_2.2.2.2.1
theorem dX3_readPart_38 : decode cX3_readPart 38 = .ok (.aload_n 0, 1) := dAX3_readPart_2.2.2.2.2.1
theorem dX3_readPart_39 : decode cX3_readPart 39 = .ok (.getfield 18, 3) := dAX3_readPart_2.2.2.2.2.2.1
theorem dX3_readPart_42 : decode cX3_readPart 42 = .ok (.invokevirtual 169, 3) := dAX3_readPart_2.2.2.2.2.2.2.1
theorem dX3_readPart_45 : decode cX3_readPart 45 = .ok (.ifCond .ne 9, 3) := dAX3_readPart_2.2.2.2.2.2.2.2
set_option maxRecDepth 100000 in
theorem dAX3_readPart_3 : decode cX3_readPart 48 = .ok (.aload_n 0, 1) ∧ decode cX3_readPart 49 = .ok (.iconst 5, 1) ∧ decode cX3_readPart 50 = .ok (.invokevirtual 88, 3) ∧ decode cX3_readPart 53 = .ok (.ireturn, 1) ∧ decode cX3_readPart 54 = .ok (.aload_n 0, 1) ∧ decode cX3_readPart 55 = .ok (.invokevirtual 75, 3) ∧ decode cX3_readPart 58 = .ok (.iconst 0, 1) ∧ decode cX3_readPart 59 = .ok (.istore_n 3, 1) := by decide +kernel
theorem dX3_readPart_48 : decode cX3_readPart 48 = .ok (.aload_n 0, 1) := dAX3_readPart_3.1
theorem dX3_readPart_49 : decode cX3_readPart 49 = .ok (.iconst 5, 1) := dAX3_readPart_3.2.1
theorem dX3_readPart_50 : decode cX3_readPart 50 = .ok (.invokevirtual 88, 3) := dAX3_readPart_3.2.2.1
theorem dX3_readPart_53 : decode cX3_readPart 53 = .ok (.ireturn, 1) := dAX3_readPart_3.2.2.2.1
theorem dX3_readPart_54 : decode cX3_readPart 54 = .ok (.aload_n 0, 1) := dAX3_readPart_3.2.2.2.2.1
theorem dX3_readPart_55 : decode cX3_readPart 55 = .ok (.invokevirtual 75, 3) := dAX3_readPart_3.2.2.2.2.2.1
theorem dX3_readPart_58 : decode cX3_readPart 58 = .ok (.iconst 0, 1) := dAX3_readPart_3.2.2.2.2.2.2.1
theorem dX3_readPart_59 : decode cX3_readPart 59 = .ok (.istore_n 3, 1) := dAX3_readPart_3.2.2.2.2.2.2.2
set_option maxRecDepth 100000 in
theorem dAX3_readPart_4 : decode cX3_readPart 60 = .ok (.iload_n 1, 1) ∧ decode cX3_readPart 61 = .ok (.iconst 3, 1) ∧ decode cX3_readPart 62 = .ok (.if_icmp .ne 24, 3) ∧ decode cX3_readPart 65 = .ok (.aload_n 0, 1) ∧ decode cX3_readPart 66 = .ok (.iconst 1, 1) ∧ decode cX3_readPart 67 = .ok (.bipush 9, 2) ∧ decode cX3_readPart 69 = .ok (.invokevirtual 128, 3) ∧ decode cX3_readPart 72 = .ok (.ifCond .ne 5, 3) := by decide +kernel
theorem dX3_readPart_60 : decode cX3_readPart 60 = .ok (.iload_n 1, 1) := dAX3_readPart_4.1
theorem dX3_readPart_61 : decode cX3_readPart 61 = .ok (.iconst 3, 1) := dAX3_readPart_4.2.1
theorem dX3_readPart_62 : decode cX3_readPart 62 = .ok (.if_icmp .ne 24, 3) := dAX3_readPart_4.2.2.1
theorem dX3_readPart_65 : decode cX3_readPart 65 = .ok (.aload_n 0, 1) := dAX3_readPart_4.2.2.2.1
theorem dX3_readPart_66 : decode cX3_readPart 66 = .ok (.iconst 1, 1) := dAX3_readPart_4.2.2.2.2.1
theorem dX3_readPart_67 : decode cX3_readPart 67 = .ok (.bipush 9, 2) := dAX3_readPart_4.2.2.2.2.2.1
theorem dX3_readPart_69 : decode cX3_readPart 69 = .ok (.invokevirtual 128, 3) := dAX3_readPart_4.2.2.2.2.2.2.1
theorem dX3_readPart_72 : decode cX3_readPart 72 = .ok (.ifCond .ne 5, 3) := dAX3_readPart_4.2.2.2.2.2.2.2
set_option maxRecDepth 100000 in
theorem dAX3_readPart_5 : decode cX3_readPart 75 = .ok (.iconst 0, 1) ∧ decode cX3_readPart 76 = .ok (.ireturn, 1) ∧ decode cX3_readPart 77 = .ok (.aload_n 0, 1) ∧ decode cX3_readPart 78 = .ok (.getfield 132, 3) ∧ decode cX3_readPart 81 = .ok (.istore_n 3, 1) ∧ decode cX3_readPart 82 = .ok (.aload_n 0, 1) ∧ decode cX3_readPart 83 = .ok (.invokevirtual 75, 3) ∧ decode cX3_readPart 86 = .ok (.aload_n 0, 1) := by decide +kernel
theorem dX3_readPart_75 : decode cX3_readPart 75 = .ok (.iconst 0, 1) := dAX3_readPart_5.1
theorem dX3_readPart_76 : decode cX3_readPart 76 = .ok (.ireturn, 1) := dAX3_readPart_5.2.1
theorem dX3_readPart_77 : decode cX3_readPart 77 = .ok (.aload_n 0, 1) := dAX3_readPart_5.2.2.1
theorem dX3_readPart_78 : decode cX3_readPart 78 = .ok (.getfield 132, 3) := dAX3_readPart_5.2.2.2.1
theorem dX3_readPart_81 : decode cX3_readPart 81 = .ok (.istore_n 3, 1) := dAX3_readPart_5.2.2.2.2.1
theorem dX3_readPart_82 : decode cX3_readPart 82 = .ok (.aload_n 0, 1) := dAX3_readPart_5.2.2.2.2.2.1
theorem dX3_readPart_83 : decode cX3_readPart 83 = .ok (.invokevirtual 75, 3) := dAX3_readPart_5.2.2.2.2.2.2.1
theorem dX3_readPart_86 : decode cX3_readPart 86 = .ok (.aload_n 0, 1) := dAX3_readPart_5.2.2.2.2.2.2.2
set_option maxRecDepth 100000 in
theorem dAX3_readPart_6 : decode cX3_readPart 87 = .ok (.getfield 18, 3) ∧ decode cX3_readPart 90 = .ok (.iload_n 2, 1) ∧ decode cX3_readPart 91 = .ok (.iload_n 3, 1) ∧ decode cX3_readPart 92 = .ok (.invokevirtual 172, 3) ∧ decode cX3_readPart 95 = .ok (.iconst 1, 1) ∧ decode cX3_readPart 96 = .ok (.ireturn, 1) := by decide +kernel
theorem dX3_readPart_87 : decode cX3_readPart 87 = .ok (.getfield 18, 3) := dAX3_readPart_6.1
theorem dX3_readPart_90 : decode cX3_readPart 90 = .ok (.iload_n 2, 1) := dAX3_readPart_6.2.1
theorem dX3_readPart_91 : decode cX3_readPart 91 = .ok (.iload_n 3, 1) := dAX3_readPart_6.2.2.1
theorem dX3_readPart_92 : decode cX3_readPart 92 = .ok (.invokevirtual 172, 3) := dAX3_readPart_6.2.2.2.1
theorem dX3_readPart_95 : decode cX3_readPart 95 = .ok (.iconst 1, 1) := dAX3_readPart_6.2.2.2.2.1
theorem dX3_readPart_96 : decode cX3_readPart 96 = .ok (.ireturn, 1) := dAX3_readPart_6.2.2.2.2.2
set_option maxRecDepth 100000 in
theorem dAX3_readRuler_0 : decode cX3_readRuler 0 = .ok (.aload_n 0, 1) ∧ decode cX3_readRuler 1 = .ok (.getfield 18, 3) ∧ decode cX3_readRuler 4 = .ok (.iload_n 1, 1) ∧ decode cX3_readRuler 5 = .ok (.invokevirtual 137, 3) ∧ decode cX3_readRuler 8 = .ok (.ifCond .ne 9, 3) ∧ decode cX3_readRuler 11 = .ok (.aload_n 0, 1) ∧ decode cX3_readRuler 12 = .ok (.iconst 5, 1) ∧ decode cX3_readRuler 13 = .ok (.invokevirtual 88, 3) := by decide +kernel
theorem dX3_readRuler_0 : decode cX3_readRuler 0 = .ok (.aload_n 0, 1) := dAX3_readRuler_0.1
theorem dX3_readRuler_1 : decode cX3_readRuler 1 = .ok (.getfield 18, 3) := dAX3_readRuler_0.2.1
theorem dX3_readRuler_4 : decode cX3_readRuler 4 = .ok (.iload_n 1, 1) := dAX3_readRuler_0.2.2.1
theorem dX3_readRuler_5 : decode cX3_readRuler 5 = .ok (.invokevirtual 137, 3) := dAX3_readRuler_0.2.2.2.1
theorem dX3_readRuler_8 : decode cX3_readRuler 8 = .ok (.ifCond .ne 9, 3) := dAX3_readRuler_0.2.2.2.2.1
theorem dX3_readRuler_11 : decode cX3_readRuler 11 = .ok (.aload_n 0, 1) := dAX3_readRuler_0.2.2.2.2.2.1
theorem dX3_readRuler_12 : decode cX3_readRuler 12 = .ok (.iconst 5, 1) := dAX3_readRuler_0.2.2.2.2.2.2.1
theorem dX3_readRuler_13 : decode cX3_readRuler 13 = .ok (.invokevirtual 88, 3) := dAX3_readRuler_0.2.2.2.2.2.2.2
set_option maxRecDepth 100000 in
theorem dAX3_readRuler_1 : decode cX3_readRuler 16 = .ok (.ireturn, 1) ∧ decode cX3_readRuler 17 = .ok (.aload_n 0, 1) ∧ decode cX3_readRuler 18 = .ok (.getfield 18, 3) ∧ decode cX3_readRuler 21 = .ok (.iload_n 1, 1) ∧ decode cX3_readRuler 22 = .ok (.invokevirtual 140, 3) ∧ decode cX3_readRuler 25 = .ok (.aload_n 0, 1) ∧ decode cX3_readRuler 26 = .ok (.invokevirtual 75, 3) ∧ decode cX3_readRuler 29 = .ok (.aload_n 0, 1) := by decide +kernel
theorem dX3_readRuler_16 : decode cX3_readRuler 16 = .ok (.ireturn, 1) := dAX3_readRuler_1.1
theorem dX3_readRuler_17 : decode cX3_readRuler 17 = .ok (.aload_n 0, 1) := dAX3_readRuler_1.2.1
theorem dX3_readRuler_18 : decode cX3_readRuler 18 = .ok (.getfield 18, 3) := dAX3_readRuler_1.2.2.1
theorem dX3_readRuler_21 : decode cX3_readRuler 21 = .ok (.iload_n 1, 1) := dAX3_readRuler_1.2.2.2.1
theorem dX3_readRuler_22 : decode cX3_readRuler 22 = .ok (.invokevirtual 140, 3) := dAX3_readRuler_1.2.2.2.2.1
theorem dX3_readRuler_25 : decode cX3_readRuler 25 = .ok (.aload_n 0, 1) := dAX3_readRuler_1.2.2.2.2.2.1
theorem dX3_readRuler_26 : decode cX3_readRuler 26 = .ok (.invokevirtual 75, 3) := dAX3_readRuler_1.2.2.2.2.2.2.1
theorem dX3_readRuler_29 : decode cX3_readRuler 29 = .ok (.aload_n 0, 1) := dAX3_readRuler_1.2.2.2.2.2.2.2
set_option maxRecDepth 100000 in
theorem dAX3_readRuler_2 : decode cX3_readRuler 30 = .ok (.invokevirtual 144, 3) ∧ decode cX3_readRuler 33 = .ok (.ifCond .ne 5, 3) ∧ decode cX3_readRuler 36 = .ok (.iconst 0, 1) ∧ decode cX3_readRuler 37 = .ok (.ireturn, 1) ∧ decode cX3_readRuler 38 = .ok (.aload_n 0, 1) ∧ decode cX3_readRuler 39 = .ok (.getfield 147, 3) ∧ decode cX3_readRuler 42 = .ok (.lstore_n 2, 1) ∧ decode cX3_readRuler 43 = .ok (.aload_n 0, 1) := by decide +kernel
theorem dX3_readRuler_30 : decode cX3_readRuler 30 = .ok (.invokevirtual 144, 3) := dAX3_readRuler_2.1
theorem dX3_readRuler_33 : decode cX3_readRuler 33 = .ok (.ifCond .ne 5, 3) := dAX3_readRuler_2.2.1
theorem dX3_readRuler_36 : decode cX3_readRuler 36 = .ok (.iconst 0, 1) := dAX3_readRuler_2.2.2.1
theorem dX3_readRuler_37 : decode cX3_readRuler 37 = .ok (.ireturn, 1) := dAX3_readRuler_2.2.2.2.1
theorem dX3_readRuler_38 : decode cX3_readRuler 38 = .ok (.aload_n 0, 1) := dAX3_readRuler_2.2.2.2.2.1
theorem dX3_readRuler_39 : decode cX3_readRuler 39 = .ok (.getfield 147, 3) := dAX3_readRuler_2.2.2.2.2.2.1
theorem dX3_readRuler_42 : decode cX3_readRuler 42 = .ok (.lstore_n 2, 1) := dAX3_readRuler_2.2.2.2.2.2.2.1
theorem dX3_readRuler_43 : decode cX3_readRuler 43 = .ok (.aload_n 0, 1) := dAX3_readRuler_2.2.2.2.2.2.2.2
set_option maxRecDepth 100000 in
theorem dAX3_readRuler_3 : decode cX3_readRuler 44 = .ok (.invokevirtual 75, 3) ∧ decode cX3_readRuler 47 = .ok (.aload_n 0, 1) ∧ decode cX3_readRuler 48 = .ok (.iload_n 1, 1) ∧ decode cX3_readRuler 49 = .ok (.invokevirtual 155, 3) ∧ decode cX3_readRuler 52 = .ok (.istore 4, 2) ∧ decode cX3_readRuler 54 = .ok (.iconst 0, 1) ∧ decode cX3_readRuler 55 = .ok (.istore 5, 2) ∧ decode cX3_readRuler 57 = .ok (.iload 5, 2) := by decide +kernel
theorem dX3_readRuler_44 : decode cX3_readRuler 44 = .ok (.invokevirtual 75, 3) := dAX3_readRuler_3.1
theorem dX3_readRuler_47 : decode cX3_readRuler 47 = .ok (.aload_n 0, 1) := dAX3_readRuler_3.2.1
theorem dX3_readRuler_48 : decode cX3_readRuler 48 = .ok (.iload_n 1, 1) := dAX3_readRuler_3.2.2.1
theorem dX3_readRuler_49 : decode cX3_readRuler 49 = .ok (.invokevirtual 155, 3) := dAX3_readRuler_3.2.2.2.1
theorem dX3_readRuler_52 : decode cX3_readRuler 52 = .ok (.istore 4, 2) := dAX3_readRuler_3.2.2.2.2.1
theorem dX3_readRuler_54 : decode cX3_readRuler 54 = .ok (.iconst 0, 1) := dAX3_readRuler_3.2.2.2.2.2.1
theorem dX3_readRuler_55 : decode cX3_readRuler 55 = .ok (.istore 5, 2) := dAX3_readRuler_3.2.2.2.2.2.2.1
theorem dX3_readRuler_57 : decode cX3_readRuler 57 = .ok (.iload 5, 2) := dAX3_readRuler_3.2.2.2.2.2.2.2
set_option maxRecDepth 100000 in
theorem dAX3_readRuler_4 : decode cX3_readRuler 59 = .ok (.iconst 4, 1) ∧ decode cX3_readRuler 60 = .ok (.if_icmp .gt 33, 3) ∧ decode cX3_readRuler 63 = .ok (.iload 4, 2) ∧ decode cX3_readRuler 65 = .ok (.ifCond .eq 28, 3) ∧ decode cX3_readRuler 68 = .ok (.aload_n 0, 1) ∧ decode cX3_readRuler 69 = .ok (.getfield 82, 3) ∧ decode cX3_readRuler 72 = .ok (.iconst 4, 1) ∧ decode cX3_readRuler 73 = .ok (.if_icmp .ne 20, 3) := by decide +kernel
theorem dX3_readRuler_59 : decode cX3_readRuler 59 = .ok (.iconst 4, 1) := dAX3_readRuler_4.1
theorem dX3_readRuler_60 : decode cX3_readRuler 60 = .ok (.if_icmp .gt 33, 3) := dAX3_readRuler_4.2.1
theorem dX3_readRuler_63 : decode cX3_readRuler 63 = .ok (.iload 4, 2) := dAX3_readRuler_4.2.2.1
theorem dX3_readRuler_65 : decode cX3_readRuler 65 = .ok (.ifCond .eq 28, 3) := dAX3_readRuler_4.2.2.2.1
theorem dX3_readRuler_68 : decode cX3_readRuler 68 = .ok (.aload_n 0, 1) := dAX3_readRuler_4.2.2.2.2.1
theorem dX3_readRuler_69 : decode cX3_readRuler 69 = .ok (.getfield 82, 3) := dAX3_readRuler_4.2.2.2.2.2.1
theorem dX3_readRuler_72 : decode cX3_readRuler 72 = .ok (.iconst 4, 1) := dAX3_readRuler_4.2.2.2.2.2.2.1
theorem dX3_readRuler_73 : decode cX3_readRuler 73 = .ok (.if_icmp .ne 20, 3) := dAX3_readRuler_4.2.2.2.2.2.2.2
set_option maxRecDepth 100000 in
theorem dAX3_readRuler_5 : decode cX3_readRuler 76 = .ok (.aload_n 0, 1) ∧ decode cX3_readRuler 77 = .ok (.invokevirtual 75, 3) ∧ decode cX3_readRuler 80 = .ok (.aload_n 0, 1) ∧ decode cX3_readRuler 81 = .ok (.iload_n 1, 1) ∧ decode cX3_readRuler 82 = .ok (.invokevirtual 155, 3) ∧ decode cX3_readRuler 85 = .ok (.istore 4, 2) ∧ decode cX3_readRuler 87 = .ok (.iinc 5 1, 3) ∧ decode cX3_readRuler 90 = .ok (.goto (-33), 3) := by decide +kernel
theorem dX3_readRuler_76 : decode cX3_readRuler 76 = .ok (.aload_n 0, 1) := dAX3_readRuler_5.1
theorem dX3_readRuler_77 : decode cX3_readRuler 77 = .ok (.invokevirtual 75, 3) := dAX3_readRuler_5.2.1
theorem dX3_readRuler_80 : decode cX3_readRuler 80 = .ok (.aload_n 0, 1) := dAX3_readRuler_5.2.2.1
theorem dX3_readRuler_81 : decode cX3_readRuler 81 = .ok (.iload_n 1, 1) := dAX3_readRuler_5.2.2.2.1
theorem dX3_readRuler_82 : decode cX3_readRuler 82 = .ok (.invokevirtual 155, 3) := dAX3_readRuler_5.2.2.2.2.1
theorem dX3_readRuler_85 : decode cX3_readRuler 85 = .ok (.istore 4, 2) := dAX3_readRuler_5.2.2.2.2.2.1
theorem dX3_readRuler_87 : decode cX3_readRuler 87 = .ok (.iinc 5 1, 3) := dAX3_readRuler_5.2.2.2.2.2.2.1
theorem dX3_readRuler_90 : decode cX3_readRuler 90 = .ok (.goto (-33), 3) := dAX3_readRuler_5.2.2.2.2.2.2.2
set_option maxRecDepth 100000 in
theorem dAX3_readRuler_6 : decode cX3_readRuler 93 = .ok (.iload 4, 2) ∧ decode cX3_readRuler 95 = .ok (.ifCond .eq 9, 3) ∧ decode cX3_readRuler 98 = .ok (.aload_n 0, 1) ∧ decode cX3_readRuler 99 = .ok (.lload_n 2, 1) ∧ decode cX3_readRuler 100 = .ok (.iconst 0, 1) ∧ decode cX3_readRuler 101 = .ok (.invokevirtual 151, 3) ∧ decode cX3_readRuler 104 = .ok (.iload 4, 2) ∧ decode cX3_readRuler 106 = .ok (.ireturn, 1) := by decide +kernel
theorem dX3_readRuler_93 : decode cX3_readRuler 93 = .ok (.iload 4, 2) := dAX3_readRuler_6.1
theorem dX3_readRuler_95 : decode cX3_readRuler 95 = .ok (.ifCond .eq 9, 3) := dAX3_readRuler_6.2.1
theorem dX3_readRuler_98 : decode cX3_readRuler 98 = .ok (.aload_n 0, 1) := dAX3_readRuler_6.2.2.1
theorem dX3_readRuler_99 : decode cX3_readRuler 99 = .ok (.lload_n 2, 1) := dAX3_readRuler_6.2.2.2.1
theorem dX3_readRuler_100 : decode cX3_readRuler 100 = .ok (.iconst 0, 1) := dAX3_readRuler_6.2.2.2.2.1
theorem dX3_readRuler_101 : decode cX3_readRuler 101 = .ok (.invokevirtual 151, 3) := dAX3_readRuler_6.2.2.2.2.2.1
theorem dX3_readRuler_104 : decode cX3_readRuler 104 = .ok (.iload 4, 2) := dAX3_readRuler_6.2.2.2.2.2.2.1
theorem dX3_readRuler_106 : decode cX3_readRuler 106 = .ok (.ireturn, 1) := dAX3_readRuler_6.2.2.2.2.2.2.2
set_option maxRecDepth 100000 in
theorem dAX3_readSaid_0 : decode cX3_readSaid 0 = .ok (.aload_n 0, 1) ∧ decode cX3_readSaid 1 = .ok (.getfield 18, 3) ∧ decode cX3_readSaid 4 = .ok (.getfield 188, 3) ∧ decode cX3_readSaid 7 = .ok (.ifCond .lt 9, 3) ∧ decode cX3_readSaid 10 = .ok (.aload_n 0, 1) ∧ decode cX3_readSaid 11 = .ok (.iconst 3, 1) ∧ decode cX3_readSaid 12 = .ok (.invokevirtual 88, 3) ∧ decode cX3_readSaid 15 = .ok (.ireturn, 1) := by decide +kernel
theorem dX3_readSaid_0 : decode cX3_readSaid 0 = .ok (.aload_n 0, 1) := dAX3_readSaid_0.1
theorem dX3_readSaid_1 : decode cX3_readSaid 1 = .ok (.getfield 18, 3) := dAX3_readSaid_0.2.1
theorem dX3_readSaid_4 : decode cX3_readSaid 4 = .ok (.getfield 188, 3) := dAX3_readSaid_0.2.2.1
theorem dX3_readSaid_7 : decode cX3_readSaid 7 = .ok (.ifCond .lt 9, 3) := dAX3_readSaid_0.2.2.2.1
theorem dX3_readSaid_10 : decode cX3_readSaid 10 = .ok (.aload_n 0, 1) := dAX3_readSaid_0.2.2.2.2.1
theorem dX3_readSaid_11 : decode cX3_readSaid 11 = .ok (.iconst 3, 1) := dAX3_readSaid_0.2.2.2.2.2.1
theorem dX3_readSaid_12 : decode cX3_readSaid 12 = .ok (.invokevirtual 88, 3) := dAX3_readSaid_0.2.2.2.2.2.2.1
theorem dX3_readSaid_15 : decode cX3_readSaid 15 = .ok (.ireturn, 1) := dAX3_readSaid_0.2.2.2.2.2.2.2
set_option maxRecDepth 100000 in
theorem dAX3_readSaid_1 : decode cX3_readSaid 16 = .ok (.aload_n 0, 1) ∧ decode cX3_readSaid 17 = .ok (.invokevirtual 75, 3) ∧ decode cX3_readSaid 20 = .ok (.aload_n 0, 1) ∧ decode cX3_readSaid 21 = .ok (.iconst 0, 1) ∧ decode cX3_readSaid 22 = .ok (.bipush 99, 2) ∧ decode cX3_readSaid 24 = .ok (.invokevirtual 128, 3) ∧ decode cX3_readSaid 27 = .ok (.ifCond .ne 5, 3) ∧ decode cX3_readSaid 30 = .ok (.iconst 0, 1) := by decide +kernel
theorem dX3_readSaid_16 : decode cX3_readSaid 16 = .ok (.aload_n 0, 1) := dAX3_readSaid_1.1
theorem dX3_readSaid_17 : decode cX3_readSaid 17 = .ok (.invokevirtual 75, 3) := dAX3_readSaid_1.2.1
theorem dX3_readSaid_20 : decode cX3_readSaid 20 = .ok (.aload_n 0, 1) := dAX3_readSaid_1.2.2.1
theorem dX3_readSaid_21 : decode cX3_readSaid 21 = .ok (.iconst 0, 1) := dAX3_readSaid_1.2.2.2.1
theorem dX3_readSaid_22 : decode cX3_readSaid 22 = .ok (.bipush 99, 2) := dAX3_readSaid_1.2.2.2.2.1
theorem dX3_readSaid_24 : decode cX3_readSaid 24 = .ok (.invokevirtual 128, 3) := dAX3_readSaid_1.2.2.2.2.2.1
theorem dX3_readSaid_27 : decode cX3_readSaid 27 = .ok (.ifCond .ne 5, 3) := dAX3_readSaid_1.2.2.2.2.2.2.1
theorem dX3_readSaid_30 : decode cX3_readSaid 30 = .ok (.iconst 0, 1) := dAX3_readSaid_1.2.2.2.2.2.2.2
set_option maxRecDepth 100000 in
theorem dAX3_readSaid_2 : decode cX3_readSaid 31 = .ok (.ireturn, 1) ∧ decode cX3_readSaid 32 = .ok (.aload_n 0, 1) ∧ decode cX3_readSaid 33 = .ok (.getfield 18, 3) ∧ decode cX3_readSaid 36 = .ok (.aload_n 0, 1) ∧ decode cX3_readSaid 37 = .ok (.getfield 132, 3) ∧ decode cX3_readSaid 40 = .ok (.putfield 188, 3) ∧ decode cX3_readSaid 43 = .ok (.aload_n 0, 1) ∧ decode cX3_readSaid 44 = .ok (.invokevirtual 75, 3) := by decide +kernel
theorem dX3_readSaid_31 : decode cX3_readSaid 31 = .ok (.ireturn, 1) := dAX3_readSaid_2.1
theorem dX3_readSaid_32 : decode cX3_readSaid 32 = .ok (.aload_n 0, 1) := dAX3_readSaid_2.2.1
theorem dX3_readSaid_33 : decode cX3_readSaid 33 = .ok (.getfield 18, 3) := dAX3_readSaid_2.2.2.1
theorem dX3_readSaid_36 : decode cX3_readSaid 36 = .ok (.aload_n 0, 1) := dAX3_readSaid_2.2.2.2.1
theorem dX3_readSaid_37 : decode cX3_readSaid 37 = .ok (.getfield 132, 3) := dAX3_readSaid_2.2.2.2.2.1
theorem dX3_readSaid_40 : decode cX3_readSaid 40 = .ok (.putfield 188, 3) := dAX3_readSaid_2.2.2.2.2.2.1
theorem dX3_readSaid_43 : decode cX3_readSaid 43 = .ok (.aload_n 0, 1) := dAX3_readSaid_2.2.2.2.2.2.2.1
theorem dX3_readSaid_44 : decode cX3_readSaid 44 = .ok (.invokevirtual 75, 3) := dAX3_readSaid_2.2.2.2.2.2.2.2
set_option maxRecDepth 100000 in
theorem dAX3_readSaid_3 : decode cX3_readSaid 47 = .ok (.iconst 1, 1) ∧ decode cX3_readSaid 48 = .ok (.ireturn, 1) := by decide +kernel
theorem dX3_readSaid_47 : decode cX3_readSaid 47 = .ok (.iconst 1, 1) := dAX3_readSaid_3.1
theorem dX3_readSaid_48 : decode cX3_readSaid 48 = .ok (.ireturn, 1) := dAX3_readSaid_3.2
set_option maxRecDepth 100000 in
theorem dAX3_readThrone_0 : decode cX3_readThrone 0 = .ok (.aload_n 0, 1) ∧ decode cX3_readThrone 1 = .ok (.getfield 18, 3) ∧ decode cX3_readThrone 4 = .ok (.getfield 95, 3) ∧ decode cX3_readThrone 7 = .ok (.ifCond .lt 9, 3) ∧ decode cX3_readThrone 10 = .ok (.aload_n 0, 1) ∧ decode cX3_readThrone 11 = .ok (.iconst 3, 1) ∧ decode cX3_readThrone 12 = .ok (.invokevirtual 88, 3) ∧ decode cX3_readThrone 15 = .ok (.ireturn, 1) := by decide +kernel
theorem dX3_readThrone_0 : decode cX3_readThrone 0 = .ok (.aload_n 0, 1) := dAX3_readThrone_0.1
theorem dX3_readThrone_1 : decode cX3_readThrone 1 = .ok (.getfield 18, 3) := dAX3_readThrone_0.2.1
theorem dX3_readThrone_4 : decode cX3_readThrone 4 = .ok (.getfield 95, 3) := dAX3_readThrone_0.2.2.1
theorem dX3_readThrone_7 : decode cX3_readThrone 7 = .ok (.ifCond .lt 9, 3) := dAX3_readThrone_0.2.2.2.1
theorem dX3_readThrone_10 : decode cX3_readThrone 10 = .ok (.aload_n 0, 1) := dAX3_readThrone_0.2.2.2.2.1
theorem dX3_readThrone_11 : decode cX3_readThrone 11 = .ok (.iconst 3, 1) := dAX3_readThrone_0.2.2.2.2.2.1
theorem dX3_readThrone_12 : decode cX3_readThrone 12 = .ok (.invokevirtual 88, 3) := dAX3_readThrone_0.2.2.2.2.2.2.1
theorem dX3_readThrone_15 : decode cX3_readThrone 15 = .ok (.ireturn, 1) := dAX3_readThrone_0.2.2.2.2.2.2.2
set_option maxRecDepth 100000 in
theorem dAX3_readThrone_1 : decode cX3_readThrone 16 = .ok (.aload_n 0, 1) ∧ decode cX3_readThrone 17 = .ok (.invokevirtual 75, 3) ∧ decode cX3_readThrone 20 = .ok (.aload_n 0, 1) ∧ decode cX3_readThrone 21 = .ok (.invokevirtual 158, 3) ∧ decode cX3_readThrone 24 = .ok (.ifCond .ne 5, 3) ∧ decode cX3_readThrone 27 = .ok (.iconst 0, 1) ∧ decode cX3_readThrone 28 = .ok (.ireturn, 1) ∧ decode cX3_readThrone 29 = .ok (.aload_n 0, 1) := by decide +kernel
theorem dX3_readThrone_16 : decode cX3_readThrone 16 = .ok (.aload_n 0, 1) := dAX3_readThrone_1.1
theorem dX3_readThrone_17 : decode cX3_readThrone 17 = .ok (.invokevirtual 75, 3) := dAX3_readThrone_1.2.1
theorem dX3_readThrone_20 : decode cX3_readThrone 20 = .ok (.aload_n 0, 1) := dAX3_readThrone_1.2.2.1
theorem dX3_readThrone_21 : decode cX3_readThrone 21 = .ok (.invokevirtual 158, 3) := dAX3_readThrone_1.2.2.2.1
theorem dX3_readThrone_24 : decode cX3_readThrone 24 = .ok (.ifCond .ne 5, 3) := dAX3_readThrone_1.2.2.2.2.1
theorem dX3_readThrone_27 : decode cX3_readThrone 27 = .ok (.iconst 0, 1) := dAX3_readThrone_1.2.2.2.2.2.1
theorem dX3_readThrone_28 : decode cX3_readThrone 28 = .ok (.ireturn, 1) := dAX3_readThrone_1.2.2.2.2.2.2.1
theorem dX3_readThrone_29 : decode cX3_readThrone 29 = .ok (.aload_n 0, 1) := dAX3_readThrone_1.2.2.2.2.2.2.2
set_option maxRecDepth 100000 in
theorem dAX3_readThrone_2 : decode cX3_readThrone 30 = .ok (.getfield 18, 3) ∧ decode cX3_readThrone 33 = .ok (.aload_n 0, 1) ∧ decode cX3_readThrone 34 = .ok (.invokevirtual 161, 3) ∧ decode cX3_readThrone 37 = .ok (.putfield 95, 3) ∧ decode cX3_readThrone 40 = .ok (.aload_n 0, 1) ∧ decode cX3_readThrone 41 = .ok (.invokevirtual 75, 3) ∧ decode cX3_readThrone 44 = .ok (.iconst 1, 1) ∧ decode cX3_readThrone 45 = .ok (.ireturn, 1) := by decide +kernel
theorem dX3_readThrone_30 : decode cX3_readThrone 30 = .ok (.getfield 18, 3) := dAX3_readThrone_2.1
theorem dX3_readThrone_33 : decode cX3_readThrone 33 = .ok (.aload_n 0, 1) := dAX3_readThrone_2.2.1
theorem dX3_readThrone_34 : decode cX3_readThrone 34 = .ok (.invokevirtual 161, 3) := dAX3_readThrone_2.2.2.1
theorem dX3_readThrone_37 : decode cX3_readThrone 37 = .ok (.putfield 95, 3) := dAX3_readThrone_2.2.2.2.1
theorem dX3_readThrone_40 : decode cX3_readThrone 40 = .ok (.aload_n 0, 1) := dAX3_readThrone_2.2.2.2.2.1
theorem dX3_readThrone_41 : decode cX3_readThrone 41 = .ok (.invokevirtual 75, 3) := dAX3_readThrone_2.2.2.2.2.2.1
theorem dX3_readThrone_44 : decode cX3_readThrone 44 = .ok (.iconst 1, 1) := dAX3_readThrone_2.2.2.2.2.2.2.1
theorem dX3_readThrone_45 : decode cX3_readThrone 45 = .ok (.ireturn, 1) := dAX3_readThrone_2.2.2.2.2.2.2.2
set_option maxRecDepth 100000 in
theorem dAX3_readUnsure_0 : decode cX3_readUnsure 0 = .ok (.aload_n 0, 1) ∧ decode cX3_readUnsure 1 = .ok (.getfield 18, 3) ∧ decode cX3_readUnsure 4 = .ok (.getfield 176, 3) ∧ decode cX3_readUnsure 7 = .ok (.iconst 4, 1) ∧ decode cX3_readUnsure 8 = .ok (.if_icmp .lt 9, 3) ∧ decode cX3_readUnsure 11 = .ok (.aload_n 0, 1) ∧ decode cX3_readUnsure 12 = .ok (.iconst 5, 1) ∧ decode cX3_readUnsure 13 = .ok (.invokevirtual 88, 3) := by decide +kernel
theorem dX3_readUnsure_0 : decode cX3_readUnsure 0 = .ok (.aload_n 0, 1) := dAX3_readUnsure_0.1
theorem dX3_readUnsure_1 : decode cX3_readUnsure 1 = .ok (.getfield 18, 3) := dAX3_readUnsure_0.2.1
theorem dX3_readUnsure_4 : decode cX3_readUnsure 4 = .ok (.getfield 176, 3) := dAX3_readUnsure_0.2.2.1
theorem dX3_readUnsure_7 : decode cX3_readUnsure 7 = .ok (.iconst 4, 1) := dAX3_readUnsure_0.2.2.2.1
theorem dX3_readUnsure_8 : decode cX3_readUnsure 8 = .ok (.if_icmp .lt 9, 3) := dAX3_readUnsure_0.2.2.2.2.1
theorem dX3_readUnsure_11 : decode cX3_readUnsure 11 = .ok (.aload_n 0, 1) := dAX3_readUnsure_0.2.2.2.2.2.1
theorem dX3_readUnsure_12 : decode cX3_readUnsure 12 = .ok (.iconst 5, 1) := dAX3_readUnsure_0.2.2.2.2.2.2.1
theorem dX3_readUnsure_13 : decode cX3_readUnsure 13 = .ok (.invokevirtual 88, 3) := dAX3_readUnsure_0.2.2.2.2.2.2.2
set_option maxRecDepth 100000 in
theorem dAX3_readUnsure_1 : decode cX3_readUnsure 16 = .ok (.ireturn, 1) ∧ decode cX3_readUnsure 17 = .ok (.aload_n 0, 1) ∧ decode cX3_readUnsure 18 = .ok (.invokevirtual 75, 3) ∧ decode cX3_readUnsure 21 = .ok (.aload_n 0, 1) ∧ decode cX3_readUnsure 22 = .ok (.invokevirtual 158, 3) ∧ decode cX3_readUnsure 25 = .ok (.ifCond .ne 5, 3) ∧ decode cX3_readUnsure 28 = .ok (.iconst 0, 1) ∧ decode cX3_readUnsure 29 = .ok (.ireturn, 1) := by decide +kernel
theorem dX3_readUnsure_16 : decode cX3_readUnsure 16 = .ok (.ireturn, 1) := dAX3_readUnsure_1.1
theorem dX3_readUnsure_17 : decode cX3_readUnsure 17 = .ok (.aload_n 0, 1) := dAX3_readUnsure_1.2.1
theorem dX3_readUnsure_18 : decode cX3_readUnsure 18 = .ok (.invokevirtual 75, 3) := dAX3_readUnsure_1.2.2.1
theorem dX3_readUnsure_21 : decode cX3_readUnsure 21 = .ok (.aload_n 0, 1) := dAX3_readUnsure_1.2.2.2.1
theorem dX3_readUnsure_22 : decode cX3_readUnsure 22 = .ok (.invokevirtual 158, 3) := dAX3_readUnsure_1.2.2.2.2.1
theorem dX3_readUnsure_25 : decode cX3_readUnsure 25 = .ok (.ifCond .ne 5, 3) := dAX3_readUnsure_1.2.2.2.2.2.1
theorem dX3_readUnsure_28 : decode cX3_readUnsure 28 = .ok (.iconst 0, 1) := dAX3_readUnsure_1.2.2.2.2.2.2.1
theorem dX3_readUnsure_29 : decode cX3_readUnsure 29 = .ok (.ireturn, 1) := dAX3_readUnsure_1.2.2.2.2.2.2.2
set_option maxRecDepth 100000 in
theorem dAX3_readUnsure_2 : decode cX3_readUnsure 30 = .ok (.aload_n 0, 1) ∧ decode cX3_readUnsure 31 = .ok (.invokevirtual 161, 3) ∧ decode cX3_readUnsure 34 = .ok (.istore_n 1, 1) ∧ decode cX3_readUnsure 35 = .ok (.aload_n 0, 1) ∧ decode cX3_readUnsure 36 = .ok (.getfield 18, 3) ∧ decode cX3_readUnsure 39 = .ok (.iload_n 1, 1) ∧ decode cX3_readUnsure 40 = .ok (.invokevirtual 179, 3) ∧ decode cX3_readUnsure 43 = .ok (.ifCond .ne 9, 3) := by decide +kernel
theorem dX3_readUnsure_30 : decode cX3_readUnsure 30 = .ok (.aload_n 0, 1) := dAX3_readUnsure_2.1
theorem dX3_readUnsure_31 : decode cX3_readUnsure 31 = .ok (.invokevirtual 161, 3) := dAX3_readUnsure_2.2.1
theorem dX3_readUnsure_34 : decode cX3_readUnsure 34 = .ok (.istore_n 1, 1) := dAX3_readUnsure_2.2.2.1
theorem dX3_readUnsure_35 : decode cX3_readUnsure 35 = .ok (.aload_n 0, 1) := dAX3_readUnsure_2.2.2.2.1
theorem dX3_readUnsure_36 : decode cX3_readUnsure 36 = .ok (.getfield 18, 3) := dAX3_readUnsure_2.2.2.2.2.1
theorem dX3_readUnsure_39 : decode cX3_readUnsure 39 = .ok (.iload_n 1, 1) := dAX3_readUnsure_2.2.2.2.2.2.1
theorem dX3_readUnsure_40 : decode cX3_readUnsure 40 = .ok (.invokevirtual 179, 3) := dAX3_readUnsure_2.2.2.2.2.2.2.1
theorem dX3_readUnsure_43 : decode cX3_readUnsure 43 = .ok (.ifCond .ne 9, 3) := dAX3_readUnsure_2.2.2.2.2.2.2.2
set_option maxRecDepth 100000 in
theorem dAX3_readUnsure_3 : decode cX3_readUnsure 46 = .ok (.aload_n 0, 1) ∧ decode cX3_readUnsure 47 = .ok (.iconst 2, 1) ∧ decode cX3_readUnsure 48 = .ok (.invokevirtual 88, 3) ∧ decode cX3_readUnsure 51 = .ok (.ireturn, 1) ∧ decode cX3_readUnsure 52 = .ok (.aload_n 0, 1) ∧ decode cX3_readUnsure 53 = .ok (.getfield 18, 3) ∧ decode cX3_readUnsure 56 = .ok (.iload_n 1, 1) ∧ decode cX3_readUnsure 57 = .ok (.invokevirtual 182, 3) := by decide +kernel
theorem dX3_readUnsure_46 : decode cX3_readUnsure 46 = .ok (.aload_n 0, 1) := dAX3_readUnsure_3.1
theorem dX3_readUnsure_47 : decode cX3_readUnsure 47 = .ok (.iconst 2, 1) := dAX3_readUnsure_3.2.1
theorem dX3_readUnsure_48 : decode cX3_readUnsure 48 = .ok (.invokevirtual 88, 3) := dAX3_readUnsure_3.2.2.1
theorem dX3_readUnsure_51 : decode cX3_readUnsure 51 = .ok (.ireturn, 1) := dAX3_readUnsure_3.2.2.2.1
theorem dX3_readUnsure_52 : decode cX3_readUnsure 52 = .ok (.aload_n 0, 1) := dAX3_readUnsure_3.2.2.2.2.1
theorem dX3_readUnsure_53 : decode cX3_readUnsure 53 = .ok (.getfield 18, 3) := dAX3_readUnsure_3.2.2.2.2.2.1
theorem dX3_readUnsure_56 : decode cX3_readUnsure 56 = .ok (.iload_n 1, 1) := dAX3_readUnsure_3.2.2.2.2.2.2.1
theorem dX3_readUnsure_57 : decode cX3_readUnsure 57 = .ok (.invokevirtual 182, 3) := dAX3_readUnsure_3.2.2.2.2.2.2.2
set_option maxRecDepth 100000 in
theorem dAX3_readUnsure_4 : decode cX3_readUnsure 60 = .ok (.ifCond .eq 9, 3) ∧ decode cX3_readUnsure 63 = .ok (.aload_n 0, 1) ∧ decode cX3_readUnsure 64 = .ok (.iconst 3, 1) ∧ decode cX3_readUnsure 65 = .ok (.invokevirtual 88, 3) ∧ decode cX3_readUnsure 68 = .ok (.ireturn, 1) ∧ decode cX3_readUnsure 69 = .ok (.aload_n 0, 1) ∧ decode cX3_readUnsure 70 = .ok (.invokevirtual 75, 3) ∧ decode cX3_readUnsure 73 = .ok (.aload_n 0, 1) := by decide +kernel
theorem dX3_readUnsure_60 : decode cX3_readUnsure 60 = .ok (.ifCond .eq 9, 3) := dAX3_readUnsure_4.1
theorem dX3_readUnsure_63 : decode cX3_readUnsure 63 = .ok (.aload_n 0, 1) := dAX3_readUnsure_4.2.1
theorem dX3_readUnsure_64 : decode cX3_readUnsure 64 = .ok (.iconst 3, 1) := dAX3_readUnsure_4.2.2.1
theorem dX3_readUnsure_65 : decode cX3_readUnsure 65 = .ok (.invokevirtual 88, 3) := dAX3_readUnsure_4.2.2.2.1
theorem dX3_readUnsure_68 : decode cX3_readUnsure 68 = .ok (.ireturn, 1) := dAX3_readUnsure_4.2.2.2.2.1
theorem dX3_readUnsure_69 : decode cX3_readUnsure 69 = .ok (.aload_n 0, 1) := dAX3_readUnsure_4.2.2.2.2.2.1
theorem dX3_readUnsure_70 : decode cX3_readUnsure 70 = .ok (.invokevirtual 75, 3) := dAX3_readUnsure_4.2.2.2.2.2.2.1
theorem dX3_readUnsure_73 : decode cX3_readUnsure 73 = .ok (.aload_n 0, 1) := dAX3_readUnsure_4.2.2.2.2.2.2.2
set_option maxRecDepth 100000 in
theorem dAX3_readUnsure_5 : decode cX3_readUnsure 74 = .ok (.iconst 0, 1) ∧ decode cX3_readUnsure 75 = .ok (.bipush 99, 2) ∧ decode cX3_readUnsure 77 = .ok (.invokevirtual 128, 3) ∧ decode cX3_readUnsure 80 = .ok (.ifCond .ne 5, 3) ∧ decode cX3_readUnsure 83 = .ok (.iconst 0, 1) ∧ decode cX3_readUnsure 84 = .ok (.ireturn, 1) ∧ decode cX3_readUnsure 85 = .ok (.aload_n 0, 1) ∧ decode cX3_readUnsure 86 = .ok (.getfield 18, 3) := by decide +kernel
theorem dX3_readUnsure_74 : decode cX3_readUnsure 74 = .ok (.iconst 0, 1) := dAX3_readUnsure_5.1
theorem dX3_readUnsure_75 : decode cX3_readUnsure 75 = .ok (.bipush 99, 2) := dAX3_readUnsure_5.2.1
theorem dX3_readUnsure_77 : decode cX3_readUnsure 77 = .ok (.invokevirtual 128, 3) := dAX3_readUnsure_5.2.2.1
theorem dX3_readUnsure_80 : decode cX3_readUnsure 80 = .ok (.ifCond .ne 5, 3) := dAX3_readUnsure_5.2.2.2.1
theorem dX3_readUnsure_83 : decode cX3_readUnsure 83 = .ok (.iconst 0, 1) := dAX3_readUnsure_5.2.2.2.2.1
theorem dX3_readUnsure_84 : decode cX3_readUnsure 84 = .ok (.ireturn, 1) := dAX3_readUnsure_5.2.2.2.2.2.1
theorem dX3_readUnsure_85 : decode cX3_readUnsure 85 = .ok (.aload_n 0, 1) := dAX3_readUnsure_5.2.2.2.2.2.2.1
theorem dX3_readUnsure_86 : decode cX3_readUnsure 86 = .ok (.getfield 18, 3) := dAX3_readUnsure_5.2.2.2.2.2.2.2
set_option maxRecDepth 100000 in
theorem dAX3_readUnsure_6 : decode cX3_readUnsure 89 = .ok (.iload_n 1, 1) ∧ decode cX3_readUnsure 90 = .ok (.aload_n 0, 1) ∧ decode cX3_readUnsure 91 = .ok (.getfield 132, 3) ∧ decode cX3_readUnsure 94 = .ok (.invokevirtual 185, 3) ∧ decode cX3_readUnsure 97 = .ok (.aload_n 0, 1) ∧ decode cX3_readUnsure 98 = .ok (.invokevirtual 75, 3) ∧ decode cX3_readUnsure 101 = .ok (.iconst 1, 1) ∧ decode cX3_readUnsure 102 = .ok (.ireturn, 1) := by decide +kernel
theorem dX3_readUnsure_89 : decode cX3_readUnsure 89 = .ok (.iload_n 1, 1) := dAX3_readUnsure_6.1
theorem dX3_readUnsure_90 : decode cX3_readUnsure 90 = .ok (.aload_n 0, 1) := dAX3_readUnsure_6.2.1
theorem dX3_readUnsure_91 : decode cX3_readUnsure 91 = .ok (.getfield 132, 3) := dAX3_readUnsure_6.2.2.1
theorem dX3_readUnsure_94 : decode cX3_readUnsure 94 = .ok (.invokevirtual 185, 3) := dAX3_readUnsure_6.2.2.2.1
theorem dX3_readUnsure_97 : decode cX3_readUnsure 97 = .ok (.aload_n 0, 1) := dAX3_readUnsure_6.2.2.2.2.1
theorem dX3_readUnsure_98 : decode cX3_readUnsure 98 = .ok (.invokevirtual 75, 3) := dAX3_readUnsure_6.2.2.2.2.2.1
theorem dX3_readUnsure_101 : decode cX3_readUnsure 101 = .ok (.iconst 1, 1) := dAX3_readUnsure_6.2.2.2.2.2.2.1
theorem dX3_readUnsure_102 : decode cX3_readUnsure 102 = .ok (.ireturn, 1) := dAX3_readUnsure_6.2.2.2.2.2.2.2
set_option maxRecDepth 100000 in
theorem dAX3_readWord_0 : decode cX3_readWord 0 = .ok (.aload_n 0, 1) ∧ decode cX3_readWord 1 = .ok (.getfield 18, 3) ∧ decode cX3_readWord 4 = .ok (.iconst 0, 1) ∧ decode cX3_readWord 5 = .ok (.invokevirtual 137, 3) ∧ decode cX3_readWord 8 = .ok (.ifCond .ne 9, 3) ∧ decode cX3_readWord 11 = .ok (.aload_n 0, 1) ∧ decode cX3_readWord 12 = .ok (.iconst 5, 1) ∧ decode cX3_readWord 13 = .ok (.invokevirtual 88, 3) := by decide +kernel
theorem dX3_readWord_0 : decode cX3_readWord 0 = .ok (.aload_n 0, 1) := dAX3_readWord_0.1
theorem dX3_readWord_1 : decode cX3_readWord 1 = .ok (.getfield 18, 3) := dAX3_readWord_0.2.1
theorem dX3_readWord_4 : decode cX3_readWord 4 = .ok (.iconst 0, 1) := dAX3_readWord_0.2.2.1
theorem dX3_readWord_5 : decode cX3_readWord 5 = .ok (.invokevirtual 137, 3) := dAX3_readWord_0.2.2.2.1
theorem dX3_readWord_8 : decode cX3_readWord 8 = .ok (.ifCond .ne 9, 3) := dAX3_readWord_0.2.2.2.2.1
theorem dX3_readWord_11 : decode cX3_readWord 11 = .ok (.aload_n 0, 1) := dAX3_readWord_0.2.2.2.2.2.1
theorem dX3_readWord_12 : decode cX3_readWord 12 = .ok (.iconst 5, 1) := dAX3_readWord_0.2.2.2.2.2.2.1
theorem dX3_readWord_13 : decode cX3_readWord 13 = .ok (.invokevirtual 88, 3) := dAX3_readWord_0.2.2.2.2.2.2.2
set_option maxRecDepth 100000 in
theorem dAX3_readWord_1 : decode cX3_readWord 16 = .ok (.ireturn, 1) ∧ decode cX3_readWord 17 = .ok (.aload_n 0, 1) ∧ decode cX3_readWord 18 = .ok (.getfield 18, 3) ∧ decode cX3_readWord 21 = .ok (.iconst 0, 1) ∧ decode cX3_readWord 22 = .ok (.invokevirtual 140, 3) ∧ decode cX3_readWord 25 = .ok (.aload_n 0, 1) ∧ decode cX3_readWord 26 = .ok (.invokevirtual 75, 3) ∧ decode cX3_readWord 29 = .ok (.aload_n 0, 1) := by decide +kernel
theorem dX3_readWord_16 : decode cX3_readWord 16 = .ok (.ireturn, 1) := dAX3_readWord_1.1
theorem dX3_readWord_17 : decode cX3_readWord 17 = .ok (.aload_n 0, 1) := dAX3_readWord_1.2.1
theorem dX3_readWord_18 : decode cX3_readWord 18 = .ok (.getfield 18, 3) := dAX3_readWord_1.2.2.1
theorem dX3_readWord_21 : decode cX3_readWord 21 = .ok (.iconst 0, 1) := dAX3_readWord_1.2.2.2.1
theorem dX3_readWord_22 : decode cX3_readWord 22 = .ok (.invokevirtual 140, 3) := dAX3_readWord_1.2.2.2.2.1
theorem dX3_readWord_25 : decode cX3_readWord 25 = .ok (.aload_n 0, 1) := dAX3_readWord_1.2.2.2.2.2.1
theorem dX3_readWord_26 : decode cX3_readWord 26 = .ok (.invokevirtual 75, 3) := dAX3_readWord_1.2.2.2.2.2.2.1
theorem dX3_readWord_29 : decode cX3_readWord 29 = .ok (.aload_n 0, 1) := dAX3_readWord_1.2.2.2.2.2.2.2
set_option maxRecDepth 100000 in
theorem dAX3_readWord_2 : decode cX3_readWord 30 = .ok (.invokevirtual 144, 3) ∧ decode cX3_readWord 33 = .ok (.ifCond .ne 5, 3) ∧ decode cX3_readWord 36 = .ok (.iconst 0, 1) ∧ decode cX3_readWord 37 = .ok (.ireturn, 1) ∧ decode cX3_readWord 38 = .ok (.aload_n 0, 1) ∧ decode cX3_readWord 39 = .ok (.getfield 147, 3) ∧ decode cX3_readWord 42 = .ok (.lstore_n 1, 1) ∧ decode cX3_readWord 43 = .ok (.aload_n 0, 1) := by decide +kernel
theorem dX3_readWord_30 : decode cX3_readWord 30 = .ok (.invokevirtual 144, 3) := dAX3_readWord_2.1
theorem dX3_readWord_33 : decode cX3_readWord 33 = .ok (.ifCond .ne 5, 3) := dAX3_readWord_2.2.1
theorem dX3_readWord_36 : decode cX3_readWord 36 = .ok (.iconst 0, 1) := dAX3_readWord_2.2.2.1
theorem dX3_readWord_37 : decode cX3_readWord 37 = .ok (.ireturn, 1) := dAX3_readWord_2.2.2.2.1
theorem dX3_readWord_38 : decode cX3_readWord 38 = .ok (.aload_n 0, 1) := dAX3_readWord_2.2.2.2.2.1
theorem dX3_readWord_39 : decode cX3_readWord 39 = .ok (.getfield 147, 3) := dAX3_readWord_2.2.2.2.2.2.1
theorem dX3_readWord_42 : decode cX3_readWord 42 = .ok (.lstore_n 1, 1) := dAX3_readWord_2.2.2.2.2.2.2.1
theorem dX3_readWord_43 : decode cX3_readWord 43 = .ok (.aload_n 0, 1) := dAX3_readWord_2.2.2.2.2.2.2.2
set_option maxRecDepth 100000 in
theorem dAX3_readWord_3 : decode cX3_readWord 44 = .ok (.invokevirtual 75, 3) ∧ decode cX3_readWord 47 = .ok (.aload_n 0, 1) ∧ decode cX3_readWord 48 = .ok (.getfield 107, 3) ∧ decode cX3_readWord 51 = .ok (.bipush 9, 2) ∧ decode cX3_readWord 53 = .ok (.if_icmp .eq 9, 3) ∧ decode cX3_readWord 56 = .ok (.aload_n 0, 1) ∧ decode cX3_readWord 57 = .ok (.iconst 1, 1) ∧ decode cX3_readWord 58 = .ok (.invokevirtual 88, 3) := by decide +kernel
theorem dX3_readWord_44 : decode cX3_readWord 44 = .ok (.invokevirtual 75, 3) := dAX3_readWord_3.1
theorem dX3_readWord_47 : decode cX3_readWord 47 = .ok (.aload_n 0, 1) := dAX3_readWord_3.2.1
theorem dX3_readWord_48 : decode cX3_readWord 48 = .ok (.getfield 107, 3) := dAX3_readWord_3.2.2.1
theorem dX3_readWord_51 : decode cX3_readWord 51 = .ok (.bipush 9, 2) := dAX3_readWord_3.2.2.2.1
theorem dX3_readWord_53 : decode cX3_readWord 53 = .ok (.if_icmp .eq 9, 3) := dAX3_readWord_3.2.2.2.2.1
theorem dX3_readWord_56 : decode cX3_readWord 56 = .ok (.aload_n 0, 1) := dAX3_readWord_3.2.2.2.2.2.1
theorem dX3_readWord_57 : decode cX3_readWord 57 = .ok (.iconst 1, 1) := dAX3_readWord_3.2.2.2.2.2.2.1
theorem dX3_readWord_58 : decode cX3_readWord 58 = .ok (.invokevirtual 88, 3) := dAX3_readWord_3.2.2.2.2.2.2.2
set_option maxRecDepth 100000 in
theorem dAX3_readWord_4 : decode cX3_readWord 61 = .ok (.ireturn, 1) ∧ decode cX3_readWord 62 = .ok (.aload_n 0, 1) ∧ decode cX3_readWord 63 = .ok (.invokevirtual 75, 3) ∧ decode cX3_readWord 66 = .ok (.aload_n 0, 1) ∧ decode cX3_readWord 67 = .ok (.iconst 0, 1) ∧ decode cX3_readWord 68 = .ok (.bipush 99, 2) ∧ decode cX3_readWord 70 = .ok (.invokevirtual 128, 3) ∧ decode cX3_readWord 73 = .ok (.ifCond .ne 5, 3) := by decide +kernel
theorem dX3_readWord_61 : decode cX3_readWord 61 = .ok (.ireturn, 1) := dAX3_readWord_4.1
theorem dX3_readWord_62 : decode cX3_readWord 62 = .ok (.aload_n 0, 1) := dAX3_readWord_4.2.1
theorem dX3_readWord_63 : decode cX3_readWord 63 = .ok (.invokevirtual 75, 3) := dAX3_readWord_4.2.2.1
theorem dX3_readWord_66 : decode cX3_readWord 66 = .ok (.aload_n 0, 1) := dAX3_readWord_4.2.2.2.1
theorem dX3_readWord_67 : decode cX3_readWord 67 = .ok (.iconst 0, 1) := dAX3_readWord_4.2.2.2.2.1
theorem dX3_readWord_68 : decode cX3_readWord 68 = .ok (.bipush 99, 2) := dAX3_readWord_4.2.2.2.2.2.1
theorem dX3_readWord_70 : decode cX3_readWord 70 = .ok (.invokevirtual 128, 3) := dAX3_readWord_4.2.2.2.2.2.2.1
theorem dX3_readWord_73 : decode cX3_readWord 73 = .ok (.ifCond .ne 5, 3) := dAX3_readWord_4.2.2.2.2.2.2.2
set_option maxRecDepth 100000 in
theorem dAX3_readWord_5 : decode cX3_readWord 76 = .ok (.iconst 0, 1) ∧ decode cX3_readWord 77 = .ok (.ireturn, 1) ∧ decode cX3_readWord 78 = .ok (.aload_n 0, 1) ∧ decode cX3_readWord 79 = .ok (.lload_n 1, 1) ∧ decode cX3_readWord 80 = .ok (.aload_n 0, 1) ∧ decode cX3_readWord 81 = .ok (.getfield 132, 3) ∧ decode cX3_readWord 84 = .ok (.invokevirtual 151, 3) ∧ decode cX3_readWord 87 = .ok (.aload_n 0, 1) := by decide +kernel
theorem dX3_readWord_76 : decode cX3_readWord 76 = .ok (.iconst 0, 1) := dAX3_readWord_5.1
theorem dX3_readWord_77 : decode cX3_readWord 77 = .ok (.ireturn, 1) := dAX3_readWord_5.2.1
theorem dX3_readWord_78 : decode cX3_readWord 78 = .ok (.aload_n 0, 1) := dAX3_readWord_5.2.2.1
theorem dX3_readWord_79 : decode cX3_readWord 79 = .ok (.lload_n 1, 1) := dAX3_readWord_5.2.2.2.1
theorem dX3_readWord_80 : decode cX3_readWord 80 = .ok (.aload_n 0, 1) := dAX3_readWord_5.2.2.2.2.1
theorem dX3_readWord_81 : decode cX3_readWord 81 = .ok (.getfield 132, 3) := dAX3_readWord_5.2.2.2.2.2.1
theorem dX3_readWord_84 : decode cX3_readWord 84 = .ok (.invokevirtual 151, 3) := dAX3_readWord_5.2.2.2.2.2.2.1
theorem dX3_readWord_87 : decode cX3_readWord 87 = .ok (.aload_n 0, 1) := dAX3_readWord_5.2.2.2.2.2.2.2
set_option maxRecDepth 100000 in
theorem dAX3_readWord_6 : decode cX3_readWord 88 = .ok (.invokevirtual 75, 3) ∧ decode cX3_readWord 91 = .ok (.iconst 1, 1) ∧ decode cX3_readWord 92 = .ok (.ireturn, 1) := by decide +kernel
theorem dX3_readWord_88 : decode cX3_readWord 88 = .ok (.invokevirtual 75, 3) := dAX3_readWord_6.1
theorem dX3_readWord_91 : decode cX3_readWord 91 = .ok (.iconst 1, 1) := dAX3_readWord_6.2.1
theorem dX3_readWord_92 : decode cX3_readWord 92 = .ok (.ireturn, 1) := dAX3_readWord_6.2.2
set_option maxRecDepth 100000 in
theorem dAX3_reads_0 : decode cX3_reads 0 = .ok (.aload_n 0, 1) ∧ decode cX3_reads 1 = .ok (.iconst 0, 1) ∧ decode cX3_reads 2 = .ok (.putfield 52, 3) ∧ decode cX3_reads 5 = .ok (.aload_n 0, 1) ∧ decode cX3_reads 6 = .ok (.iload_n 1, 1) ∧ decode cX3_reads 7 = .ok (.putfield 56, 3) ∧ decode cX3_reads 10 = .ok (.aload_n 0, 1) ∧ decode cX3_reads 11 = .ok (.getfield 18, 3) := by decide +kernel
theorem dX3_reads_0 : decode cX3_reads 0 = .ok (.aload_n 0, 1) := dAX3_reads_0.1
theorem dX3_reads_1 : decode cX3_reads 1 = .ok (.iconst 0, 1) := dAX3_reads_0.2.1
theorem dX3_reads_2 : decode cX3_reads 2 = .ok (.putfield 52, 3) := dAX3_reads_0.2.2.1
theorem dX3_reads_5 : decode cX3_reads 5 = .ok (.aload_n 0, 1) := dAX3_reads_0.2.2.2.1
theorem dX3_reads_6 : decode cX3_reads 6 = .ok (.iload_n 1, 1) := dAX3_reads_0.2.2.2.2.1
theorem dX3_reads_7 : decode cX3_reads 7 = .ok (.putfield 56, 3) := dAX3_reads_0.2.2.2.2.2.1
theorem dX3_reads_10 : decode cX3_reads 10 = .ok (.aload_n 0, 1) := dAX3_reads_0.2.2.2.2.2.2.1
theorem dX3_reads_11 : decode cX3_reads 11 = .ok (.getfield 18, 3) := dAX3_reads_0.2.2.2.2.2.2.2
set_option maxRecDepth 100000 in
theorem dAX3_reads_1 : decode cX3_reads 14 = .ok (.invokevirtual 59, 3) ∧ decode cX3_reads 17 = .ok (.aload_n 0, 1) ∧ decode cX3_reads 18 = .ok (.iconst 0, 1) ∧ decode cX3_reads 19 = .ok (.putfield 62, 3) ∧ decode cX3_reads 22 = .ok (.aload_n 0, 1) ∧ decode cX3_reads 23 = .ok (.iconst 0, 1) ∧ decode cX3_reads 24 = .ok (.putfield 66, 3) ∧ decode cX3_reads 27 = .ok (.aload_n 0, 1) := by decide +kernel
theorem dX3_reads_14 : decode cX3_reads 14 = .ok (.invokevirtual 59, 3) := dAX3_reads_1.1
theorem dX3_reads_17 : decode cX3_reads 17 = .ok (.aload_n 0, 1) := dAX3_reads_1.2.1
theorem dX3_reads_18 : decode cX3_reads 18 = .ok (.iconst 0, 1) := dAX3_reads_1.2.2.1
theorem dX3_reads_19 : decode cX3_reads 19 = .ok (.putfield 62, 3) := dAX3_reads_1.2.2.2.1
theorem dX3_reads_22 : decode cX3_reads 22 = .ok (.aload_n 0, 1) := dAX3_reads_1.2.2.2.2.1
theorem dX3_reads_23 : decode cX3_reads 23 = .ok (.iconst 0, 1) := dAX3_reads_1.2.2.2.2.2.1
theorem dX3_reads_24 : decode cX3_reads 24 = .ok (.putfield 66, 3) := dAX3_reads_1.2.2.2.2.2.2.1
theorem dX3_reads_27 : decode cX3_reads 27 = .ok (.aload_n 0, 1) := dAX3_reads_1.2.2.2.2.2.2.2
set_option maxRecDepth 100000 in
theorem dAX3_reads_2 : decode cX3_reads 28 = .ok (.iconst (-1), 1) ∧ decode cX3_reads 29 = .ok (.putfield 69, 3) ∧ decode cX3_reads 32 = .ok (.aload_n 0, 1) ∧ decode cX3_reads 33 = .ok (.iconst 0, 1) ∧ decode cX3_reads 34 = .ok (.putfield 72, 3) ∧ decode cX3_reads 37 = .ok (.aload_n 0, 1) ∧ decode cX3_reads 38 = .ok (.invokevirtual 75, 3) ∧ decode cX3_reads 41 = .ok (.aload_n 0, 1) := by decide +kernel
theorem dX3_reads_28 : decode cX3_reads 28 = .ok (.iconst (-1), 1) := dAX3_reads_2.1
theorem dX3_reads_29 : decode cX3_reads 29 = .ok (.putfield 69, 3) := dAX3_reads_2.2.1
theorem dX3_reads_32 : decode cX3_reads 32 = .ok (.aload_n 0, 1) := dAX3_reads_2.2.2.1
theorem dX3_reads_33 : decode cX3_reads 33 = .ok (.iconst 0, 1) := dAX3_reads_2.2.2.2.1
theorem dX3_reads_34 : decode cX3_reads 34 = .ok (.putfield 72, 3) := dAX3_reads_2.2.2.2.2.1
theorem dX3_reads_37 : decode cX3_reads 37 = .ok (.aload_n 0, 1) := dAX3_reads_2.2.2.2.2.2.1
theorem dX3_reads_38 : decode cX3_reads 38 = .ok (.invokevirtual 75, 3) := dAX3_reads_2.2.2.2.2.2.2.1
theorem dX3_reads_41 : decode cX3_reads 41 = .ok (.aload_n 0, 1) := dAX3_reads_2.2.2.2.2.2.2.2
set_option maxRecDepth 100000 in
theorem dAX3_reads_3 : decode cX3_reads 42 = .ok (.invokevirtual 78, 3) ∧ decode cX3_reads 45 = .ok (.istore_n 2, 1) ∧ decode cX3_reads 46 = .ok (.iconst 0, 1) ∧ decode cX3_reads 47 = .ok (.istore_n 3, 1) ∧ decode cX3_reads 48 = .ok (.iload_n 3, 1) ∧ decode cX3_reads 49 = .ok (.sipush 900, 3) ∧ decode cX3_reads 52 = .ok (.if_icmp .ge 30, 3) ∧ decode cX3_reads 55 = .ok (.iload_n 2, 1) := by decide +kernel
theorem dX3_reads_42 : decode cX3_reads 42 = .ok (.invokevirtual 78, 3) := dAX3_reads_3.1
theorem dX3_reads_45 : decode cX3_reads 45 = .ok (.istore_n 2, 1) := dAX3_reads_3.2.1
theorem dX3_reads_46 : decode cX3_reads 46 = .ok (.iconst 0, 1) := dAX3_reads_3.2.2.1
theorem dX3_reads_47 : decode cX3_reads 47 = .ok (.istore_n 3, 1) := dAX3_reads_3.2.2.2.1
theorem dX3_reads_48 : decode cX3_reads 48 = .ok (.iload_n 3, 1) := dAX3_reads_3.2.2.2.2.1
theorem dX3_reads_49 : decode cX3_reads 49 = .ok (.sipush 900, 3) := dAX3_reads_3.2.2.2.2.2.1
theorem dX3_reads_52 : decode cX3_reads 52 = .ok (.if_icmp .ge 30, 3) := dAX3_reads_3.2.2.2.2.2.2.1
theorem dX3_reads_55 : decode cX3_reads 55 = .ok (.iload_n 2, 1) := dAX3_reads_3.2.2.2.2.2.2.2
set_option maxRecDepth 100000 in
theorem dAX3_reads_4 : decode cX3_reads 56 = .ok (.ifCond .eq 26, 3) ∧ decode cX3_reads 59 = .ok (.aload_n 0, 1) ∧ decode cX3_reads 60 = .ok (.getfield 82, 3) ∧ decode cX3_reads 63 = .ok (.iconst 3, 1) ∧ decode cX3_reads 64 = .ok (.if_icmp .ne 18, 3) ∧ decode cX3_reads 67 = .ok (.aload_n 0, 1) ∧ decode cX3_reads 68 = .ok (.invokevirtual 75, 3) ∧ decode cX3_reads 71 = .ok (.aload_n 0, 1) := by decide +kernel
theorem dX3_reads_56 : decode cX3_reads 56 = .ok (.ifCond .eq 26, 3) := dAX3_reads_4.1
theorem dX3_reads_59 : decode cX3_reads 59 = .ok (.aload_n 0, 1) := dAX3_reads_4.2.1
theorem dX3_reads_60 : decode cX3_reads 60 = .ok (.getfield 82, 3) := dAX3_reads_4.2.2.1
theorem dX3_reads_63 : decode cX3_reads 63 = .ok (.iconst 3, 1) := dAX3_reads_4.2.2.2.1
theorem dX3_reads_64 : decode cX3_reads 64 = .ok (.if_icmp .ne 18, 3) := dAX3_reads_4.2.2.2.2.1
theorem dX3_reads_67 : decode cX3_reads 67 = .ok (.aload_n 0, 1) := dAX3_reads_4.2.2.2.2.2.1
theorem dX3_reads_68 : decode cX3_reads 68 = .ok (.invokevirtual 75, 3) := dAX3_reads_4.2.2.2.2.2.2.1
theorem dX3_reads_71 : decode cX3_reads 71 = .ok (.aload_n 0, 1) := dAX3_reads_4.2.2.2.2.2.2.2
set_option maxRecDepth 100000 in
theorem dAX3_reads_5 : decode cX3_reads 72 = .ok (.invokevirtual 78, 3) ∧ decode cX3_reads 75 = .ok (.istore_n 2, 1) ∧ decode cX3_reads 76 = .ok (.iinc 3 1, 3) ∧ decode cX3_reads 79 = .ok (.goto (-31), 3) ∧ decode cX3_reads 82 = .ok (.iload_n 2, 1) ∧ decode cX3_reads 83 = .ok (.ifCond .eq 14, 3) ∧ decode cX3_reads 86 = .ok (.aload_n 0, 1) ∧ decode cX3_reads 87 = .ok (.invokevirtual 85, 3) := by decide +kernel
theorem dX3_reads_72 : decode cX3_reads 72 = .ok (.invokevirtual 78, 3) := dAX3_reads_5.1
theorem dX3_reads_75 : decode cX3_reads 75 = .ok (.istore_n 2, 1) := dAX3_reads_5.2.1
theorem dX3_reads_76 : decode cX3_reads 76 = .ok (.iinc 3 1, 3) := dAX3_reads_5.2.2.1
theorem dX3_reads_79 : decode cX3_reads 79 = .ok (.goto (-31), 3) := dAX3_reads_5.2.2.2.1
theorem dX3_reads_82 : decode cX3_reads 82 = .ok (.iload_n 2, 1) := dAX3_reads_5.2.2.2.2.1
theorem dX3_reads_83 : decode cX3_reads 83 = .ok (.ifCond .eq 14, 3) := dAX3_reads_5.2.2.2.2.2.1
theorem dX3_reads_86 : decode cX3_reads 86 = .ok (.aload_n 0, 1) := dAX3_reads_5.2.2.2.2.2.2.1
theorem dX3_reads_87 : decode cX3_reads 87 = .ok (.invokevirtual 85, 3) := dAX3_reads_5.2.2.2.2.2.2.2
set_option maxRecDepth 100000 in
theorem dAX3_reads_6 : decode cX3_reads 90 = .ok (.ifCond .eq 7, 3) ∧ decode cX3_reads 93 = .ok (.iconst 1, 1) ∧ decode cX3_reads 94 = .ok (.goto 4, 3) ∧ decode cX3_reads 97 = .ok (.iconst 0, 1) ∧ decode cX3_reads 98 = .ok (.ireturn, 1) := by decide +kernel
theorem dX3_reads_90 : decode cX3_reads 90 = .ok (.ifCond .eq 7, 3) := dAX3_reads_6.1
theorem dX3_reads_93 : decode cX3_reads 93 = .ok (.iconst 1, 1) := dAX3_reads_6.2.1
theorem dX3_reads_94 : decode cX3_reads 94 = .ok (.goto 4, 3) := dAX3_reads_6.2.2.1
theorem dX3_reads_97 : decode cX3_reads 97 = .ok (.iconst 0, 1) := dAX3_reads_6.2.2.2.1
theorem dX3_reads_98 : decode cX3_reads 98 = .ok (.ireturn, 1) := dAX3_reads_6.2.2.2.2
set_option maxRecDepth 100000 in
theorem dAX3_takeDigits_0 : decode cX3_takeDigits 0 = .ok (.aload_n 0, 1) ∧ decode cX3_takeDigits 1 = .ok (.getfield 101, 3) ∧ decode cX3_takeDigits 4 = .ok (.istore_n 1, 1) ∧ decode cX3_takeDigits 5 = .ok (.aload_n 0, 1) ∧ decode cX3_takeDigits 6 = .ok (.iconst 0, 1) ∧ decode cX3_takeDigits 7 = .ok (.putfield 132, 3) ∧ decode cX3_takeDigits 10 = .ok (.iload_n 1, 1) ∧ decode cX3_takeDigits 11 = .ok (.aload_n 0, 1) := by decide +kernel
theorem dX3_takeDigits_0 : decode cX3_takeDigits 0 = .ok (.aload_n 0, 1) := dAX3_takeDigits_0.1
theorem dX3_takeDigits_1 : decode cX3_takeDigits 1 = .ok (.getfield 101, 3) := dAX3_takeDigits_0.2.1
theorem dX3_takeDigits_4 : decode cX3_takeDigits 4 = .ok (.istore_n 1, 1) := dAX3_takeDigits_0.2.2.1
theorem dX3_takeDigits_5 : decode cX3_takeDigits 5 = .ok (.aload_n 0, 1) := dAX3_takeDigits_0.2.2.2.1
theorem dX3_takeDigits_6 : decode cX3_takeDigits 6 = .ok (.iconst 0, 1) := dAX3_takeDigits_0.2.2.2.2.1
theorem dX3_takeDigits_7 : decode cX3_takeDigits 7 = .ok (.putfield 132, 3) := dAX3_takeDigits_0.2.2.2.2.2.1
theorem dX3_takeDigits_10 : decode cX3_takeDigits 10 = .ok (.iload_n 1, 1) := dAX3_takeDigits_0.2.2.2.2.2.2.1
theorem dX3_takeDigits_11 : decode cX3_takeDigits 11 = .ok (.aload_n 0, 1) := dAX3_takeDigits_0.2.2.2.2.2.2.2
set_option maxRecDepth 100000 in
theorem dAX3_takeDigits_1 : decode cX3_takeDigits 12 = .ok (.getfield 56, 3) ∧ decode cX3_takeDigits 15 = .ok (.if_icmp .ge 40, 3) ∧ decode cX3_takeDigits 18 = .ok (.aload_n 0, 1) ∧ decode cX3_takeDigits 19 = .ok (.iload_n 1, 1) ∧ decode cX3_takeDigits 20 = .ok (.invokevirtual 193, 3) ∧ decode cX3_takeDigits 23 = .ok (.invokestatic 203, 3) ∧ decode cX3_takeDigits 26 = .ok (.ifCond .eq 29, 3) ∧ decode cX3_takeDigits 29 = .ok (.aload_n 0, 1) := by decide +kernel
theorem dX3_takeDigits_12 : decode cX3_takeDigits 12 = .ok (.getfield 56, 3) := dAX3_takeDigits_1.1
theorem dX3_takeDigits_15 : decode cX3_takeDigits 15 = .ok (.if_icmp .ge 40, 3) := dAX3_takeDigits_1.2.1
theorem dX3_takeDigits_18 : decode cX3_takeDigits 18 = .ok (.aload_n 0, 1) := dAX3_takeDigits_1.2.2.1
theorem dX3_takeDigits_19 : decode cX3_takeDigits 19 = .ok (.iload_n 1, 1) := dAX3_takeDigits_1.2.2.2.1
theorem dX3_takeDigits_20 : decode cX3_takeDigits 20 = .ok (.invokevirtual 193, 3) := dAX3_takeDigits_1.2.2.2.2.1
theorem dX3_takeDigits_23 : decode cX3_takeDigits 23 = .ok (.invokestatic 203, 3) := dAX3_takeDigits_1.2.2.2.2.2.1
theorem dX3_takeDigits_26 : decode cX3_takeDigits 26 = .ok (.ifCond .eq 29, 3) := dAX3_takeDigits_1.2.2.2.2.2.2.1
theorem dX3_takeDigits_29 : decode cX3_takeDigits 29 = .ok (.aload_n 0, 1) := dAX3_takeDigits_1.2.2.2.2.2.2.2
set_option maxRecDepth 100000 in
theorem dAX3_takeDigits_2 : decode cX3_takeDigits 30 = .ok (.aload_n 0, 1) ∧ decode cX3_takeDigits 31 = .ok (.getfield 132, 3) ∧ decode cX3_takeDigits 34 = .ok (.bipush 10, 2) ∧ decode cX3_takeDigits 36 = .ok (.imul, 1) ∧ decode cX3_takeDigits 37 = .ok (.aload_n 0, 1) ∧ decode cX3_takeDigits 38 = .ok (.iload_n 1, 1) ∧ decode cX3_takeDigits 39 = .ok (.invokevirtual 193, 3) ∧ decode cX3_takeDigits 42 = .ok (.bipush 48, 2) := by decide +kernel
theorem dX3_takeDigits_30 : decode cX3_takeDigits 30 = .ok (.aload_n 0, 1) := dAX3_takeDigits_2.1
theorem dX3_takeDigits_31 : decode cX3_takeDigits 31 = .ok (.getfield 132, 3) := dAX3_takeDigits_2.2.1
theorem dX3_takeDigits_34 : decode cX3_takeDigits 34 = .ok (.bipush 10, 2) := dAX3_takeDigits_2.2.2.1
theorem dX3_takeDigits_36 : decode cX3_takeDigits 36 = .ok (.imul, 1) := dAX3_takeDigits_2.2.2.2.1
theorem dX3_takeDigits_37 : decode cX3_takeDigits 37 = .ok (.aload_n 0, 1) := dAX3_takeDigits_2.2.2.2.2.1
theorem dX3_takeDigits_38 : decode cX3_takeDigits 38 = .ok (.iload_n 1, 1) := dAX3_takeDigits_2.2.2.2.2.2.1
theorem dX3_takeDigits_39 : decode cX3_takeDigits 39 = .ok (.invokevirtual 193, 3) := dAX3_takeDigits_2.2.2.2.2.2.2.1
theorem dX3_takeDigits_42 : decode cX3_takeDigits 42 = .ok (.bipush 48, 2) := dAX3_takeDigits_2.2.2.2.2.2.2.2
set_option maxRecDepth 100000 in
theorem dAX3_takeDigits_3 : decode cX3_takeDigits 44 = .ok (.isub, 1) ∧ decode cX3_takeDigits 45 = .ok (.iadd, 1) ∧ decode cX3_takeDigits 46 = .ok (.putfield 132, 3) ∧ decode cX3_takeDigits 49 = .ok (.iinc 1 1, 3) ∧ decode cX3_takeDigits 52 = .ok (.goto (-42), 3) ∧ decode cX3_takeDigits 55 = .ok (.aload_n 0, 1) ∧ decode cX3_takeDigits 56 = .ok (.iload_n 1, 1) ∧ decode cX3_takeDigits 57 = .ok (.putfield 72, 3) := by decide +kernel
theorem dX3_takeDigits_44 : decode cX3_takeDigits 44 = .ok (.isub, 1) := dAX3_takeDigits_3.1
theorem dX3_takeDigits_45 : decode cX3_takeDigits 45 = .ok (.iadd, 1) := dAX3_takeDigits_3.2.1
theorem dX3_takeDigits_46 : decode cX3_takeDigits 46 = .ok (.putfield 132, 3) := dAX3_takeDigits_3.2.2.1
theorem dX3_takeDigits_49 : decode cX3_takeDigits 49 = .ok (.iinc 1 1, 3) := dAX3_takeDigits_3.2.2.2.1
theorem dX3_takeDigits_52 : decode cX3_takeDigits 52 = .ok (.goto (-42), 3) := dAX3_takeDigits_3.2.2.2.2.1
theorem dX3_takeDigits_55 : decode cX3_takeDigits 55 = .ok (.aload_n 0, 1) := dAX3_takeDigits_3.2.2.2.2.2.1
theorem dX3_takeDigits_56 : decode cX3_takeDigits 56 = .ok (.iload_n 1, 1) := dAX3_takeDigits_3.2.2.2.2.2.2.1
theorem dX3_takeDigits_57 : decode cX3_takeDigits 57 = .ok (.putfield 72, 3) := dAX3_takeDigits_3.2.2.2.2.2.2.2
set_option maxRecDepth 100000 in
theorem dAX3_takeDigits_4 : decode cX3_takeDigits 60 = .ok (.aload_n 0, 1) ∧ decode cX3_takeDigits 61 = .ok (.iload_n 1, 1) ∧ decode cX3_takeDigits 62 = .ok (.aload_n 0, 1) ∧ decode cX3_takeDigits 63 = .ok (.getfield 101, 3) ∧ decode cX3_takeDigits 66 = .ok (.isub, 1) ∧ decode cX3_takeDigits 67 = .ok (.iconst 3, 1) ∧ decode cX3_takeDigits 68 = .ok (.if_icmp .gt 7, 3) ∧ decode cX3_takeDigits 71 = .ok (.iconst 2, 1) := by decide +kernel
theorem dX3_takeDigits_60 : decode cX3_takeDigits 60 = .ok (.aload_n 0, 1) := dAX3_takeDigits_4.1
theorem dX3_takeDigits_61 : decode cX3_takeDigits 61 = .ok (.iload_n 1, 1) := dAX3_takeDigits_4.2.1
theorem dX3_takeDigits_62 : decode cX3_takeDigits 62 = .ok (.aload_n 0, 1) := dAX3_takeDigits_4.2.2.1
theorem dX3_takeDigits_63 : decode cX3_takeDigits 63 = .ok (.getfield 101, 3) := dAX3_takeDigits_4.2.2.2.1
theorem dX3_takeDigits_66 : decode cX3_takeDigits 66 = .ok (.isub, 1) := dAX3_takeDigits_4.2.2.2.2.1
theorem dX3_takeDigits_67 : decode cX3_takeDigits 67 = .ok (.iconst 3, 1) := dAX3_takeDigits_4.2.2.2.2.2.1
theorem dX3_takeDigits_68 : decode cX3_takeDigits 68 = .ok (.if_icmp .gt 7, 3) := dAX3_takeDigits_4.2.2.2.2.2.2.1
theorem dX3_takeDigits_71 : decode cX3_takeDigits 71 = .ok (.iconst 2, 1) := dAX3_takeDigits_4.2.2.2.2.2.2.2
set_option maxRecDepth 100000 in
theorem dAX3_takeDigits_5 : decode cX3_takeDigits 72 = .ok (.goto 4, 3) ∧ decode cX3_takeDigits 75 = .ok (.iconst 5, 1) ∧ decode cX3_takeDigits 76 = .ok (.putfield 82, 3) ∧ decode cX3_takeDigits 79 = .ok (.return_, 1) := by decide +kernel
theorem dX3_takeDigits_72 : decode cX3_takeDigits 72 = .ok (.goto 4, 3) := dAX3_takeDigits_5.1
theorem dX3_takeDigits_75 : decode cX3_takeDigits 75 = .ok (.iconst 5, 1) := dAX3_takeDigits_5.2.1
theorem dX3_takeDigits_76 : decode cX3_takeDigits 76 = .ok (.putfield 82, 3) := dAX3_takeDigits_5.2.2.1
theorem dX3_takeDigits_79 : decode cX3_takeDigits 79 = .ok (.return_, 1) := dAX3_takeDigits_5.2.2.2
set_option maxRecDepth 100000 in
theorem dAX3_takeLetters_0 : decode cX3_takeLetters 0 = .ok (.aload_n 0, 1) ∧ decode cX3_takeLetters 1 = .ok (.getfield 101, 3) ∧ decode cX3_takeLetters 4 = .ok (.istore_n 1, 1) ∧ decode cX3_takeLetters 5 = .ok (.aload_n 0, 1) ∧ decode cX3_takeLetters 6 = .ok (.lconst 0, 1) ∧ decode cX3_takeLetters 7 = .ok (.putfield 147, 3) ∧ decode cX3_takeLetters 10 = .ok (.iload_n 1, 1) ∧ decode cX3_takeLetters 11 = .ok (.aload_n 0, 1) := by decide +kernel
theorem dX3_takeLetters_0 : decode cX3_takeLetters 0 = .ok (.aload_n 0, 1) := dAX3_takeLetters_0.1
theorem dX3_takeLetters_1 : decode cX3_takeLetters 1 = .ok (.getfield 101, 3) := dAX3_takeLetters_0.2.1
theorem dX3_takeLetters_4 : decode cX3_takeLetters 4 = .ok (.istore_n 1, 1) := dAX3_takeLetters_0.2.2.1
theorem dX3_takeLetters_5 : decode cX3_takeLetters 5 = .ok (.aload_n 0, 1) := dAX3_takeLetters_0.2.2.2.1
theorem dX3_takeLetters_6 : decode cX3_takeLetters 6 = .ok (.lconst 0, 1) := dAX3_takeLetters_0.2.2.2.2.1
theorem dX3_takeLetters_7 : decode cX3_takeLetters 7 = .ok (.putfield 147, 3) := dAX3_takeLetters_0.2.2.2.2.2.1
theorem dX3_takeLetters_10 : decode cX3_takeLetters 10 = .ok (.iload_n 1, 1) := dAX3_takeLetters_0.2.2.2.2.2.2.1
theorem dX3_takeLetters_11 : decode cX3_takeLetters 11 = .ok (.aload_n 0, 1) := dAX3_takeLetters_0.2.2.2.2.2.2.2
set_option maxRecDepth 100000 in
theorem dAX3_takeLetters_1 : decode cX3_takeLetters 12 = .ok (.getfield 56, 3) ∧ decode cX3_takeLetters 15 = .ok (.if_icmp .ge 36, 3) ∧ decode cX3_takeLetters 18 = .ok (.aload_n 0, 1) ∧ decode cX3_takeLetters 19 = .ok (.iload_n 1, 1) ∧ decode cX3_takeLetters 20 = .ok (.invokevirtual 193, 3) ∧ decode cX3_takeLetters 23 = .ok (.invokestatic 197, 3) ∧ decode cX3_takeLetters 26 = .ok (.ifCond .eq 25, 3) ∧ decode cX3_takeLetters 29 = .ok (.aload_n 0, 1) := by decide +kernel
theorem dX3_takeLetters_12 : decode cX3_takeLetters 12 = .ok (.getfield 56, 3) := dAX3_takeLetters_1.1
theorem dX3_takeLetters_15 : decode cX3_takeLetters 15 = .ok (.if_icmp .ge 36, 3) := dAX3_takeLetters_1.2.1
theorem dX3_takeLetters_18 : decode cX3_takeLetters 18 = .ok (.aload_n 0, 1) := dAX3_takeLetters_1.2.2.1
theorem dX3_takeLetters_19 : decode cX3_takeLetters 19 = .ok (.iload_n 1, 1) := dAX3_takeLetters_1.2.2.2.1
theorem dX3_takeLetters_20 : decode cX3_takeLetters 20 = .ok (.invokevirtual 193, 3) := dAX3_takeLetters_1.2.2.2.2.1
theorem dX3_takeLetters_23 : decode cX3_takeLetters 23 = .ok (.invokestatic 197, 3) := dAX3_takeLetters_1.2.2.2.2.2.1
theorem dX3_takeLetters_26 : decode cX3_takeLetters 26 = .ok (.ifCond .eq 25, 3) := dAX3_takeLetters_1.2.2.2.2.2.2.1
theorem dX3_takeLetters_29 : decode cX3_takeLetters 29 = .ok (.aload_n 0, 1) := dAX3_takeLetters_1.2.2.2.2.2.2.2
set_option maxRecDepth 100000 in
theorem dAX3_takeLetters_2 : decode cX3_takeLetters 30 = .ok (.aload_n 0, 1) ∧ decode cX3_takeLetters 31 = .ok (.getfield 147, 3) ∧ decode cX3_takeLetters 34 = .ok (.aload_n 0, 1) ∧ decode cX3_takeLetters 35 = .ok (.iload_n 1, 1) ∧ decode cX3_takeLetters 36 = .ok (.invokevirtual 193, 3) ∧ decode cX3_takeLetters 39 = .ok (.invokestatic 209, 3) ∧ decode cX3_takeLetters 42 = .ok (.putfield 147, 3) ∧ decode cX3_takeLetters 45 = .ok (.iinc 1 1, 3) := by decide +kernel
theorem dX3_takeLetters_30 : decode cX3_takeLetters 30 = .ok (.aload_n 0, 1) := dAX3_takeLetters_2.1
theorem dX3_takeLetters_31 : decode cX3_takeLetters 31 = .ok (.getfield 147, 3) := dAX3_takeLetters_2.2.1
theorem dX3_takeLetters_34 : decode cX3_takeLetters 34 = .ok (.aload_n 0, 1) := dAX3_takeLetters_2.2.2.1
theorem dX3_takeLetters_35 : decode cX3_takeLetters 35 = .ok (.iload_n 1, 1) := dAX3_takeLetters_2.2.2.2.1
theorem dX3_takeLetters_36 : decode cX3_takeLetters 36 = .ok (.invokevirtual 193, 3) := dAX3_takeLetters_2.2.2.2.2.1
theorem dX3_takeLetters_39 : decode cX3_takeLetters 39 = .ok (.invokestatic 209, 3) := dAX3_takeLetters_2.2.2.2.2.2.1
theorem dX3_takeLetters_42 : decode cX3_takeLetters 42 = .ok (.putfield 147, 3) := dAX3_takeLetters_2.2.2.2.2.2.2.1
theorem dX3_takeLetters_45 : decode cX3_takeLetters 45 = .ok (.iinc 1 1, 3) := dAX3_takeLetters_2.2.2.2.2.2.2.2
set_option maxRecDepth 100000 in
theorem dAX3_takeLetters_3 : decode cX3_takeLetters 48 = .ok (.goto (-38), 3) ∧ decode cX3_takeLetters 51 = .ok (.aload_n 0, 1) ∧ decode cX3_takeLetters 52 = .ok (.iload_n 1, 1) ∧ decode cX3_takeLetters 53 = .ok (.putfield 72, 3) ∧ decode cX3_takeLetters 56 = .ok (.aload_n 0, 1) ∧ decode cX3_takeLetters 57 = .ok (.iload_n 1, 1) ∧ decode cX3_takeLetters 58 = .ok (.aload_n 0, 1) ∧ decode cX3_takeLetters 59 = .ok (.getfield 101, 3) := by decide +kernel
theorem dX3_takeLetters_48 : decode cX3_takeLetters 48 = .ok (.goto (-38), 3) := dAX3_takeLetters_3.1
theorem dX3_takeLetters_51 : decode cX3_takeLetters 51 = .ok (.aload_n 0, 1) := dAX3_takeLetters_3.2.1
theorem dX3_takeLetters_52 : decode cX3_takeLetters 52 = .ok (.iload_n 1, 1) := dAX3_takeLetters_3.2.2.1
theorem dX3_takeLetters_53 : decode cX3_takeLetters 53 = .ok (.putfield 72, 3) := dAX3_takeLetters_3.2.2.2.1
theorem dX3_takeLetters_56 : decode cX3_takeLetters 56 = .ok (.aload_n 0, 1) := dAX3_takeLetters_3.2.2.2.2.1
theorem dX3_takeLetters_57 : decode cX3_takeLetters 57 = .ok (.iload_n 1, 1) := dAX3_takeLetters_3.2.2.2.2.2.1
theorem dX3_takeLetters_58 : decode cX3_takeLetters 58 = .ok (.aload_n 0, 1) := dAX3_takeLetters_3.2.2.2.2.2.2.1
theorem dX3_takeLetters_59 : decode cX3_takeLetters 59 = .ok (.getfield 101, 3) := dAX3_takeLetters_3.2.2.2.2.2.2.2
set_option maxRecDepth 100000 in
theorem dAX3_takeLetters_4 : decode cX3_takeLetters 62 = .ok (.isub, 1) ∧ decode cX3_takeLetters 63 = .ok (.bipush 8, 2) ∧ decode cX3_takeLetters 65 = .ok (.if_icmp .gt 7, 3) ∧ decode cX3_takeLetters 68 = .ok (.iconst 1, 1) ∧ decode cX3_takeLetters 69 = .ok (.goto 4, 3) ∧ decode cX3_takeLetters 72 = .ok (.iconst 5, 1) ∧ decode cX3_takeLetters 73 = .ok (.putfield 82, 3) ∧ decode cX3_takeLetters 76 = .ok (.iconst 0, 1) := by decide +kernel
theorem dX3_takeLetters_62 : decode cX3_takeLetters 62 = .ok (.isub, 1) := dAX3_takeLetters_4.1
theorem dX3_takeLetters_63 : decode cX3_takeLetters 63 = .ok (.bipush 8, 2) := dAX3_takeLetters_4.2.1
theorem dX3_takeLetters_65 : decode cX3_takeLetters 65 = .ok (.if_icmp .gt 7, 3) := dAX3_takeLetters_4.2.2.1
theorem dX3_takeLetters_68 : decode cX3_takeLetters 68 = .ok (.iconst 1, 1) := dAX3_takeLetters_4.2.2.2.1
theorem dX3_takeLetters_69 : decode cX3_takeLetters 69 = .ok (.goto 4, 3) := dAX3_takeLetters_4.2.2.2.2.1
theorem dX3_takeLetters_72 : decode cX3_takeLetters 72 = .ok (.iconst 5, 1) := dAX3_takeLetters_4.2.2.2.2.2.1
theorem dX3_takeLetters_73 : decode cX3_takeLetters 73 = .ok (.putfield 82, 3) := dAX3_takeLetters_4.2.2.2.2.2.2.1
theorem dX3_takeLetters_76 : decode cX3_takeLetters 76 = .ok (.iconst 0, 1) := dAX3_takeLetters_4.2.2.2.2.2.2.2
set_option maxRecDepth 100000 in
theorem dAX3_takeLetters_5 : decode cX3_takeLetters 77 = .ok (.istore_n 2, 1) ∧ decode cX3_takeLetters 78 = .ok (.iload_n 2, 1) ∧ decode cX3_takeLetters 79 = .ok (.bipush 10, 2) ∧ decode cX3_takeLetters 81 = .ok (.if_icmp .ge 36, 3) ∧ decode cX3_takeLetters 84 = .ok (.aload_n 0, 1) ∧ decode cX3_takeLetters 85 = .ok (.getfield 82, 3) ∧ decode cX3_takeLetters 88 = .ok (.iconst 1, 1) ∧ decode cX3_takeLetters 89 = .ok (.if_icmp .ne 28, 3) := by decide +kernel
theorem dX3_takeLetters_77 : decode cX3_takeLetters 77 = .ok (.istore_n 2, 1) := dAX3_takeLetters_5.1
theorem dX3_takeLetters_78 : decode cX3_takeLetters 78 = .ok (.iload_n 2, 1) := dAX3_takeLetters_5.2.1
theorem dX3_takeLetters_79 : decode cX3_takeLetters 79 = .ok (.bipush 10, 2) := dAX3_takeLetters_5.2.2.1
theorem dX3_takeLetters_81 : decode cX3_takeLetters 81 = .ok (.if_icmp .ge 36, 3) := dAX3_takeLetters_5.2.2.2.1
theorem dX3_takeLetters_84 : decode cX3_takeLetters 84 = .ok (.aload_n 0, 1) := dAX3_takeLetters_5.2.2.2.2.1
theorem dX3_takeLetters_85 : decode cX3_takeLetters 85 = .ok (.getfield 82, 3) := dAX3_takeLetters_5.2.2.2.2.2.1
theorem dX3_takeLetters_88 : decode cX3_takeLetters 88 = .ok (.iconst 1, 1) := dAX3_takeLetters_5.2.2.2.2.2.2.1
theorem dX3_takeLetters_89 : decode cX3_takeLetters 89 = .ok (.if_icmp .ne 28, 3) := dAX3_takeLetters_5.2.2.2.2.2.2.2
set_option maxRecDepth 100000 in
theorem dAX3_takeLetters_6 : decode cX3_takeLetters 92 = .ok (.aload_n 0, 1) ∧ decode cX3_takeLetters 93 = .ok (.getfield 26, 3) ∧ decode cX3_takeLetters 96 = .ok (.iload_n 2, 1) ∧ decode cX3_takeLetters 97 = .ok (.laload, 1) ∧ decode cX3_takeLetters 98 = .ok (.aload_n 0, 1) ∧ decode cX3_takeLetters 99 = .ok (.getfield 147, 3) ∧ decode cX3_takeLetters 102 = .ok (.lcmp, 1) ∧ decode cX3_takeLetters 103 = .ok (.ifCond .ne 8, 3) := by decide +kernel
theorem dX3_takeLetters_92 : decode cX3_takeLetters 92 = .ok (.aload_n 0, 1) := dAX3_takeLetters_6.1
theorem dX3_takeLetters_93 : decode cX3_takeLetters 93 = .ok (.getfield 26, 3) := dAX3_takeLetters_6.2.1
theorem dX3_takeLetters_96 : decode cX3_takeLetters 96 = .ok (.iload_n 2, 1) := dAX3_takeLetters_6.2.2.1
theorem dX3_takeLetters_97 : decode cX3_takeLetters 97 = .ok (.laload, 1) := dAX3_takeLetters_6.2.2.2.1
theorem dX3_takeLetters_98 : decode cX3_takeLetters 98 = .ok (.aload_n 0, 1) := dAX3_takeLetters_6.2.2.2.2.1
theorem dX3_takeLetters_99 : decode cX3_takeLetters 99 = .ok (.getfield 147, 3) := dAX3_takeLetters_6.2.2.2.2.2.1
theorem dX3_takeLetters_102 : decode cX3_takeLetters 102 = .ok (.lcmp, 1) := dAX3_takeLetters_6.2.2.2.2.2.2.1
theorem dX3_takeLetters_103 : decode cX3_takeLetters 103 = .ok (.ifCond .ne 8, 3) := dAX3_takeLetters_6.2.2.2.2.2.2.2
set_option maxRecDepth 100000 in
theorem dAX3_takeLetters_7 : decode cX3_takeLetters 106 = .ok (.aload_n 0, 1) ∧ decode cX3_takeLetters 107 = .ok (.iload_n 2, 1) ∧ decode cX3_takeLetters 108 = .ok (.putfield 107, 3) ∧ decode cX3_takeLetters 111 = .ok (.iinc 2 1, 3) ∧ decode cX3_takeLetters 114 = .ok (.goto (-36), 3) ∧ decode cX3_takeLetters 117 = .ok (.return_, 1) := by decide +kernel
theorem dX3_takeLetters_106 : decode cX3_takeLetters 106 = .ok (.aload_n 0, 1) := dAX3_takeLetters_7.1
theorem dX3_takeLetters_107 : decode cX3_takeLetters 107 = .ok (.iload_n 2, 1) := dAX3_takeLetters_7.2.1
theorem dX3_takeLetters_108 : decode cX3_takeLetters 108 = .ok (.putfield 107, 3) := dAX3_takeLetters_7.2.2.1
theorem dX3_takeLetters_111 : decode cX3_takeLetters 111 = .ok (.iinc 2 1, 3) := dAX3_takeLetters_7.2.2.2.1
theorem dX3_takeLetters_114 : decode cX3_takeLetters 114 = .ok (.goto (-36), 3) := dAX3_takeLetters_7.2.2.2.2.1
theorem dX3_takeLetters_117 : decode cX3_takeLetters 117 = .ok (.return_, 1) := dAX3_takeLetters_7.2.2.2.2.2
set_option maxRecDepth 100000 in
theorem dAX3_toldNode_0 : decode cX3_toldNode 0 = .ok (.iconst 0, 1) ∧ decode cX3_toldNode 1 = .ok (.istore_n 1, 1) ∧ decode cX3_toldNode 2 = .ok (.iload_n 1, 1) ∧ decode cX3_toldNode 3 = .ok (.aload_n 0, 1) ∧ decode cX3_toldNode 4 = .ok (.getfield 18, 3) ∧ decode cX3_toldNode 7 = .ok (.getfield 98, 3) ∧ decode cX3_toldNode 10 = .ok (.if_icmp .ge 25, 3) ∧ decode cX3_toldNode 13 = .ok (.aload_n 0, 1) := by decide +kernel
theorem dX3_toldNode_0 : decode cX3_toldNode 0 = .ok (.iconst 0, 1) := dAX3_toldNode_0.1
theorem dX3_toldNode_1 : decode cX3_toldNode 1 = .ok (.istore_n 1, 1) := dAX3_toldNode_0.2.1
theorem dX3_toldNode_2 : decode cX3_toldNode 2 = .ok (.iload_n 1, 1) := dAX3_toldNode_0.2.2.1
theorem dX3_toldNode_3 : decode cX3_toldNode 3 = .ok (.aload_n 0, 1) := dAX3_toldNode_0.2.2.2.1
theorem dX3_toldNode_4 : decode cX3_toldNode 4 = .ok (.getfield 18, 3) := dAX3_toldNode_0.2.2.2.2.1
theorem dX3_toldNode_7 : decode cX3_toldNode 7 = .ok (.getfield 98, 3) := dAX3_toldNode_0.2.2.2.2.2.1
theorem dX3_toldNode_10 : decode cX3_toldNode 10 = .ok (.if_icmp .ge 25, 3) := dAX3_toldNode_0.2.2.2.2.2.2.1
theorem dX3_toldNode_13 : decode cX3_toldNode 13 = .ok (.aload_n 0, 1) := dAX3_toldNode_0.2.2.2.2.2.2.2
set_option maxRecDepth 100000 in
theorem dAX3_toldNode_1 : decode cX3_toldNode 14 = .ok (.getfield 22, 3) ∧ decode cX3_toldNode 17 = .ok (.iload_n 1, 1) ∧ decode cX3_toldNode 18 = .ok (.laload, 1) ∧ decode cX3_toldNode 19 = .ok (.aload_n 0, 1) ∧ decode cX3_toldNode 20 = .ok (.getfield 147, 3) ∧ decode cX3_toldNode 23 = .ok (.lcmp, 1) ∧ decode cX3_toldNode 24 = .ok (.ifCond .ne 5, 3) ∧ decode cX3_toldNode 27 = .ok (.iload_n 1, 1) := by decide +kernel
theorem dX3_toldNode_14 : decode cX3_toldNode 14 = .ok (.getfield 22, 3) := dAX3_toldNode_1.1
theorem dX3_toldNode_17 : decode cX3_toldNode 17 = .ok (.iload_n 1, 1) := dAX3_toldNode_1.2.1
theorem dX3_toldNode_18 : decode cX3_toldNode 18 = .ok (.laload, 1) := dAX3_toldNode_1.2.2.1
theorem dX3_toldNode_19 : decode cX3_toldNode 19 = .ok (.aload_n 0, 1) := dAX3_toldNode_1.2.2.2.1
theorem dX3_toldNode_20 : decode cX3_toldNode 20 = .ok (.getfield 147, 3) := dAX3_toldNode_1.2.2.2.2.1
theorem dX3_toldNode_23 : decode cX3_toldNode 23 = .ok (.lcmp, 1) := dAX3_toldNode_1.2.2.2.2.2.1
theorem dX3_toldNode_24 : decode cX3_toldNode 24 = .ok (.ifCond .ne 5, 3) := dAX3_toldNode_1.2.2.2.2.2.2.1
theorem dX3_toldNode_27 : decode cX3_toldNode 27 = .ok (.iload_n 1, 1) := dAX3_toldNode_1.2.2.2.2.2.2.2
set_option maxRecDepth 100000 in
theorem dAX3_toldNode_2 : decode cX3_toldNode 28 = .ok (.ireturn, 1) ∧ decode cX3_toldNode 29 = .ok (.iinc 1 1, 3) ∧ decode cX3_toldNode 32 = .ok (.goto (-30), 3) ∧ decode cX3_toldNode 35 = .ok (.iconst (-1), 1) ∧ decode cX3_toldNode 36 = .ok (.ireturn, 1) := by decide +kernel
theorem dX3_toldNode_28 : decode cX3_toldNode 28 = .ok (.ireturn, 1) := dAX3_toldNode_2.1
theorem dX3_toldNode_29 : decode cX3_toldNode 29 = .ok (.iinc 1 1, 3) := dAX3_toldNode_2.2.1
theorem dX3_toldNode_32 : decode cX3_toldNode 32 = .ok (.goto (-30), 3) := dAX3_toldNode_2.2.2.1
theorem dX3_toldNode_35 : decode cX3_toldNode 35 = .ok (.iconst (-1), 1) := dAX3_toldNode_2.2.2.2.1
theorem dX3_toldNode_36 : decode cX3_toldNode 36 = .ok (.ireturn, 1) := dAX3_toldNode_2.2.2.2.2
set_option maxRecDepth 100000 in
theorem dAX3_withLetter_0 : decode cX3_withLetter 0 = .ok (.lload_n 0, 1) ∧ decode cX3_withLetter 1 = .ok (.ldc2_w 213, 3) ∧ decode cX3_withLetter 4 = .ok (.lmul, 1) ∧ decode cX3_withLetter 5 = .ok (.iload_n 2, 1) ∧ decode cX3_withLetter 6 = .ok (.bipush 97, 2) ∧ decode cX3_withLetter 8 = .ok (.isub, 1) ∧ decode cX3_withLetter 9 = .ok (.iconst 1, 1) ∧ decode cX3_withLetter 10 = .ok (.iadd, 1) := by decide +kernel
theorem dX3_withLetter_0 : decode cX3_withLetter 0 = .ok (.lload_n 0, 1) := dAX3_withLetter_0.1
theorem dX3_withLetter_1 : decode cX3_withLetter 1 = .ok (.ldc2_w 213, 3) := dAX3_withLetter_0.2.1
theorem dX3_withLetter_4 : decode cX3_withLetter 4 = .ok (.lmul, 1) := dAX3_withLetter_0.2.2.1
theorem dX3_withLetter_5 : decode cX3_withLetter 5 = .ok (.iload_n 2, 1) := dAX3_withLetter_0.2.2.2.1
theorem dX3_withLetter_6 : decode cX3_withLetter 6 = .ok (.bipush 97, 2) := dAX3_withLetter_0.2.2.2.2.1
theorem dX3_withLetter_8 : decode cX3_withLetter 8 = .ok (.isub, 1) := dAX3_withLetter_0.2.2.2.2.2.1
theorem dX3_withLetter_9 : decode cX3_withLetter 9 = .ok (.iconst 1, 1) := dAX3_withLetter_0.2.2.2.2.2.2.1
theorem dX3_withLetter_10 : decode cX3_withLetter 10 = .ok (.iadd, 1) := dAX3_withLetter_0.2.2.2.2.2.2.2
set_option maxRecDepth 100000 in
theorem dAX3_withLetter_1 : decode cX3_withLetter 11 = .ok (.i2l, 1) ∧ decode cX3_withLetter 12 = .ok (.ladd, 1) ∧ decode cX3_withLetter 13 = .ok (.lreturn, 1) := by decide +kernel
theorem dX3_withLetter_11 : decode cX3_withLetter 11 = .ok (.i2l, 1) := dAX3_withLetter_1.1
theorem dX3_withLetter_12 : decode cX3_withLetter 12 = .ok (.ladd, 1) := dAX3_withLetter_1.2.1
theorem dX3_withLetter_13 : decode cX3_withLetter 13 = .ok (.lreturn, 1) := dAX3_withLetter_1.2.2
