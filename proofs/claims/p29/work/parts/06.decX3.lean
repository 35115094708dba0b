noncomputable def sX3_byteAt_21 : List UInt8 := 172 :: []
noncomputable def sX3_byteAt_20 : List UInt8 := 3 :: sX3_byteAt_21
noncomputable def sX3_byteAt_17 : List UInt8 := 167 :: 0 :: 4 :: sX3_byteAt_20
noncomputable def sX3_byteAt_16 : List UInt8 := 51 :: sX3_byteAt_17
noncomputable def sX3_byteAt_15 : List UInt8 := 27 :: sX3_byteAt_16
noncomputable def sX3_byteAt_12 : List UInt8 := 180 :: 0 :: 9 :: sX3_byteAt_15
noncomputable def sX3_byteAt_11 : List UInt8 := 42 :: sX3_byteAt_12
noncomputable def sX3_byteAt_8 : List UInt8 := 162 :: 0 :: 12 :: sX3_byteAt_11
noncomputable def sX3_byteAt_5 : List UInt8 := 17 :: 3 :: 132 :: sX3_byteAt_8
noncomputable def sX3_byteAt_4 : List UInt8 := 27 :: sX3_byteAt_5
noncomputable def sX3_byteAt_1 : List UInt8 := 155 :: 0 :: 19 :: sX3_byteAt_4
noncomputable def sX3_byteAt_0 : List UInt8 := 27 :: sX3_byteAt_1
set_option maxRecDepth 100000 in
theorem hX3_byteAt_0 : cX3_byteAt.data.toList.drop 0 = sX3_byteAt_0 := by decide +kernel
theorem dX3_byteAt_0 : decode cX3_byteAt 0 = .ok (.iload_n 1, 1) := dk27 hX3_byteAt_0
theorem hX3_byteAt_1 : cX3_byteAt.data.toList.drop 1 = sX3_byteAt_1 := dn1 hX3_byteAt_0
theorem dX3_byteAt_1 : decode cX3_byteAt 1 = .ok (.ifCond .lt 19, 3) := dk155 hX3_byteAt_1 (by decide)
theorem hX3_byteAt_4 : cX3_byteAt.data.toList.drop 4 = sX3_byteAt_4 := dn3 hX3_byteAt_1
theorem dX3_byteAt_4 : decode cX3_byteAt 4 = .ok (.iload_n 1, 1) := dk27 hX3_byteAt_4
theorem hX3_byteAt_5 : cX3_byteAt.data.toList.drop 5 = sX3_byteAt_5 := dn1 hX3_byteAt_4
theorem dX3_byteAt_5 : decode cX3_byteAt 5 = .ok (.sipush 900, 3) := dk17 hX3_byteAt_5 (by decide)
theorem hX3_byteAt_8 : cX3_byteAt.data.toList.drop 8 = sX3_byteAt_8 := dn3 hX3_byteAt_5
theorem dX3_byteAt_8 : decode cX3_byteAt 8 = .ok (.if_icmp .ge 12, 3) := dk162 hX3_byteAt_8 (by decide)
theorem hX3_byteAt_11 : cX3_byteAt.data.toList.drop 11 = sX3_byteAt_11 := dn3 hX3_byteAt_8
theorem dX3_byteAt_11 : decode cX3_byteAt 11 = .ok (.aload_n 0, 1) := dk42 hX3_byteAt_11
theorem hX3_byteAt_12 : cX3_byteAt.data.toList.drop 12 = sX3_byteAt_12 := dn1 hX3_byteAt_11
theorem dX3_byteAt_12 : decode cX3_byteAt 12 = .ok (.getfield 9, 3) := dk180 hX3_byteAt_12 rfl
theorem hX3_byteAt_15 : cX3_byteAt.data.toList.drop 15 = sX3_byteAt_15 := dn3 hX3_byteAt_12
theorem dX3_byteAt_15 : decode cX3_byteAt 15 = .ok (.iload_n 1, 1) := dk27 hX3_byteAt_15
theorem hX3_byteAt_16 : cX3_byteAt.data.toList.drop 16 = sX3_byteAt_16 := dn1 hX3_byteAt_15
theorem dX3_byteAt_16 : decode cX3_byteAt 16 = .ok (.baload, 1) := dk51 hX3_byteAt_16
theorem hX3_byteAt_17 : cX3_byteAt.data.toList.drop 17 = sX3_byteAt_17 := dn1 hX3_byteAt_16
theorem dX3_byteAt_17 : decode cX3_byteAt 17 = .ok (.goto 4, 3) := dk167 hX3_byteAt_17 (by decide)
theorem hX3_byteAt_20 : cX3_byteAt.data.toList.drop 20 = sX3_byteAt_20 := dn3 hX3_byteAt_17
theorem dX3_byteAt_20 : decode cX3_byteAt 20 = .ok (.iconst 0, 1) := dk3 hX3_byteAt_20
theorem hX3_byteAt_21 : cX3_byteAt.data.toList.drop 21 = sX3_byteAt_21 := dn1 hX3_byteAt_20
theorem dX3_byteAt_21 : decode cX3_byteAt 21 = .ok (.ireturn, 1) := dk172 hX3_byteAt_21
noncomputable def sX3_endNode_33 : List UInt8 := 177 :: []
noncomputable def sX3_endNode_30 : List UInt8 := 182 :: 0 :: 191 :: sX3_endNode_33
noncomputable def sX3_endNode_29 : List UInt8 := 29 :: sX3_endNode_30
noncomputable def sX3_endNode_26 : List UInt8 := 180 :: 0 :: 18 :: sX3_endNode_29
noncomputable def sX3_endNode_25 : List UInt8 := 42 :: sX3_endNode_26
noncomputable def sX3_endNode_24 : List UInt8 := 80 :: sX3_endNode_25
noncomputable def sX3_endNode_23 : List UInt8 := 31 :: sX3_endNode_24
noncomputable def sX3_endNode_20 : List UInt8 := 180 :: 0 :: 98 :: sX3_endNode_23
noncomputable def sX3_endNode_17 : List UInt8 := 180 :: 0 :: 18 :: sX3_endNode_20
noncomputable def sX3_endNode_16 : List UInt8 := 42 :: sX3_endNode_17
noncomputable def sX3_endNode_13 : List UInt8 := 180 :: 0 :: 22 :: sX3_endNode_16
noncomputable def sX3_endNode_12 : List UInt8 := 42 :: sX3_endNode_13
noncomputable def sX3_endNode_9 : List UInt8 := 162 :: 0 :: 16 :: sX3_endNode_12
noncomputable def sX3_endNode_7 : List UInt8 := 16 :: 18 :: sX3_endNode_9
noncomputable def sX3_endNode_4 : List UInt8 := 180 :: 0 :: 98 :: sX3_endNode_7
noncomputable def sX3_endNode_1 : List UInt8 := 180 :: 0 :: 18 :: sX3_endNode_4
noncomputable def sX3_endNode_0 : List UInt8 := 42 :: sX3_endNode_1
set_option maxRecDepth 100000 in
theorem hX3_endNode_0 : cX3_endNode.data.toList.drop 0 = sX3_endNode_0 := by decide +kernel
theorem dX3_endNode_0 : decode cX3_endNode 0 = .ok (.aload_n 0, 1) := dk42 hX3_endNode_0
theorem hX3_endNode_1 : cX3_endNode.data.toList.drop 1 = sX3_endNode_1 := dn1 hX3_endNode_0
theorem dX3_endNode_1 : decode cX3_endNode 1 = .ok (.getfield 18, 3) := dk180 hX3_endNode_1 rfl
theorem hX3_endNode_4 : cX3_endNode.data.toList.drop 4 = sX3_endNode_4 := dn3 hX3_endNode_1
theorem dX3_endNode_4 : decode cX3_endNode 4 = .ok (.getfield 98, 3) := dk180 hX3_endNode_4 rfl
theorem hX3_endNode_7 : cX3_endNode.data.toList.drop 7 = sX3_endNode_7 := dn3 hX3_endNode_4
theorem dX3_endNode_7 : decode cX3_endNode 7 = .ok (.bipush 18, 2) := dk16 hX3_endNode_7 (by decide)
theorem hX3_endNode_9 : cX3_endNode.data.toList.drop 9 = sX3_endNode_9 := dn2 hX3_endNode_7
theorem dX3_endNode_9 : decode cX3_endNode 9 = .ok (.if_icmp .ge 16, 3) := dk162 hX3_endNode_9 (by decide)
theorem hX3_endNode_12 : cX3_endNode.data.toList.drop 12 = sX3_endNode_12 := dn3 hX3_endNode_9
theorem dX3_endNode_12 : decode cX3_endNode 12 = .ok (.aload_n 0, 1) := dk42 hX3_endNode_12
theorem hX3_endNode_13 : cX3_endNode.data.toList.drop 13 = sX3_endNode_13 := dn1 hX3_endNode_12
theorem dX3_endNode_13 : decode cX3_endNode 13 = .ok (.getfield 22, 3) := dk180 hX3_endNode_13 rfl
theorem hX3_endNode_16 : cX3_endNode.data.toList.drop 16 = sX3_endNode_16 := dn3 hX3_endNode_13
theorem dX3_endNode_16 : decode cX3_endNode 16 = .ok (.aload_n 0, 1) := dk42 hX3_endNode_16
theorem hX3_endNode_17 : cX3_endNode.data.toList.drop 17 = sX3_endNode_17 := dn1 hX3_endNode_16
theorem dX3_endNode_17 : decode cX3_endNode 17 = .ok (.getfield 18, 3) := dk180 hX3_endNode_17 rfl
theorem hX3_endNode_20 : cX3_endNode.data.toList.drop 20 = sX3_endNode_20 := dn3 hX3_endNode_17
theorem dX3_endNode_20 : decode cX3_endNode 20 = .ok (.getfield 98, 3) := dk180 hX3_endNode_20 rfl
theorem hX3_endNode_23 : cX3_endNode.data.toList.drop 23 = sX3_endNode_23 := dn3 hX3_endNode_20
theorem dX3_endNode_23 : decode cX3_endNode 23 = .ok (.lload_n 1, 1) := dk31 hX3_endNode_23
theorem hX3_endNode_24 : cX3_endNode.data.toList.drop 24 = sX3_endNode_24 := dn1 hX3_endNode_23
theorem dX3_endNode_24 : decode cX3_endNode 24 = .ok (.lastore, 1) := dk80 hX3_endNode_24
theorem hX3_endNode_25 : cX3_endNode.data.toList.drop 25 = sX3_endNode_25 := dn1 hX3_endNode_24
theorem dX3_endNode_25 : decode cX3_endNode 25 = .ok (.aload_n 0, 1) := dk42 hX3_endNode_25
theorem hX3_endNode_26 : cX3_endNode.data.toList.drop 26 = sX3_endNode_26 := dn1 hX3_endNode_25
theorem dX3_endNode_26 : decode cX3_endNode 26 = .ok (.getfield 18, 3) := dk180 hX3_endNode_26 rfl
theorem hX3_endNode_29 : cX3_endNode.data.toList.drop 29 = sX3_endNode_29 := dn3 hX3_endNode_26
theorem dX3_endNode_29 : decode cX3_endNode 29 = .ok (.iload_n 3, 1) := dk29 hX3_endNode_29
theorem hX3_endNode_30 : cX3_endNode.data.toList.drop 30 = sX3_endNode_30 := dn1 hX3_endNode_29
theorem dX3_endNode_30 : decode cX3_endNode 30 = .ok (.invokevirtual 191, 3) := dk182 hX3_endNode_30 rfl
theorem hX3_endNode_33 : cX3_endNode.data.toList.drop 33 = sX3_endNode_33 := dn3 hX3_endNode_30
theorem dX3_endNode_33 : decode cX3_endNode 33 = .ok (.return_, 1) := dk177 hX3_endNode_33
noncomputable def sX3_exchanged_11 : List UInt8 := 176 :: []
noncomputable def sX3_exchanged_10 : List UInt8 := 44 :: sX3_exchanged_11
noncomputable def sX3_exchanged_7 : List UInt8 := 181 :: 0 :: 18 :: sX3_exchanged_10
noncomputable def sX3_exchanged_6 : List UInt8 := 43 :: sX3_exchanged_7
noncomputable def sX3_exchanged_5 : List UInt8 := 42 :: sX3_exchanged_6
noncomputable def sX3_exchanged_4 : List UInt8 := 77 :: sX3_exchanged_5
noncomputable def sX3_exchanged_1 : List UInt8 := 180 :: 0 :: 18 :: sX3_exchanged_4
noncomputable def sX3_exchanged_0 : List UInt8 := 42 :: sX3_exchanged_1
set_option maxRecDepth 100000 in
theorem hX3_exchanged_0 : cX3_exchanged.data.toList.drop 0 = sX3_exchanged_0 := by decide +kernel
theorem dX3_exchanged_0 : decode cX3_exchanged 0 = .ok (.aload_n 0, 1) := dk42 hX3_exchanged_0
theorem hX3_exchanged_1 : cX3_exchanged.data.toList.drop 1 = sX3_exchanged_1 := dn1 hX3_exchanged_0
theorem dX3_exchanged_1 : decode cX3_exchanged 1 = .ok (.getfield 18, 3) := dk180 hX3_exchanged_1 rfl
theorem hX3_exchanged_4 : cX3_exchanged.data.toList.drop 4 = sX3_exchanged_4 := dn3 hX3_exchanged_1
theorem dX3_exchanged_4 : decode cX3_exchanged 4 = .ok (.astore_n 2, 1) := dk77 hX3_exchanged_4
theorem hX3_exchanged_5 : cX3_exchanged.data.toList.drop 5 = sX3_exchanged_5 := dn1 hX3_exchanged_4
theorem dX3_exchanged_5 : decode cX3_exchanged 5 = .ok (.aload_n 0, 1) := dk42 hX3_exchanged_5
theorem hX3_exchanged_6 : cX3_exchanged.data.toList.drop 6 = sX3_exchanged_6 := dn1 hX3_exchanged_5
theorem dX3_exchanged_6 : decode cX3_exchanged 6 = .ok (.aload_n 1, 1) := dk43 hX3_exchanged_6
theorem hX3_exchanged_7 : cX3_exchanged.data.toList.drop 7 = sX3_exchanged_7 := dn1 hX3_exchanged_6
theorem dX3_exchanged_7 : decode cX3_exchanged 7 = .ok (.putfield 18, 3) := dk181 hX3_exchanged_7 rfl
theorem hX3_exchanged_10 : cX3_exchanged.data.toList.drop 10 = sX3_exchanged_10 := dn3 hX3_exchanged_7
theorem dX3_exchanged_10 : decode cX3_exchanged 10 = .ok (.aload_n 2, 1) := dk44 hX3_exchanged_10
theorem hX3_exchanged_11 : cX3_exchanged.data.toList.drop 11 = sX3_exchanged_11 := dn1 hX3_exchanged_10
theorem dX3_exchanged_11 : decode cX3_exchanged 11 = .ok (.areturn, 1) := dk176 hX3_exchanged_11
noncomputable def sX3_faulty_14 : List UInt8 := 172 :: []
noncomputable def sX3_faulty_13 : List UInt8 := 3 :: sX3_faulty_14
noncomputable def sX3_faulty_10 : List UInt8 := 181 :: 0 :: 69 :: sX3_faulty_13
noncomputable def sX3_faulty_7 : List UInt8 := 180 :: 0 :: 101 :: sX3_faulty_10
noncomputable def sX3_faulty_6 : List UInt8 := 42 :: sX3_faulty_7
noncomputable def sX3_faulty_5 : List UInt8 := 42 :: sX3_faulty_6
noncomputable def sX3_faulty_2 : List UInt8 := 181 :: 0 :: 66 :: sX3_faulty_5
noncomputable def sX3_faulty_1 : List UInt8 := 27 :: sX3_faulty_2
noncomputable def sX3_faulty_0 : List UInt8 := 42 :: sX3_faulty_1
set_option maxRecDepth 100000 in
theorem hX3_faulty_0 : cX3_faulty.data.toList.drop 0 = sX3_faulty_0 := by decide +kernel
theorem dX3_faulty_0 : decode cX3_faulty 0 = .ok (.aload_n 0, 1) := dk42 hX3_faulty_0
theorem hX3_faulty_1 : cX3_faulty.data.toList.drop 1 = sX3_faulty_1 := dn1 hX3_faulty_0
theorem dX3_faulty_1 : decode cX3_faulty 1 = .ok (.iload_n 1, 1) := dk27 hX3_faulty_1
theorem hX3_faulty_2 : cX3_faulty.data.toList.drop 2 = sX3_faulty_2 := dn1 hX3_faulty_1
theorem dX3_faulty_2 : decode cX3_faulty 2 = .ok (.putfield 66, 3) := dk181 hX3_faulty_2 rfl
theorem hX3_faulty_5 : cX3_faulty.data.toList.drop 5 = sX3_faulty_5 := dn3 hX3_faulty_2
theorem dX3_faulty_5 : decode cX3_faulty 5 = .ok (.aload_n 0, 1) := dk42 hX3_faulty_5
theorem hX3_faulty_6 : cX3_faulty.data.toList.drop 6 = sX3_faulty_6 := dn1 hX3_faulty_5
theorem dX3_faulty_6 : decode cX3_faulty 6 = .ok (.aload_n 0, 1) := dk42 hX3_faulty_6
theorem hX3_faulty_7 : cX3_faulty.data.toList.drop 7 = sX3_faulty_7 := dn1 hX3_faulty_6
theorem dX3_faulty_7 : decode cX3_faulty 7 = .ok (.getfield 101, 3) := dk180 hX3_faulty_7 rfl
theorem hX3_faulty_10 : cX3_faulty.data.toList.drop 10 = sX3_faulty_10 := dn3 hX3_faulty_7
theorem dX3_faulty_10 : decode cX3_faulty 10 = .ok (.putfield 69, 3) := dk181 hX3_faulty_10 rfl
theorem hX3_faulty_13 : cX3_faulty.data.toList.drop 13 = sX3_faulty_13 := dn3 hX3_faulty_10
theorem dX3_faulty_13 : decode cX3_faulty 13 = .ok (.iconst 0, 1) := dk3 hX3_faulty_13
theorem hX3_faulty_14 : cX3_faulty.data.toList.drop 14 = sX3_faulty_14 := dn1 hX3_faulty_13
theorem dX3_faulty_14 : decode cX3_faulty 14 = .ok (.ireturn, 1) := dk172 hX3_faulty_14
noncomputable def sX3_init_154 : List UInt8 := 177 :: []
noncomputable def sX3_init_153 : List UInt8 := 80 :: sX3_init_154
noncomputable def sX3_init_150 : List UInt8 := 184 :: 0 :: 31 :: sX3_init_153
noncomputable def sX3_init_148 : List UInt8 := 18 :: 50 :: sX3_init_150
noncomputable def sX3_init_146 : List UInt8 := 16 :: 9 :: sX3_init_148
noncomputable def sX3_init_143 : List UInt8 := 180 :: 0 :: 26 :: sX3_init_146
noncomputable def sX3_init_142 : List UInt8 := 42 :: sX3_init_143
noncomputable def sX3_init_141 : List UInt8 := 80 :: sX3_init_142
noncomputable def sX3_init_138 : List UInt8 := 184 :: 0 :: 31 :: sX3_init_141
noncomputable def sX3_init_136 : List UInt8 := 18 :: 48 :: sX3_init_138
noncomputable def sX3_init_134 : List UInt8 := 16 :: 8 :: sX3_init_136
noncomputable def sX3_init_131 : List UInt8 := 180 :: 0 :: 26 :: sX3_init_134
noncomputable def sX3_init_130 : List UInt8 := 42 :: sX3_init_131
noncomputable def sX3_init_129 : List UInt8 := 80 :: sX3_init_130
noncomputable def sX3_init_126 : List UInt8 := 184 :: 0 :: 31 :: sX3_init_129
noncomputable def sX3_init_124 : List UInt8 := 18 :: 46 :: sX3_init_126
noncomputable def sX3_init_122 : List UInt8 := 16 :: 7 :: sX3_init_124
noncomputable def sX3_init_119 : List UInt8 := 180 :: 0 :: 26 :: sX3_init_122
noncomputable def sX3_init_118 : List UInt8 := 42 :: sX3_init_119
noncomputable def sX3_init_117 : List UInt8 := 80 :: sX3_init_118
noncomputable def sX3_init_114 : List UInt8 := 184 :: 0 :: 31 :: sX3_init_117
noncomputable def sX3_init_112 : List UInt8 := 18 :: 44 :: sX3_init_114
noncomputable def sX3_init_110 : List UInt8 := 16 :: 6 :: sX3_init_112
noncomputable def sX3_init_107 : List UInt8 := 180 :: 0 :: 26 :: sX3_init_110
noncomputable def sX3_init_106 : List UInt8 := 42 :: sX3_init_107
noncomputable def sX3_init_105 : List UInt8 := 80 :: sX3_init_106
noncomputable def sX3_init_102 : List UInt8 := 184 :: 0 :: 31 :: sX3_init_105
noncomputable def sX3_init_100 : List UInt8 := 18 :: 42 :: sX3_init_102
noncomputable def sX3_init_99 : List UInt8 := 8 :: sX3_init_100
noncomputable def sX3_init_96 : List UInt8 := 180 :: 0 :: 26 :: sX3_init_99
noncomputable def sX3_init_95 : List UInt8 := 42 :: sX3_init_96
noncomputable def sX3_init_94 : List UInt8 := 80 :: sX3_init_95
noncomputable def sX3_init_91 : List UInt8 := 184 :: 0 :: 31 :: sX3_init_94
noncomputable def sX3_init_89 : List UInt8 := 18 :: 41 :: sX3_init_91
noncomputable def sX3_init_88 : List UInt8 := 7 :: sX3_init_89
noncomputable def sX3_init_85 : List UInt8 := 180 :: 0 :: 26 :: sX3_init_88
noncomputable def sX3_init_84 : List UInt8 := 42 :: sX3_init_85
noncomputable def sX3_init_83 : List UInt8 := 80 :: sX3_init_84
noncomputable def sX3_init_80 : List UInt8 := 184 :: 0 :: 31 :: sX3_init_83
noncomputable def sX3_init_78 : List UInt8 := 18 :: 39 :: sX3_init_80
noncomputable def sX3_init_77 : List UInt8 := 6 :: sX3_init_78
noncomputable def sX3_init_74 : List UInt8 := 180 :: 0 :: 26 :: sX3_init_77
noncomputable def sX3_init_73 : List UInt8 := 42 :: sX3_init_74
noncomputable def sX3_init_72 : List UInt8 := 80 :: sX3_init_73
noncomputable def sX3_init_69 : List UInt8 := 184 :: 0 :: 31 :: sX3_init_72
noncomputable def sX3_init_67 : List UInt8 := 18 :: 37 :: sX3_init_69
noncomputable def sX3_init_66 : List UInt8 := 5 :: sX3_init_67
noncomputable def sX3_init_63 : List UInt8 := 180 :: 0 :: 26 :: sX3_init_66
noncomputable def sX3_init_62 : List UInt8 := 42 :: sX3_init_63
noncomputable def sX3_init_61 : List UInt8 := 80 :: sX3_init_62
noncomputable def sX3_init_58 : List UInt8 := 184 :: 0 :: 31 :: sX3_init_61
noncomputable def sX3_init_56 : List UInt8 := 18 :: 35 :: sX3_init_58
noncomputable def sX3_init_55 : List UInt8 := 4 :: sX3_init_56
noncomputable def sX3_init_52 : List UInt8 := 180 :: 0 :: 26 :: sX3_init_55
noncomputable def sX3_init_51 : List UInt8 := 42 :: sX3_init_52
noncomputable def sX3_init_50 : List UInt8 := 80 :: sX3_init_51
noncomputable def sX3_init_47 : List UInt8 := 184 :: 0 :: 31 :: sX3_init_50
noncomputable def sX3_init_45 : List UInt8 := 18 :: 29 :: sX3_init_47
noncomputable def sX3_init_44 : List UInt8 := 3 :: sX3_init_45
noncomputable def sX3_init_41 : List UInt8 := 180 :: 0 :: 26 :: sX3_init_44
noncomputable def sX3_init_40 : List UInt8 := 42 :: sX3_init_41
noncomputable def sX3_init_37 : List UInt8 := 181 :: 0 :: 26 :: sX3_init_40
noncomputable def sX3_init_35 : List UInt8 := 188 :: 11 :: sX3_init_37
noncomputable def sX3_init_33 : List UInt8 := 16 :: 10 :: sX3_init_35
noncomputable def sX3_init_32 : List UInt8 := 42 :: sX3_init_33
noncomputable def sX3_init_29 : List UInt8 := 181 :: 0 :: 22 :: sX3_init_32
noncomputable def sX3_init_27 : List UInt8 := 188 :: 11 :: sX3_init_29
noncomputable def sX3_init_25 : List UInt8 := 16 :: 18 :: sX3_init_27
noncomputable def sX3_init_24 : List UInt8 := 42 :: sX3_init_25
noncomputable def sX3_init_21 : List UInt8 := 181 :: 0 :: 18 :: sX3_init_24
noncomputable def sX3_init_18 : List UInt8 := 183 :: 0 :: 17 :: sX3_init_21
noncomputable def sX3_init_17 : List UInt8 := 89 :: sX3_init_18
noncomputable def sX3_init_14 : List UInt8 := 187 :: 0 :: 15 :: sX3_init_17
noncomputable def sX3_init_13 : List UInt8 := 42 :: sX3_init_14
noncomputable def sX3_init_10 : List UInt8 := 181 :: 0 :: 9 :: sX3_init_13
noncomputable def sX3_init_8 : List UInt8 := 188 :: 8 :: sX3_init_10
noncomputable def sX3_init_5 : List UInt8 := 17 :: 3 :: 132 :: sX3_init_8
noncomputable def sX3_init_4 : List UInt8 := 42 :: sX3_init_5
noncomputable def sX3_init_1 : List UInt8 := 183 :: 0 :: 3 :: sX3_init_4
noncomputable def sX3_init_0 : List UInt8 := 42 :: sX3_init_1
set_option maxRecDepth 100000 in
theorem hX3_init_0 : cX3_init.data.toList.drop 0 = sX3_init_0 := by decide +kernel
theorem dX3_init_0 : decode cX3_init 0 = .ok (.aload_n 0, 1) := dk42 hX3_init_0
theorem hX3_init_1 : cX3_init.data.toList.drop 1 = sX3_init_1 := dn1 hX3_init_0
theorem dX3_init_1 : decode cX3_init 1 = .ok (.invokespecial 3, 3) := dk183 hX3_init_1 rfl
theorem hX3_init_4 : cX3_init.data.toList.drop 4 = sX3_init_4 := dn3 hX3_init_1
theorem dX3_init_4 : decode cX3_init 4 = .ok (.aload_n 0, 1) := dk42 hX3_init_4
theorem hX3_init_5 : cX3_init.data.toList.drop 5 = sX3_init_5 := dn1 hX3_init_4
theorem dX3_init_5 : decode cX3_init 5 = .ok (.sipush 900, 3) := dk17 hX3_init_5 (by decide)
theorem hX3_init_8 : cX3_init.data.toList.drop 8 = sX3_init_8 := dn3 hX3_init_5
set_option maxRecDepth 100000 in
theorem dX3_init_8 : decode cX3_init 8 = .ok (.newarray .byte, 2) := by decide +kernel
theorem hX3_init_10 : cX3_init.data.toList.drop 10 = sX3_init_10 := dn2 hX3_init_8
theorem dX3_init_10 : decode cX3_init 10 = .ok (.putfield 9, 3) := dk181 hX3_init_10 rfl
theorem hX3_init_13 : cX3_init.data.toList.drop 13 = sX3_init_13 := dn3 hX3_init_10
theorem dX3_init_13 : decode cX3_init 13 = .ok (.aload_n 0, 1) := dk42 hX3_init_13
theorem hX3_init_14 : cX3_init.data.toList.drop 14 = sX3_init_14 := dn1 hX3_init_13
theorem dX3_init_14 : decode cX3_init 14 = .ok (.new 15, 3) := dk187 hX3_init_14 rfl
theorem hX3_init_17 : cX3_init.data.toList.drop 17 = sX3_init_17 := dn3 hX3_init_14
theorem dX3_init_17 : decode cX3_init 17 = .ok (.dup, 1) := dk89 hX3_init_17
theorem hX3_init_18 : cX3_init.data.toList.drop 18 = sX3_init_18 := dn1 hX3_init_17
theorem dX3_init_18 : decode cX3_init 18 = .ok (.invokespecial 17, 3) := dk183 hX3_init_18 rfl
theorem hX3_init_21 : cX3_init.data.toList.drop 21 = sX3_init_21 := dn3 hX3_init_18
theorem dX3_init_21 : decode cX3_init 21 = .ok (.putfield 18, 3) := dk181 hX3_init_21 rfl
theorem hX3_init_24 : cX3_init.data.toList.drop 24 = sX3_init_24 := dn3 hX3_init_21
theorem dX3_init_24 : decode cX3_init 24 = .ok (.aload_n 0, 1) := dk42 hX3_init_24
theorem hX3_init_25 : cX3_init.data.toList.drop 25 = sX3_init_25 := dn1 hX3_init_24
theorem dX3_init_25 : decode cX3_init 25 = .ok (.bipush 18, 2) := dk16 hX3_init_25 (by decide)
theorem hX3_init_27 : cX3_init.data.toList.drop 27 = sX3_init_27 := dn2 hX3_init_25
set_option maxRecDepth 100000 in
theorem dX3_init_27 : decode cX3_init 27 = .ok (.newarray .long, 2) := by decide +kernel
theorem hX3_init_29 : cX3_init.data.toList.drop 29 = sX3_init_29 := dn2 hX3_init_27
theorem dX3_init_29 : decode cX3_init 29 = .ok (.putfield 22, 3) := dk181 hX3_init_29 rfl
theorem hX3_init_32 : cX3_init.data.toList.drop 32 = sX3_init_32 := dn3 hX3_init_29
theorem dX3_init_32 : decode cX3_init 32 = .ok (.aload_n 0, 1) := dk42 hX3_init_32
theorem hX3_init_33 : cX3_init.data.toList.drop 33 = sX3_init_33 := dn1 hX3_init_32
theorem dX3_init_33 : decode cX3_init 33 = .ok (.bipush 10, 2) := dk16 hX3_init_33 (by decide)
theorem hX3_init_35 : cX3_init.data.toList.drop 35 = sX3_init_35 := dn2 hX3_init_33
set_option maxRecDepth 100000 in
theorem dX3_init_35 : decode cX3_init 35 = .ok (.newarray .long, 2) := by decide +kernel
theorem hX3_init_37 : cX3_init.data.toList.drop 37 = sX3_init_37 := dn2 hX3_init_35
theorem dX3_init_37 : decode cX3_init 37 = .ok (.putfield 26, 3) := dk181 hX3_init_37 rfl
theorem hX3_init_40 : cX3_init.data.toList.drop 40 = sX3_init_40 := dn3 hX3_init_37
theorem dX3_init_40 : decode cX3_init 40 = .ok (.aload_n 0, 1) := dk42 hX3_init_40
theorem hX3_init_41 : cX3_init.data.toList.drop 41 = sX3_init_41 := dn1 hX3_init_40
theorem dX3_init_41 : decode cX3_init 41 = .ok (.getfield 26, 3) := dk180 hX3_init_41 rfl
theorem hX3_init_44 : cX3_init.data.toList.drop 44 = sX3_init_44 := dn3 hX3_init_41
theorem dX3_init_44 : decode cX3_init 44 = .ok (.iconst 0, 1) := dk3 hX3_init_44
theorem hX3_init_45 : cX3_init.data.toList.drop 45 = sX3_init_45 := dn1 hX3_init_44
theorem dX3_init_45 : decode cX3_init 45 = .ok (.ldc 29, 2) := dk18 hX3_init_45 rfl
theorem hX3_init_47 : cX3_init.data.toList.drop 47 = sX3_init_47 := dn2 hX3_init_45
theorem dX3_init_47 : decode cX3_init 47 = .ok (.invokestatic 31, 3) := dk184 hX3_init_47 rfl
theorem hX3_init_50 : cX3_init.data.toList.drop 50 = sX3_init_50 := dn3 hX3_init_47
theorem dX3_init_50 : decode cX3_init 50 = .ok (.lastore, 1) := dk80 hX3_init_50
theorem hX3_init_51 : cX3_init.data.toList.drop 51 = sX3_init_51 := dn1 hX3_init_50
theorem dX3_init_51 : decode cX3_init 51 = .ok (.aload_n 0, 1) := dk42 hX3_init_51
theorem hX3_init_52 : cX3_init.data.toList.drop 52 = sX3_init_52 := dn1 hX3_init_51
theorem dX3_init_52 : decode cX3_init 52 = .ok (.getfield 26, 3) := dk180 hX3_init_52 rfl
theorem hX3_init_55 : cX3_init.data.toList.drop 55 = sX3_init_55 := dn3 hX3_init_52
theorem dX3_init_55 : decode cX3_init 55 = .ok (.iconst 1, 1) := dk4 hX3_init_55
theorem hX3_init_56 : cX3_init.data.toList.drop 56 = sX3_init_56 := dn1 hX3_init_55
theorem dX3_init_56 : decode cX3_init 56 = .ok (.ldc 35, 2) := dk18 hX3_init_56 rfl
theorem hX3_init_58 : cX3_init.data.toList.drop 58 = sX3_init_58 := dn2 hX3_init_56
theorem dX3_init_58 : decode cX3_init 58 = .ok (.invokestatic 31, 3) := dk184 hX3_init_58 rfl
theorem hX3_init_61 : cX3_init.data.toList.drop 61 = sX3_init_61 := dn3 hX3_init_58
theorem dX3_init_61 : decode cX3_init 61 = .ok (.lastore, 1) := dk80 hX3_init_61
theorem hX3_init_62 : cX3_init.data.toList.drop 62 = sX3_init_62 := dn1 hX3_init_61
theorem dX3_init_62 : decode cX3_init 62 = .ok (.aload_n 0, 1) := dk42 hX3_init_62
theorem hX3_init_63 : cX3_init.data.toList.drop 63 = sX3_init_63 := dn1 hX3_init_62
theorem dX3_init_63 : decode cX3_init 63 = .ok (.getfield 26, 3) := dk180 hX3_init_63 rfl
theorem hX3_init_66 : cX3_init.data.toList.drop 66 = sX3_init_66 := dn3 hX3_init_63
theorem dX3_init_66 : decode cX3_init 66 = .ok (.iconst 2, 1) := dk5 hX3_init_66
theorem hX3_init_67 : cX3_init.data.toList.drop 67 = sX3_init_67 := dn1 hX3_init_66
theorem dX3_init_67 : decode cX3_init 67 = .ok (.ldc 37, 2) := dk18 hX3_init_67 rfl
theorem hX3_init_69 : cX3_init.data.toList.drop 69 = sX3_init_69 := dn2 hX3_init_67
theorem dX3_init_69 : decode cX3_init 69 = .ok (.invokestatic 31, 3) := dk184 hX3_init_69 rfl
theorem hX3_init_72 : cX3_init.data.toList.drop 72 = sX3_init_72 := dn3 hX3_init_69
theorem dX3_init_72 : decode cX3_init 72 = .ok (.lastore, 1) := dk80 hX3_init_72
theorem hX3_init_73 : cX3_init.data.toList.drop 73 = sX3_init_73 := dn1 hX3_init_72
theorem dX3_init_73 : decode cX3_init 73 = .ok (.aload_n 0, 1) := dk42 hX3_init_73
theorem hX3_init_74 : cX3_init.data.toList.drop 74 = sX3_init_74 := dn1 hX3_init_73
theorem dX3_init_74 : decode cX3_init 74 = .ok (.getfield 26, 3) := dk180 hX3_init_74 rfl
theorem hX3_init_77 : cX3_init.data.toList.drop 77 = sX3_init_77 := dn3 hX3_init_74
theorem dX3_init_77 : decode cX3_init 77 = .ok (.iconst 3, 1) := dk6 hX3_init_77
theorem hX3_init_78 : cX3_init.data.toList.drop 78 = sX3_init_78 := dn1 hX3_init_77
theorem dX3_init_78 : decode cX3_init 78 = .ok (.ldc 39, 2) := dk18 hX3_init_78 rfl
theorem hX3_init_80 : cX3_init.data.toList.drop 80 = sX3_init_80 := dn2 hX3_init_78
theorem dX3_init_80 : decode cX3_init 80 = .ok (.invokestatic 31, 3) := dk184 hX3_init_80 rfl
theorem hX3_init_83 : cX3_init.data.toList.drop 83 = sX3_init_83 := dn3 hX3_init_80
theorem dX3_init_83 : decode cX3_init 83 = .ok (.lastore, 1) := dk80 hX3_init_83
theorem hX3_init_84 : cX3_init.data.toList.drop 84 = sX3_init_84 := dn1 hX3_init_83
theorem dX3_init_84 : decode cX3_init 84 = .ok (.aload_n 0, 1) := dk42 hX3_init_84
theorem hX3_init_85 : cX3_init.data.toList.drop 85 = sX3_init_85 := dn1 hX3_init_84
theorem dX3_init_85 : decode cX3_init 85 = .ok (.getfield 26, 3) := dk180 hX3_init_85 rfl
theorem hX3_init_88 : cX3_init.data.toList.drop 88 = sX3_init_88 := dn3 hX3_init_85
theorem dX3_init_88 : decode cX3_init 88 = .ok (.iconst 4, 1) := dk7 hX3_init_88
theorem hX3_init_89 : cX3_init.data.toList.drop 89 = sX3_init_89 := dn1 hX3_init_88
theorem dX3_init_89 : decode cX3_init 89 = .ok (.ldc 41, 2) := dk18 hX3_init_89 rfl
theorem hX3_init_91 : cX3_init.data.toList.drop 91 = sX3_init_91 := dn2 hX3_init_89
theorem dX3_init_91 : decode cX3_init 91 = .ok (.invokestatic 31, 3) := dk184 hX3_init_91 rfl
theorem hX3_init_94 : cX3_init.data.toList.drop 94 = sX3_init_94 := dn3 hX3_init_91
theorem dX3_init_94 : decode cX3_init 94 = .ok (.lastore, 1) := dk80 hX3_init_94
theorem hX3_init_95 : cX3_init.data.toList.drop 95 = sX3_init_95 := dn1 hX3_init_94
theorem dX3_init_95 : decode cX3_init 95 = .ok (.aload_n 0, 1) := dk42 hX3_init_95
theorem hX3_init_96 : cX3_init.data.toList.drop 96 = sX3_init_96 := dn1 hX3_init_95
theorem dX3_init_96 : decode cX3_init 96 = .ok (.getfield 26, 3) := dk180 hX3_init_96 rfl
theorem hX3_init_99 : cX3_init.data.toList.drop 99 = sX3_init_99 := dn3 hX3_init_96
theorem dX3_init_99 : decode cX3_init 99 = .ok (.iconst 5, 1) := dk8 hX3_init_99
theorem hX3_init_100 : cX3_init.data.toList.drop 100 = sX3_init_100 := dn1 hX3_init_99
theorem dX3_init_100 : decode cX3_init 100 = .ok (.ldc 42, 2) := dk18 hX3_init_100 rfl
theorem hX3_init_102 : cX3_init.data.toList.drop 102 = sX3_init_102 := dn2 hX3_init_100
theorem dX3_init_102 : decode cX3_init 102 = .ok (.invokestatic 31, 3) := dk184 hX3_init_102 rfl
theorem hX3_init_105 : cX3_init.data.toList.drop 105 = sX3_init_105 := dn3 hX3_init_102
theorem dX3_init_105 : decode cX3_init 105 = .ok (.lastore, 1) := dk80 hX3_init_105
theorem hX3_init_106 : cX3_init.data.toList.drop 106 = sX3_init_106 := dn1 hX3_init_105
theorem dX3_init_106 : decode cX3_init 106 = .ok (.aload_n 0, 1) := dk42 hX3_init_106
theorem hX3_init_107 : cX3_init.data.toList.drop 107 = sX3_init_107 := dn1 hX3_init_106
theorem dX3_init_107 : decode cX3_init 107 = .ok (.getfield 26, 3) := dk180 hX3_init_107 rfl
theorem hX3_init_110 : cX3_init.data.toList.drop 110 = sX3_init_110 := dn3 hX3_init_107
theorem dX3_init_110 : decode cX3_init 110 = .ok (.bipush 6, 2) := dk16 hX3_init_110 (by decide)
theorem hX3_init_112 : cX3_init.data.toList.drop 112 = sX3_init_112 := dn2 hX3_init_110
theorem dX3_init_112 : decode cX3_init 112 = .ok (.ldc 44, 2) := dk18 hX3_init_112 rfl
theorem hX3_init_114 : cX3_init.data.toList.drop 114 = sX3_init_114 := dn2 hX3_init_112
theorem dX3_init_114 : decode cX3_init 114 = .ok (.invokestatic 31, 3) := dk184 hX3_init_114 rfl
theorem hX3_init_117 : cX3_init.data.toList.drop 117 = sX3_init_117 := dn3 hX3_init_114
theorem dX3_init_117 : decode cX3_init 117 = .ok (.lastore, 1) := dk80 hX3_init_117
theorem hX3_init_118 : cX3_init.data.toList.drop 118 = sX3_init_118 := dn1 hX3_init_117
theorem dX3_init_118 : decode cX3_init 118 = .ok (.aload_n 0, 1) := dk42 hX3_init_118
theorem hX3_init_119 : cX3_init.data.toList.drop 119 = sX3_init_119 := dn1 hX3_init_118
theorem dX3_init_119 : decode cX3_init 119 = .ok (.getfield 26, 3) := dk180 hX3_init_119 rfl
theorem hX3_init_122 : cX3_init.data.toList.drop 122 = sX3_init_122 := dn3 hX3_init_119
theorem dX3_init_122 : decode cX3_init 122 = .ok (.bipush 7, 2) := dk16 hX3_init_122 (by decide)
theorem hX3_init_124 : cX3_init.data.toList.drop 124 = sX3_init_124 := dn2 hX3_init_122
theorem dX3_init_124 : decode cX3_init 124 = .ok (.ldc 46, 2) := dk18 hX3_init_124 rfl
theorem hX3_init_126 : cX3_init.data.toList.drop 126 = sX3_init_126 := dn2 hX3_init_124
theorem dX3_init_126 : decode cX3_init 126 = .ok (.invokestatic 31, 3) := dk184 hX3_init_126 rfl
theorem hX3_init_129 : cX3_init.data.toList.drop 129 = sX3_init_129 := dn3 hX3_init_126
theorem dX3_init_129 : decode cX3_init 129 = .ok (.lastore, 1) := dk80 hX3_init_129
theorem hX3_init_130 : cX3_init.data.toList.drop 130 = sX3_init_130 := dn1 hX3_init_129
theorem dX3_init_130 : decode cX3_init 130 = .ok (.aload_n 0, 1) := dk42 hX3_init_130
theorem hX3_init_131 : cX3_init.data.toList.drop 131 = sX3_init_131 := dn1 hX3_init_130
theorem dX3_init_131 : decode cX3_init 131 = .ok (.getfield 26, 3) := dk180 hX3_init_131 rfl
theorem hX3_init_134 : cX3_init.data.toList.drop 134 = sX3_init_134 := dn3 hX3_init_131
theorem dX3_init_134 : decode cX3_init 134 = .ok (.bipush 8, 2) := dk16 hX3_init_134 (by decide)
theorem hX3_init_136 : cX3_init.data.toList.drop 136 = sX3_init_136 := dn2 hX3_init_134
theorem dX3_init_136 : decode cX3_init 136 = .ok (.ldc 48, 2) := dk18 hX3_init_136 rfl
theorem hX3_init_138 : cX3_init.data.toList.drop 138 = sX3_init_138 := dn2 hX3_init_136
theorem dX3_init_138 : decode cX3_init 138 = .ok (.invokestatic 31, 3) := dk184 hX3_init_138 rfl
theorem hX3_init_141 : cX3_init.data.toList.drop 141 = sX3_init_141 := dn3 hX3_init_138
theorem dX3_init_141 : decode cX3_init 141 = .ok (.lastore, 1) := dk80 hX3_init_141
theorem hX3_init_142 : cX3_init.data.toList.drop 142 = sX3_init_142 := dn1 hX3_init_141
theorem dX3_init_142 : decode cX3_init 142 = .ok (.aload_n 0, 1) := dk42 hX3_init_142
theorem hX3_init_143 : cX3_init.data.toList.drop 143 = sX3_init_143 := dn1 hX3_init_142
theorem dX3_init_143 : decode cX3_init 143 = .ok (.getfield 26, 3) := dk180 hX3_init_143 rfl
theorem hX3_init_146 : cX3_init.data.toList.drop 146 = sX3_init_146 := dn3 hX3_init_143
theorem dX3_init_146 : decode cX3_init 146 = .ok (.bipush 9, 2) := dk16 hX3_init_146 (by decide)
theorem hX3_init_148 : cX3_init.data.toList.drop 148 = sX3_init_148 := dn2 hX3_init_146
theorem dX3_init_148 : decode cX3_init 148 = .ok (.ldc 50, 2) := dk18 hX3_init_148 rfl
theorem hX3_init_150 : cX3_init.data.toList.drop 150 = sX3_init_150 := dn2 hX3_init_148
theorem dX3_init_150 : decode cX3_init 150 = .ok (.invokestatic 31, 3) := dk184 hX3_init_150 rfl
theorem hX3_init_153 : cX3_init.data.toList.drop 153 = sX3_init_153 := dn3 hX3_init_150
theorem dX3_init_153 : decode cX3_init 153 = .ok (.lastore, 1) := dk80 hX3_init_153
theorem hX3_init_154 : cX3_init.data.toList.drop 154 = sX3_init_154 := dn1 hX3_init_153
theorem dX3_init_154 : decode cX3_init 154 = .ok (.return_, 1) := dk177 hX3_init_154
noncomputable def sX3_isDigit_17 : List UInt8 := 172 :: []
noncomputable def sX3_isDigit_16 : List UInt8 := 3 :: sX3_isDigit_17
noncomputable def sX3_isDigit_13 : List UInt8 := 167 :: 0 :: 4 :: sX3_isDigit_16
noncomputable def sX3_isDigit_12 : List UInt8 := 4 :: sX3_isDigit_13
noncomputable def sX3_isDigit_9 : List UInt8 := 163 :: 0 :: 7 :: sX3_isDigit_12
noncomputable def sX3_isDigit_7 : List UInt8 := 16 :: 57 :: sX3_isDigit_9
noncomputable def sX3_isDigit_6 : List UInt8 := 26 :: sX3_isDigit_7
noncomputable def sX3_isDigit_3 : List UInt8 := 161 :: 0 :: 13 :: sX3_isDigit_6
noncomputable def sX3_isDigit_1 : List UInt8 := 16 :: 48 :: sX3_isDigit_3
noncomputable def sX3_isDigit_0 : List UInt8 := 26 :: sX3_isDigit_1
set_option maxRecDepth 100000 in
theorem hX3_isDigit_0 : cX3_isDigit.data.toList.drop 0 = sX3_isDigit_0 := by decide +kernel
theorem dX3_isDigit_0 : decode cX3_isDigit 0 = .ok (.iload_n 0, 1) := dk26 hX3_isDigit_0
theorem hX3_isDigit_1 : cX3_isDigit.data.toList.drop 1 = sX3_isDigit_1 := dn1 hX3_isDigit_0
theorem dX3_isDigit_1 : decode cX3_isDigit 1 = .ok (.bipush 48, 2) := dk16 hX3_isDigit_1 (by decide)
theorem hX3_isDigit_3 : cX3_isDigit.data.toList.drop 3 = sX3_isDigit_3 := dn2 hX3_isDigit_1
theorem dX3_isDigit_3 : decode cX3_isDigit 3 = .ok (.if_icmp .lt 13, 3) := dk161 hX3_isDigit_3 (by decide)
theorem hX3_isDigit_6 : cX3_isDigit.data.toList.drop 6 = sX3_isDigit_6 := dn3 hX3_isDigit_3
theorem dX3_isDigit_6 : decode cX3_isDigit 6 = .ok (.iload_n 0, 1) := dk26 hX3_isDigit_6
theorem hX3_isDigit_7 : cX3_isDigit.data.toList.drop 7 = sX3_isDigit_7 := dn1 hX3_isDigit_6
theorem dX3_isDigit_7 : decode cX3_isDigit 7 = .ok (.bipush 57, 2) := dk16 hX3_isDigit_7 (by decide)
theorem hX3_isDigit_9 : cX3_isDigit.data.toList.drop 9 = sX3_isDigit_9 := dn2 hX3_isDigit_7
theorem dX3_isDigit_9 : decode cX3_isDigit 9 = .ok (.if_icmp .gt 7, 3) := dk163 hX3_isDigit_9 (by decide)
theorem hX3_isDigit_12 : cX3_isDigit.data.toList.drop 12 = sX3_isDigit_12 := dn3 hX3_isDigit_9
theorem dX3_isDigit_12 : decode cX3_isDigit 12 = .ok (.iconst 1, 1) := dk4 hX3_isDigit_12
theorem hX3_isDigit_13 : cX3_isDigit.data.toList.drop 13 = sX3_isDigit_13 := dn1 hX3_isDigit_12
theorem dX3_isDigit_13 : decode cX3_isDigit 13 = .ok (.goto 4, 3) := dk167 hX3_isDigit_13 (by decide)
theorem hX3_isDigit_16 : cX3_isDigit.data.toList.drop 16 = sX3_isDigit_16 := dn3 hX3_isDigit_13
theorem dX3_isDigit_16 : decode cX3_isDigit 16 = .ok (.iconst 0, 1) := dk3 hX3_isDigit_16
theorem hX3_isDigit_17 : cX3_isDigit.data.toList.drop 17 = sX3_isDigit_17 := dn1 hX3_isDigit_16
theorem dX3_isDigit_17 : decode cX3_isDigit 17 = .ok (.ireturn, 1) := dk172 hX3_isDigit_17
noncomputable def sX3_isLetter_17 : List UInt8 := 172 :: []
noncomputable def sX3_isLetter_16 : List UInt8 := 3 :: sX3_isLetter_17
noncomputable def sX3_isLetter_13 : List UInt8 := 167 :: 0 :: 4 :: sX3_isLetter_16
noncomputable def sX3_isLetter_12 : List UInt8 := 4 :: sX3_isLetter_13
noncomputable def sX3_isLetter_9 : List UInt8 := 163 :: 0 :: 7 :: sX3_isLetter_12
noncomputable def sX3_isLetter_7 : List UInt8 := 16 :: 122 :: sX3_isLetter_9
noncomputable def sX3_isLetter_6 : List UInt8 := 26 :: sX3_isLetter_7
noncomputable def sX3_isLetter_3 : List UInt8 := 161 :: 0 :: 13 :: sX3_isLetter_6
noncomputable def sX3_isLetter_1 : List UInt8 := 16 :: 97 :: sX3_isLetter_3
noncomputable def sX3_isLetter_0 : List UInt8 := 26 :: sX3_isLetter_1
set_option maxRecDepth 100000 in
theorem hX3_isLetter_0 : cX3_isLetter.data.toList.drop 0 = sX3_isLetter_0 := by decide +kernel
theorem dX3_isLetter_0 : decode cX3_isLetter 0 = .ok (.iload_n 0, 1) := dk26 hX3_isLetter_0
theorem hX3_isLetter_1 : cX3_isLetter.data.toList.drop 1 = sX3_isLetter_1 := dn1 hX3_isLetter_0
theorem dX3_isLetter_1 : decode cX3_isLetter 1 = .ok (.bipush 97, 2) := dk16 hX3_isLetter_1 (by decide)
theorem hX3_isLetter_3 : cX3_isLetter.data.toList.drop 3 = sX3_isLetter_3 := dn2 hX3_isLetter_1
theorem dX3_isLetter_3 : decode cX3_isLetter 3 = .ok (.if_icmp .lt 13, 3) := dk161 hX3_isLetter_3 (by decide)
theorem hX3_isLetter_6 : cX3_isLetter.data.toList.drop 6 = sX3_isLetter_6 := dn3 hX3_isLetter_3
theorem dX3_isLetter_6 : decode cX3_isLetter 6 = .ok (.iload_n 0, 1) := dk26 hX3_isLetter_6
theorem hX3_isLetter_7 : cX3_isLetter.data.toList.drop 7 = sX3_isLetter_7 := dn1 hX3_isLetter_6
theorem dX3_isLetter_7 : decode cX3_isLetter 7 = .ok (.bipush 122, 2) := dk16 hX3_isLetter_7 (by decide)
theorem hX3_isLetter_9 : cX3_isLetter.data.toList.drop 9 = sX3_isLetter_9 := dn2 hX3_isLetter_7
theorem dX3_isLetter_9 : decode cX3_isLetter 9 = .ok (.if_icmp .gt 7, 3) := dk163 hX3_isLetter_9 (by decide)
theorem hX3_isLetter_12 : cX3_isLetter.data.toList.drop 12 = sX3_isLetter_12 := dn3 hX3_isLetter_9
theorem dX3_isLetter_12 : decode cX3_isLetter 12 = .ok (.iconst 1, 1) := dk4 hX3_isLetter_12
theorem hX3_isLetter_13 : cX3_isLetter.data.toList.drop 13 = sX3_isLetter_13 := dn1 hX3_isLetter_12
theorem dX3_isLetter_13 : decode cX3_isLetter 13 = .ok (.goto 4, 3) := dk167 hX3_isLetter_13 (by decide)
theorem hX3_isLetter_16 : cX3_isLetter.data.toList.drop 16 = sX3_isLetter_16 := dn3 hX3_isLetter_13
theorem dX3_isLetter_16 : decode cX3_isLetter 16 = .ok (.iconst 0, 1) := dk3 hX3_isLetter_16
theorem hX3_isLetter_17 : cX3_isLetter.data.toList.drop 17 = sX3_isLetter_17 := dn1 hX3_isLetter_16
theorem dX3_isLetter_17 : decode cX3_isLetter 17 = .ok (.ireturn, 1) := dk172 hX3_isLetter_17
noncomputable def sX3_isLineKey_21 : List UInt8 := 172 :: []
noncomputable def sX3_isLineKey_20 : List UInt8 := 3 :: sX3_isLineKey_21
noncomputable def sX3_isLineKey_17 : List UInt8 := 167 :: 0 :: 4 :: sX3_isLineKey_20
noncomputable def sX3_isLineKey_16 : List UInt8 := 4 :: sX3_isLineKey_17
noncomputable def sX3_isLineKey_13 : List UInt8 := 163 :: 0 :: 7 :: sX3_isLineKey_16
noncomputable def sX3_isLineKey_11 : List UInt8 := 16 :: 7 :: sX3_isLineKey_13
noncomputable def sX3_isLineKey_8 : List UInt8 := 180 :: 0 :: 107 :: sX3_isLineKey_11
noncomputable def sX3_isLineKey_7 : List UInt8 := 42 :: sX3_isLineKey_8
noncomputable def sX3_isLineKey_4 : List UInt8 := 155 :: 0 :: 16 :: sX3_isLineKey_7
noncomputable def sX3_isLineKey_1 : List UInt8 := 180 :: 0 :: 107 :: sX3_isLineKey_4
noncomputable def sX3_isLineKey_0 : List UInt8 := 42 :: sX3_isLineKey_1
set_option maxRecDepth 100000 in
theorem hX3_isLineKey_0 : cX3_isLineKey.data.toList.drop 0 = sX3_isLineKey_0 := by decide +kernel
theorem dX3_isLineKey_0 : decode cX3_isLineKey 0 = .ok (.aload_n 0, 1) := dk42 hX3_isLineKey_0
theorem hX3_isLineKey_1 : cX3_isLineKey.data.toList.drop 1 = sX3_isLineKey_1 := dn1 hX3_isLineKey_0
theorem dX3_isLineKey_1 : decode cX3_isLineKey 1 = .ok (.getfield 107, 3) := dk180 hX3_isLineKey_1 rfl
theorem hX3_isLineKey_4 : cX3_isLineKey.data.toList.drop 4 = sX3_isLineKey_4 := dn3 hX3_isLineKey_1
theorem dX3_isLineKey_4 : decode cX3_isLineKey 4 = .ok (.ifCond .lt 16, 3) := dk155 hX3_isLineKey_4 (by decide)
theorem hX3_isLineKey_7 : cX3_isLineKey.data.toList.drop 7 = sX3_isLineKey_7 := dn3 hX3_isLineKey_4
theorem dX3_isLineKey_7 : decode cX3_isLineKey 7 = .ok (.aload_n 0, 1) := dk42 hX3_isLineKey_7
theorem hX3_isLineKey_8 : cX3_isLineKey.data.toList.drop 8 = sX3_isLineKey_8 := dn1 hX3_isLineKey_7
theorem dX3_isLineKey_8 : decode cX3_isLineKey 8 = .ok (.getfield 107, 3) := dk180 hX3_isLineKey_8 rfl
theorem hX3_isLineKey_11 : cX3_isLineKey.data.toList.drop 11 = sX3_isLineKey_11 := dn3 hX3_isLineKey_8
theorem dX3_isLineKey_11 : decode cX3_isLineKey 11 = .ok (.bipush 7, 2) := dk16 hX3_isLineKey_11 (by decide)
theorem hX3_isLineKey_13 : cX3_isLineKey.data.toList.drop 13 = sX3_isLineKey_13 := dn2 hX3_isLineKey_11
theorem dX3_isLineKey_13 : decode cX3_isLineKey 13 = .ok (.if_icmp .gt 7, 3) := dk163 hX3_isLineKey_13 (by decide)
theorem hX3_isLineKey_16 : cX3_isLineKey.data.toList.drop 16 = sX3_isLineKey_16 := dn3 hX3_isLineKey_13
theorem dX3_isLineKey_16 : decode cX3_isLineKey 16 = .ok (.iconst 1, 1) := dk4 hX3_isLineKey_16
theorem hX3_isLineKey_17 : cX3_isLineKey.data.toList.drop 17 = sX3_isLineKey_17 := dn1 hX3_isLineKey_16
theorem dX3_isLineKey_17 : decode cX3_isLineKey 17 = .ok (.goto 4, 3) := dk167 hX3_isLineKey_17 (by decide)
theorem hX3_isLineKey_20 : cX3_isLineKey.data.toList.drop 20 = sX3_isLineKey_20 := dn3 hX3_isLineKey_17
theorem dX3_isLineKey_20 : decode cX3_isLineKey 20 = .ok (.iconst 0, 1) := dk3 hX3_isLineKey_20
theorem hX3_isLineKey_21 : cX3_isLineKey.data.toList.drop 21 = sX3_isLineKey_21 := dn1 hX3_isLineKey_20
theorem dX3_isLineKey_21 : decode cX3_isLineKey 21 = .ok (.ireturn, 1) := dk172 hX3_isLineKey_21
noncomputable def sX3_isNewName_41 : List UInt8 := 172 :: []
noncomputable def sX3_isNewName_40 : List UInt8 := 3 :: sX3_isNewName_41
noncomputable def sX3_isNewName_37 : List UInt8 := 167 :: 0 :: 4 :: sX3_isNewName_40
noncomputable def sX3_isNewName_36 : List UInt8 := 4 :: sX3_isNewName_37
noncomputable def sX3_isNewName_33 : List UInt8 := 153 :: 0 :: 7 :: sX3_isNewName_36
noncomputable def sX3_isNewName_30 : List UInt8 := 182 :: 0 :: 88 :: sX3_isNewName_33
noncomputable def sX3_isNewName_29 : List UInt8 := 6 :: sX3_isNewName_30
noncomputable def sX3_isNewName_28 : List UInt8 := 42 :: sX3_isNewName_29
noncomputable def sX3_isNewName_25 : List UInt8 := 155 :: 0 :: 11 :: sX3_isNewName_28
noncomputable def sX3_isNewName_22 : List UInt8 := 182 :: 0 :: 161 :: sX3_isNewName_25
noncomputable def sX3_isNewName_21 : List UInt8 := 42 :: sX3_isNewName_22
noncomputable def sX3_isNewName_20 : List UInt8 := 172 :: sX3_isNewName_21
noncomputable def sX3_isNewName_17 : List UInt8 := 182 :: 0 :: 88 :: sX3_isNewName_20
noncomputable def sX3_isNewName_16 : List UInt8 := 4 :: sX3_isNewName_17
noncomputable def sX3_isNewName_15 : List UInt8 := 42 :: sX3_isNewName_16
noncomputable def sX3_isNewName_12 : List UInt8 := 153 :: 0 :: 9 :: sX3_isNewName_15
noncomputable def sX3_isNewName_9 : List UInt8 := 182 :: 0 :: 104 :: sX3_isNewName_12
noncomputable def sX3_isNewName_8 : List UInt8 := 42 :: sX3_isNewName_9
noncomputable def sX3_isNewName_5 : List UInt8 := 160 :: 0 :: 10 :: sX3_isNewName_8
noncomputable def sX3_isNewName_4 : List UInt8 := 4 :: sX3_isNewName_5
noncomputable def sX3_isNewName_1 : List UInt8 := 180 :: 0 :: 82 :: sX3_isNewName_4
noncomputable def sX3_isNewName_0 : List UInt8 := 42 :: sX3_isNewName_1
set_option maxRecDepth 100000 in
theorem hX3_isNewName_0 : cX3_isNewName.data.toList.drop 0 = sX3_isNewName_0 := by decide +kernel
theorem dX3_isNewName_0 : decode cX3_isNewName 0 = .ok (.aload_n 0, 1) := dk42 hX3_isNewName_0
theorem hX3_isNewName_1 : cX3_isNewName.data.toList.drop 1 = sX3_isNewName_1 := dn1 hX3_isNewName_0
theorem dX3_isNewName_1 : decode cX3_isNewName 1 = .ok (.getfield 82, 3) := dk180 hX3_isNewName_1 rfl
theorem hX3_isNewName_4 : cX3_isNewName.data.toList.drop 4 = sX3_isNewName_4 := dn3 hX3_isNewName_1
theorem dX3_isNewName_4 : decode cX3_isNewName 4 = .ok (.iconst 1, 1) := dk4 hX3_isNewName_4
theorem hX3_isNewName_5 : cX3_isNewName.data.toList.drop 5 = sX3_isNewName_5 := dn1 hX3_isNewName_4
theorem dX3_isNewName_5 : decode cX3_isNewName 5 = .ok (.if_icmp .ne 10, 3) := dk160 hX3_isNewName_5 (by decide)
theorem hX3_isNewName_8 : cX3_isNewName.data.toList.drop 8 = sX3_isNewName_8 := dn3 hX3_isNewName_5
theorem dX3_isNewName_8 : decode cX3_isNewName 8 = .ok (.aload_n 0, 1) := dk42 hX3_isNewName_8
theorem hX3_isNewName_9 : cX3_isNewName.data.toList.drop 9 = sX3_isNewName_9 := dn1 hX3_isNewName_8
theorem dX3_isNewName_9 : decode cX3_isNewName 9 = .ok (.invokevirtual 104, 3) := dk182 hX3_isNewName_9 rfl
theorem hX3_isNewName_12 : cX3_isNewName.data.toList.drop 12 = sX3_isNewName_12 := dn3 hX3_isNewName_9
theorem dX3_isNewName_12 : decode cX3_isNewName 12 = .ok (.ifCond .eq 9, 3) := dk153 hX3_isNewName_12 (by decide)
theorem hX3_isNewName_15 : cX3_isNewName.data.toList.drop 15 = sX3_isNewName_15 := dn3 hX3_isNewName_12
theorem dX3_isNewName_15 : decode cX3_isNewName 15 = .ok (.aload_n 0, 1) := dk42 hX3_isNewName_15
theorem hX3_isNewName_16 : cX3_isNewName.data.toList.drop 16 = sX3_isNewName_16 := dn1 hX3_isNewName_15
theorem dX3_isNewName_16 : decode cX3_isNewName 16 = .ok (.iconst 1, 1) := dk4 hX3_isNewName_16
theorem hX3_isNewName_17 : cX3_isNewName.data.toList.drop 17 = sX3_isNewName_17 := dn1 hX3_isNewName_16
theorem dX3_isNewName_17 : decode cX3_isNewName 17 = .ok (.invokevirtual 88, 3) := dk182 hX3_isNewName_17 rfl
theorem hX3_isNewName_20 : cX3_isNewName.data.toList.drop 20 = sX3_isNewName_20 := dn3 hX3_isNewName_17
theorem dX3_isNewName_20 : decode cX3_isNewName 20 = .ok (.ireturn, 1) := dk172 hX3_isNewName_20
theorem hX3_isNewName_21 : cX3_isNewName.data.toList.drop 21 = sX3_isNewName_21 := dn1 hX3_isNewName_20
theorem dX3_isNewName_21 : decode cX3_isNewName 21 = .ok (.aload_n 0, 1) := dk42 hX3_isNewName_21
theorem hX3_isNewName_22 : cX3_isNewName.data.toList.drop 22 = sX3_isNewName_22 := dn1 hX3_isNewName_21
theorem dX3_isNewName_22 : decode cX3_isNewName 22 = .ok (.invokevirtual 161, 3) := dk182 hX3_isNewName_22 rfl
theorem hX3_isNewName_25 : cX3_isNewName.data.toList.drop 25 = sX3_isNewName_25 := dn3 hX3_isNewName_22
theorem dX3_isNewName_25 : decode cX3_isNewName 25 = .ok (.ifCond .lt 11, 3) := dk155 hX3_isNewName_25 (by decide)
theorem hX3_isNewName_28 : cX3_isNewName.data.toList.drop 28 = sX3_isNewName_28 := dn3 hX3_isNewName_25
theorem dX3_isNewName_28 : decode cX3_isNewName 28 = .ok (.aload_n 0, 1) := dk42 hX3_isNewName_28
theorem hX3_isNewName_29 : cX3_isNewName.data.toList.drop 29 = sX3_isNewName_29 := dn1 hX3_isNewName_28
theorem dX3_isNewName_29 : decode cX3_isNewName 29 = .ok (.iconst 3, 1) := dk6 hX3_isNewName_29
theorem hX3_isNewName_30 : cX3_isNewName.data.toList.drop 30 = sX3_isNewName_30 := dn1 hX3_isNewName_29
theorem dX3_isNewName_30 : decode cX3_isNewName 30 = .ok (.invokevirtual 88, 3) := dk182 hX3_isNewName_30 rfl
theorem hX3_isNewName_33 : cX3_isNewName.data.toList.drop 33 = sX3_isNewName_33 := dn3 hX3_isNewName_30
theorem dX3_isNewName_33 : decode cX3_isNewName 33 = .ok (.ifCond .eq 7, 3) := dk153 hX3_isNewName_33 (by decide)
theorem hX3_isNewName_36 : cX3_isNewName.data.toList.drop 36 = sX3_isNewName_36 := dn3 hX3_isNewName_33
theorem dX3_isNewName_36 : decode cX3_isNewName 36 = .ok (.iconst 1, 1) := dk4 hX3_isNewName_36
theorem hX3_isNewName_37 : cX3_isNewName.data.toList.drop 37 = sX3_isNewName_37 := dn1 hX3_isNewName_36
theorem dX3_isNewName_37 : decode cX3_isNewName 37 = .ok (.goto 4, 3) := dk167 hX3_isNewName_37 (by decide)
theorem hX3_isNewName_40 : cX3_isNewName.data.toList.drop 40 = sX3_isNewName_40 := dn3 hX3_isNewName_37
theorem dX3_isNewName_40 : decode cX3_isNewName 40 = .ok (.iconst 0, 1) := dk3 hX3_isNewName_40
theorem hX3_isNewName_41 : cX3_isNewName.data.toList.drop 41 = sX3_isNewName_41 := dn1 hX3_isNewName_40
theorem dX3_isNewName_41 : decode cX3_isNewName 41 = .ok (.ireturn, 1) := dk172 hX3_isNewName_41
noncomputable def sX3_isToldName_41 : List UInt8 := 172 :: []
noncomputable def sX3_isToldName_40 : List UInt8 := 3 :: sX3_isToldName_41
noncomputable def sX3_isToldName_37 : List UInt8 := 167 :: 0 :: 4 :: sX3_isToldName_40
noncomputable def sX3_isToldName_36 : List UInt8 := 4 :: sX3_isToldName_37
noncomputable def sX3_isToldName_33 : List UInt8 := 153 :: 0 :: 7 :: sX3_isToldName_36
noncomputable def sX3_isToldName_30 : List UInt8 := 182 :: 0 :: 88 :: sX3_isToldName_33
noncomputable def sX3_isToldName_29 : List UInt8 := 5 :: sX3_isToldName_30
noncomputable def sX3_isToldName_28 : List UInt8 := 42 :: sX3_isToldName_29
noncomputable def sX3_isToldName_25 : List UInt8 := 156 :: 0 :: 11 :: sX3_isToldName_28
noncomputable def sX3_isToldName_22 : List UInt8 := 182 :: 0 :: 161 :: sX3_isToldName_25
noncomputable def sX3_isToldName_21 : List UInt8 := 42 :: sX3_isToldName_22
noncomputable def sX3_isToldName_20 : List UInt8 := 172 :: sX3_isToldName_21
noncomputable def sX3_isToldName_17 : List UInt8 := 182 :: 0 :: 88 :: sX3_isToldName_20
noncomputable def sX3_isToldName_16 : List UInt8 := 4 :: sX3_isToldName_17
noncomputable def sX3_isToldName_15 : List UInt8 := 42 :: sX3_isToldName_16
noncomputable def sX3_isToldName_12 : List UInt8 := 153 :: 0 :: 9 :: sX3_isToldName_15
noncomputable def sX3_isToldName_9 : List UInt8 := 182 :: 0 :: 104 :: sX3_isToldName_12
noncomputable def sX3_isToldName_8 : List UInt8 := 42 :: sX3_isToldName_9
noncomputable def sX3_isToldName_5 : List UInt8 := 160 :: 0 :: 10 :: sX3_isToldName_8
noncomputable def sX3_isToldName_4 : List UInt8 := 4 :: sX3_isToldName_5
noncomputable def sX3_isToldName_1 : List UInt8 := 180 :: 0 :: 82 :: sX3_isToldName_4
noncomputable def sX3_isToldName_0 : List UInt8 := 42 :: sX3_isToldName_1
set_option maxRecDepth 100000 in
theorem hX3_isToldName_0 : cX3_isToldName.data.toList.drop 0 = sX3_isToldName_0 := by decide +kernel
theorem dX3_isToldName_0 : decode cX3_isToldName 0 = .ok (.aload_n 0, 1) := dk42 hX3_isToldName_0
theorem hX3_isToldName_1 : cX3_isToldName.data.toList.drop 1 = sX3_isToldName_1 := dn1 hX3_isToldName_0
theorem dX3_isToldName_1 : decode cX3_isToldName 1 = .ok (.getfield 82, 3) := dk180 hX3_isToldName_1 rfl
theorem hX3_isToldName_4 : cX3_isToldName.data.toList.drop 4 = sX3_isToldName_4 := dn3 hX3_isToldName_1
theorem dX3_isToldName_4 : decode cX3_isToldName 4 = .ok (.iconst 1, 1) := dk4 hX3_isToldName_4
theorem hX3_isToldName_5 : cX3_isToldName.data.toList.drop 5 = sX3_isToldName_5 := dn1 hX3_isToldName_4
theorem dX3_isToldName_5 : decode cX3_isToldName 5 = .ok (.if_icmp .ne 10, 3) := dk160 hX3_isToldName_5 (by decide)
theorem hX3_isToldName_8 : cX3_isToldName.data.toList.drop 8 = sX3_isToldName_8 := dn3 hX3_isToldName_5
theorem dX3_isToldName_8 : decode cX3_isToldName 8 = .ok (.aload_n 0, 1) := dk42 hX3_isToldName_8
theorem hX3_isToldName_9 : cX3_isToldName.data.toList.drop 9 = sX3_isToldName_9 := dn1 hX3_isToldName_8
theorem dX3_isToldName_9 : decode cX3_isToldName 9 = .ok (.invokevirtual 104, 3) := dk182 hX3_isToldName_9 rfl
theorem hX3_isToldName_12 : cX3_isToldName.data.toList.drop 12 = sX3_isToldName_12 := dn3 hX3_isToldName_9
theorem dX3_isToldName_12 : decode cX3_isToldName 12 = .ok (.ifCond .eq 9, 3) := dk153 hX3_isToldName_12 (by decide)
theorem hX3_isToldName_15 : cX3_isToldName.data.toList.drop 15 = sX3_isToldName_15 := dn3 hX3_isToldName_12
theorem dX3_isToldName_15 : decode cX3_isToldName 15 = .ok (.aload_n 0, 1) := dk42 hX3_isToldName_15
theorem hX3_isToldName_16 : cX3_isToldName.data.toList.drop 16 = sX3_isToldName_16 := dn1 hX3_isToldName_15
theorem dX3_isToldName_16 : decode cX3_isToldName 16 = .ok (.iconst 1, 1) := dk4 hX3_isToldName_16
theorem hX3_isToldName_17 : cX3_isToldName.data.toList.drop 17 = sX3_isToldName_17 := dn1 hX3_isToldName_16
theorem dX3_isToldName_17 : decode cX3_isToldName 17 = .ok (.invokevirtual 88, 3) := dk182 hX3_isToldName_17 rfl
theorem hX3_isToldName_20 : cX3_isToldName.data.toList.drop 20 = sX3_isToldName_20 := dn3 hX3_isToldName_17
theorem dX3_isToldName_20 : decode cX3_isToldName 20 = .ok (.ireturn, 1) := dk172 hX3_isToldName_20
theorem hX3_isToldName_21 : cX3_isToldName.data.toList.drop 21 = sX3_isToldName_21 := dn1 hX3_isToldName_20
theorem dX3_isToldName_21 : decode cX3_isToldName 21 = .ok (.aload_n 0, 1) := dk42 hX3_isToldName_21
theorem hX3_isToldName_22 : cX3_isToldName.data.toList.drop 22 = sX3_isToldName_22 := dn1 hX3_isToldName_21
theorem dX3_isToldName_22 : decode cX3_isToldName 22 = .ok (.invokevirtual 161, 3) := dk182 hX3_isToldName_22 rfl
theorem hX3_isToldName_25 : cX3_isToldName.data.toList.drop 25 = sX3_isToldName_25 := dn3 hX3_isToldName_22
theorem dX3_isToldName_25 : decode cX3_isToldName 25 = .ok (.ifCond .ge 11, 3) := dk156 hX3_isToldName_25 (by decide)
theorem hX3_isToldName_28 : cX3_isToldName.data.toList.drop 28 = sX3_isToldName_28 := dn3 hX3_isToldName_25
theorem dX3_isToldName_28 : decode cX3_isToldName 28 = .ok (.aload_n 0, 1) := dk42 hX3_isToldName_28
theorem hX3_isToldName_29 : cX3_isToldName.data.toList.drop 29 = sX3_isToldName_29 := dn1 hX3_isToldName_28
theorem dX3_isToldName_29 : decode cX3_isToldName 29 = .ok (.iconst 2, 1) := dk5 hX3_isToldName_29
theorem hX3_isToldName_30 : cX3_isToldName.data.toList.drop 30 = sX3_isToldName_30 := dn1 hX3_isToldName_29
theorem dX3_isToldName_30 : decode cX3_isToldName 30 = .ok (.invokevirtual 88, 3) := dk182 hX3_isToldName_30 rfl
theorem hX3_isToldName_33 : cX3_isToldName.data.toList.drop 33 = sX3_isToldName_33 := dn3 hX3_isToldName_30
theorem dX3_isToldName_33 : decode cX3_isToldName 33 = .ok (.ifCond .eq 7, 3) := dk153 hX3_isToldName_33 (by decide)
theorem hX3_isToldName_36 : cX3_isToldName.data.toList.drop 36 = sX3_isToldName_36 := dn3 hX3_isToldName_33
theorem dX3_isToldName_36 : decode cX3_isToldName 36 = .ok (.iconst 1, 1) := dk4 hX3_isToldName_36
theorem hX3_isToldName_37 : cX3_isToldName.data.toList.drop 37 = sX3_isToldName_37 := dn1 hX3_isToldName_36
theorem dX3_isToldName_37 : decode cX3_isToldName 37 = .ok (.goto 4, 3) := dk167 hX3_isToldName_37 (by decide)
theorem hX3_isToldName_40 : cX3_isToldName.data.toList.drop 40 = sX3_isToldName_40 := dn3 hX3_isToldName_37
theorem dX3_isToldName_40 : decode cX3_isToldName 40 = .ok (.iconst 0, 1) := dk3 hX3_isToldName_40
theorem hX3_isToldName_41 : cX3_isToldName.data.toList.drop 41 = sX3_isToldName_41 := dn1 hX3_isToldName_40
theorem dX3_isToldName_41 : decode cX3_isToldName 41 = .ok (.ireturn, 1) := dk172 hX3_isToldName_41
noncomputable def sX3_isWholeWithin_43 : List UInt8 := 172 :: []
noncomputable def sX3_isWholeWithin_42 : List UInt8 := 3 :: sX3_isWholeWithin_43
noncomputable def sX3_isWholeWithin_39 : List UInt8 := 167 :: 0 :: 4 :: sX3_isWholeWithin_42
noncomputable def sX3_isWholeWithin_38 : List UInt8 := 4 :: sX3_isWholeWithin_39
noncomputable def sX3_isWholeWithin_35 : List UInt8 := 153 :: 0 :: 7 :: sX3_isWholeWithin_38
noncomputable def sX3_isWholeWithin_32 : List UInt8 := 182 :: 0 :: 88 :: sX3_isWholeWithin_35
noncomputable def sX3_isWholeWithin_31 : List UInt8 := 7 :: sX3_isWholeWithin_32
noncomputable def sX3_isWholeWithin_30 : List UInt8 := 42 :: sX3_isWholeWithin_31
noncomputable def sX3_isWholeWithin_27 : List UInt8 := 164 :: 0 :: 11 :: sX3_isWholeWithin_30
noncomputable def sX3_isWholeWithin_26 : List UInt8 := 28 :: sX3_isWholeWithin_27
noncomputable def sX3_isWholeWithin_23 : List UInt8 := 180 :: 0 :: 132 :: sX3_isWholeWithin_26
noncomputable def sX3_isWholeWithin_22 : List UInt8 := 42 :: sX3_isWholeWithin_23
noncomputable def sX3_isWholeWithin_19 : List UInt8 := 161 :: 0 :: 11 :: sX3_isWholeWithin_22
noncomputable def sX3_isWholeWithin_18 : List UInt8 := 27 :: sX3_isWholeWithin_19
noncomputable def sX3_isWholeWithin_15 : List UInt8 := 180 :: 0 :: 132 :: sX3_isWholeWithin_18
noncomputable def sX3_isWholeWithin_14 : List UInt8 := 42 :: sX3_isWholeWithin_15
noncomputable def sX3_isWholeWithin_13 : List UInt8 := 172 :: sX3_isWholeWithin_14
noncomputable def sX3_isWholeWithin_10 : List UInt8 := 182 :: 0 :: 88 :: sX3_isWholeWithin_13
noncomputable def sX3_isWholeWithin_9 : List UInt8 := 4 :: sX3_isWholeWithin_10
noncomputable def sX3_isWholeWithin_8 : List UInt8 := 42 :: sX3_isWholeWithin_9
noncomputable def sX3_isWholeWithin_5 : List UInt8 := 159 :: 0 :: 9 :: sX3_isWholeWithin_8
noncomputable def sX3_isWholeWithin_4 : List UInt8 := 5 :: sX3_isWholeWithin_5
noncomputable def sX3_isWholeWithin_1 : List UInt8 := 180 :: 0 :: 82 :: sX3_isWholeWithin_4
noncomputable def sX3_isWholeWithin_0 : List UInt8 := 42 :: sX3_isWholeWithin_1
set_option maxRecDepth 100000 in
theorem hX3_isWholeWithin_0 : cX3_isWholeWithin.data.toList.drop 0 = sX3_isWholeWithin_0 := by decide +kernel
theorem dX3_isWholeWithin_0 : decode cX3_isWholeWithin 0 = .ok (.aload_n 0, 1) := dk42 hX3_isWholeWithin_0
theorem hX3_isWholeWithin_1 : cX3_isWholeWithin.data.toList.drop 1 = sX3_isWholeWithin_1 := dn1 hX3_isWholeWithin_0
theorem dX3_isWholeWithin_1 : decode cX3_isWholeWithin 1 = .ok (.getfield 82, 3) := dk180 hX3_isWholeWithin_1 rfl
theorem hX3_isWholeWithin_4 : cX3_isWholeWithin.data.toList.drop 4 = sX3_isWholeWithin_4 := dn3 hX3_isWholeWithin_1
theorem dX3_isWholeWithin_4 : decode cX3_isWholeWithin 4 = .ok (.iconst 2, 1) := dk5 hX3_isWholeWithin_4
theorem hX3_isWholeWithin_5 : cX3_isWholeWithin.data.toList.drop 5 = sX3_isWholeWithin_5 := dn1 hX3_isWholeWithin_4
theorem dX3_isWholeWithin_5 : decode cX3_isWholeWithin 5 = .ok (.if_icmp .eq 9, 3) := dk159 hX3_isWholeWithin_5 (by decide)
theorem hX3_isWholeWithin_8 : cX3_isWholeWithin.data.toList.drop 8 = sX3_isWholeWithin_8 := dn3 hX3_isWholeWithin_5
theorem dX3_isWholeWithin_8 : decode cX3_isWholeWithin 8 = .ok (.aload_n 0, 1) := dk42 hX3_isWholeWithin_8
theorem hX3_isWholeWithin_9 : cX3_isWholeWithin.data.toList.drop 9 = sX3_isWholeWithin_9 := dn1 hX3_isWholeWithin_8
theorem dX3_isWholeWithin_9 : decode cX3_isWholeWithin 9 = .ok (.iconst 1, 1) := dk4 hX3_isWholeWithin_9
theorem hX3_isWholeWithin_10 : cX3_isWholeWithin.data.toList.drop 10 = sX3_isWholeWithin_10 := dn1 hX3_isWholeWithin_9
theorem dX3_isWholeWithin_10 : decode cX3_isWholeWithin 10 = .ok (.invokevirtual 88, 3) := dk182 hX3_isWholeWithin_10 rfl
theorem hX3_isWholeWithin_13 : cX3_isWholeWithin.data.toList.drop 13 = sX3_isWholeWithin_13 := dn3 hX3_isWholeWithin_10
theorem dX3_isWholeWithin_13 : decode cX3_isWholeWithin 13 = .ok (.ireturn, 1) := dk172 hX3_isWholeWithin_13
theorem hX3_isWholeWithin_14 : cX3_isWholeWithin.data.toList.drop 14 = sX3_isWholeWithin_14 := dn1 hX3_isWholeWithin_13
theorem dX3_isWholeWithin_14 : decode cX3_isWholeWithin 14 = .ok (.aload_n 0, 1) := dk42 hX3_isWholeWithin_14
theorem hX3_isWholeWithin_15 : cX3_isWholeWithin.data.toList.drop 15 = sX3_isWholeWithin_15 := dn1 hX3_isWholeWithin_14
theorem dX3_isWholeWithin_15 : decode cX3_isWholeWithin 15 = .ok (.getfield 132, 3) := dk180 hX3_isWholeWithin_15 rfl
theorem hX3_isWholeWithin_18 : cX3_isWholeWithin.data.toList.drop 18 = sX3_isWholeWithin_18 := dn3 hX3_isWholeWithin_15
theorem dX3_isWholeWithin_18 : decode cX3_isWholeWithin 18 = .ok (.iload_n 1, 1) := dk27 hX3_isWholeWithin_18
theorem hX3_isWholeWithin_19 : cX3_isWholeWithin.data.toList.drop 19 = sX3_isWholeWithin_19 := dn1 hX3_isWholeWithin_18
theorem dX3_isWholeWithin_19 : decode cX3_isWholeWithin 19 = .ok (.if_icmp .lt 11, 3) := dk161 hX3_isWholeWithin_19 (by decide)
theorem hX3_isWholeWithin_22 : cX3_isWholeWithin.data.toList.drop 22 = sX3_isWholeWithin_22 := dn3 hX3_isWholeWithin_19
theorem dX3_isWholeWithin_22 : decode cX3_isWholeWithin 22 = .ok (.aload_n 0, 1) := dk42 hX3_isWholeWithin_22
theorem hX3_isWholeWithin_23 : cX3_isWholeWithin.data.toList.drop 23 = sX3_isWholeWithin_23 := dn1 hX3_isWholeWithin_22
theorem dX3_isWholeWithin_23 : decode cX3_isWholeWithin 23 = .ok (.getfield 132, 3) := dk180 hX3_isWholeWithin_23 rfl
theorem hX3_isWholeWithin_26 : cX3_isWholeWithin.data.toList.drop 26 = sX3_isWholeWithin_26 := dn3 hX3_isWholeWithin_23
theorem dX3_isWholeWithin_26 : decode cX3_isWholeWithin 26 = .ok (.iload_n 2, 1) := dk28 hX3_isWholeWithin_26
theorem hX3_isWholeWithin_27 : cX3_isWholeWithin.data.toList.drop 27 = sX3_isWholeWithin_27 := dn1 hX3_isWholeWithin_26
theorem dX3_isWholeWithin_27 : decode cX3_isWholeWithin 27 = .ok (.if_icmp .le 11, 3) := dk164 hX3_isWholeWithin_27 (by decide)
theorem hX3_isWholeWithin_30 : cX3_isWholeWithin.data.toList.drop 30 = sX3_isWholeWithin_30 := dn3 hX3_isWholeWithin_27
theorem dX3_isWholeWithin_30 : decode cX3_isWholeWithin 30 = .ok (.aload_n 0, 1) := dk42 hX3_isWholeWithin_30
theorem hX3_isWholeWithin_31 : cX3_isWholeWithin.data.toList.drop 31 = sX3_isWholeWithin_31 := dn1 hX3_isWholeWithin_30
theorem dX3_isWholeWithin_31 : decode cX3_isWholeWithin 31 = .ok (.iconst 4, 1) := dk7 hX3_isWholeWithin_31
theorem hX3_isWholeWithin_32 : cX3_isWholeWithin.data.toList.drop 32 = sX3_isWholeWithin_32 := dn1 hX3_isWholeWithin_31
theorem dX3_isWholeWithin_32 : decode cX3_isWholeWithin 32 = .ok (.invokevirtual 88, 3) := dk182 hX3_isWholeWithin_32 rfl
theorem hX3_isWholeWithin_35 : cX3_isWholeWithin.data.toList.drop 35 = sX3_isWholeWithin_35 := dn3 hX3_isWholeWithin_32
theorem dX3_isWholeWithin_35 : decode cX3_isWholeWithin 35 = .ok (.ifCond .eq 7, 3) := dk153 hX3_isWholeWithin_35 (by decide)
theorem hX3_isWholeWithin_38 : cX3_isWholeWithin.data.toList.drop 38 = sX3_isWholeWithin_38 := dn3 hX3_isWholeWithin_35
theorem dX3_isWholeWithin_38 : decode cX3_isWholeWithin 38 = .ok (.iconst 1, 1) := dk4 hX3_isWholeWithin_38
theorem hX3_isWholeWithin_39 : cX3_isWholeWithin.data.toList.drop 39 = sX3_isWholeWithin_39 := dn1 hX3_isWholeWithin_38
theorem dX3_isWholeWithin_39 : decode cX3_isWholeWithin 39 = .ok (.goto 4, 3) := dk167 hX3_isWholeWithin_39 (by decide)
theorem hX3_isWholeWithin_42 : cX3_isWholeWithin.data.toList.drop 42 = sX3_isWholeWithin_42 := dn3 hX3_isWholeWithin_39
theorem dX3_isWholeWithin_42 : decode cX3_isWholeWithin 42 = .ok (.iconst 0, 1) := dk3 hX3_isWholeWithin_42
theorem hX3_isWholeWithin_43 : cX3_isWholeWithin.data.toList.drop 43 = sX3_isWholeWithin_43 := dn1 hX3_isWholeWithin_42
theorem dX3_isWholeWithin_43 : decode cX3_isWholeWithin 43 = .ok (.ireturn, 1) := dk172 hX3_isWholeWithin_43
noncomputable def sX3_nameOf_29 : List UInt8 := 173 :: []
noncomputable def sX3_nameOf_28 : List UInt8 := 31 :: sX3_nameOf_29
noncomputable def sX3_nameOf_25 : List UInt8 := 167 :: 255 :: 235 :: sX3_nameOf_28
noncomputable def sX3_nameOf_22 : List UInt8 := 132 :: 3 :: 1 :: sX3_nameOf_25
noncomputable def sX3_nameOf_21 : List UInt8 := 64 :: sX3_nameOf_22
noncomputable def sX3_nameOf_18 : List UInt8 := 184 :: 0 :: 209 :: sX3_nameOf_21
noncomputable def sX3_nameOf_15 : List UInt8 := 182 :: 0 :: 220 :: sX3_nameOf_18
noncomputable def sX3_nameOf_14 : List UInt8 := 29 :: sX3_nameOf_15
noncomputable def sX3_nameOf_13 : List UInt8 := 42 :: sX3_nameOf_14
noncomputable def sX3_nameOf_12 : List UInt8 := 31 :: sX3_nameOf_13
noncomputable def sX3_nameOf_9 : List UInt8 := 162 :: 0 :: 19 :: sX3_nameOf_12
noncomputable def sX3_nameOf_6 : List UInt8 := 182 :: 0 :: 215 :: sX3_nameOf_9
noncomputable def sX3_nameOf_5 : List UInt8 := 42 :: sX3_nameOf_6
noncomputable def sX3_nameOf_4 : List UInt8 := 29 :: sX3_nameOf_5
noncomputable def sX3_nameOf_3 : List UInt8 := 62 :: sX3_nameOf_4
noncomputable def sX3_nameOf_2 : List UInt8 := 3 :: sX3_nameOf_3
noncomputable def sX3_nameOf_1 : List UInt8 := 64 :: sX3_nameOf_2
noncomputable def sX3_nameOf_0 : List UInt8 := 9 :: sX3_nameOf_1
set_option maxRecDepth 100000 in
theorem hX3_nameOf_0 : cX3_nameOf.data.toList.drop 0 = sX3_nameOf_0 := by decide +kernel
theorem dX3_nameOf_0 : decode cX3_nameOf 0 = .ok (.lconst 0, 1) := dk9 hX3_nameOf_0
theorem hX3_nameOf_1 : cX3_nameOf.data.toList.drop 1 = sX3_nameOf_1 := dn1 hX3_nameOf_0
theorem dX3_nameOf_1 : decode cX3_nameOf 1 = .ok (.lstore_n 1, 1) := dk64 hX3_nameOf_1
theorem hX3_nameOf_2 : cX3_nameOf.data.toList.drop 2 = sX3_nameOf_2 := dn1 hX3_nameOf_1
theorem dX3_nameOf_2 : decode cX3_nameOf 2 = .ok (.iconst 0, 1) := dk3 hX3_nameOf_2
theorem hX3_nameOf_3 : cX3_nameOf.data.toList.drop 3 = sX3_nameOf_3 := dn1 hX3_nameOf_2
theorem dX3_nameOf_3 : decode cX3_nameOf 3 = .ok (.istore_n 3, 1) := dk62 hX3_nameOf_3
theorem hX3_nameOf_4 : cX3_nameOf.data.toList.drop 4 = sX3_nameOf_4 := dn1 hX3_nameOf_3
theorem dX3_nameOf_4 : decode cX3_nameOf 4 = .ok (.iload_n 3, 1) := dk29 hX3_nameOf_4
theorem hX3_nameOf_5 : cX3_nameOf.data.toList.drop 5 = sX3_nameOf_5 := dn1 hX3_nameOf_4
theorem dX3_nameOf_5 : decode cX3_nameOf 5 = .ok (.aload_n 0, 1) := dk42 hX3_nameOf_5
theorem hX3_nameOf_6 : cX3_nameOf.data.toList.drop 6 = sX3_nameOf_6 := dn1 hX3_nameOf_5
theorem dX3_nameOf_6 : decode cX3_nameOf 6 = .ok (.invokevirtual 215, 3) := dk182 hX3_nameOf_6 rfl
theorem hX3_nameOf_9 : cX3_nameOf.data.toList.drop 9 = sX3_nameOf_9 := dn3 hX3_nameOf_6
theorem dX3_nameOf_9 : decode cX3_nameOf 9 = .ok (.if_icmp .ge 19, 3) := dk162 hX3_nameOf_9 (by decide)
theorem hX3_nameOf_12 : cX3_nameOf.data.toList.drop 12 = sX3_nameOf_12 := dn3 hX3_nameOf_9
theorem dX3_nameOf_12 : decode cX3_nameOf 12 = .ok (.lload_n 1, 1) := dk31 hX3_nameOf_12
theorem hX3_nameOf_13 : cX3_nameOf.data.toList.drop 13 = sX3_nameOf_13 := dn1 hX3_nameOf_12
theorem dX3_nameOf_13 : decode cX3_nameOf 13 = .ok (.aload_n 0, 1) := dk42 hX3_nameOf_13
theorem hX3_nameOf_14 : cX3_nameOf.data.toList.drop 14 = sX3_nameOf_14 := dn1 hX3_nameOf_13
theorem dX3_nameOf_14 : decode cX3_nameOf 14 = .ok (.iload_n 3, 1) := dk29 hX3_nameOf_14
theorem hX3_nameOf_15 : cX3_nameOf.data.toList.drop 15 = sX3_nameOf_15 := dn1 hX3_nameOf_14
theorem dX3_nameOf_15 : decode cX3_nameOf 15 = .ok (.invokevirtual 220, 3) := dk182 hX3_nameOf_15 rfl
theorem hX3_nameOf_18 : cX3_nameOf.data.toList.drop 18 = sX3_nameOf_18 := dn3 hX3_nameOf_15
theorem dX3_nameOf_18 : decode cX3_nameOf 18 = .ok (.invokestatic 209, 3) := dk184 hX3_nameOf_18 rfl
theorem hX3_nameOf_21 : cX3_nameOf.data.toList.drop 21 = sX3_nameOf_21 := dn3 hX3_nameOf_18
theorem dX3_nameOf_21 : decode cX3_nameOf 21 = .ok (.lstore_n 1, 1) := dk64 hX3_nameOf_21
theorem hX3_nameOf_22 : cX3_nameOf.data.toList.drop 22 = sX3_nameOf_22 := dn1 hX3_nameOf_21
theorem dX3_nameOf_22 : decode cX3_nameOf 22 = .ok (.iinc 3 1, 3) := dk132 hX3_nameOf_22 rfl (by decide)
theorem hX3_nameOf_25 : cX3_nameOf.data.toList.drop 25 = sX3_nameOf_25 := dn3 hX3_nameOf_22
theorem dX3_nameOf_25 : decode cX3_nameOf 25 = .ok (.goto (-21), 3) := dk167 hX3_nameOf_25 (by decide)
theorem hX3_nameOf_28 : cX3_nameOf.data.toList.drop 28 = sX3_nameOf_28 := dn3 hX3_nameOf_25
theorem dX3_nameOf_28 : decode cX3_nameOf 28 = .ok (.lload_n 1, 1) := dk31 hX3_nameOf_28
theorem hX3_nameOf_29 : cX3_nameOf.data.toList.drop 29 = sX3_nameOf_29 := dn1 hX3_nameOf_28
theorem dX3_nameOf_29 : decode cX3_nameOf 29 = .ok (.lreturn, 1) := dk173 hX3_nameOf_29
noncomputable def sX3_nextToken_129 : List UInt8 := 177 :: []
noncomputable def sX3_nextToken_126 : List UInt8 := 181 :: 0 :: 82 :: sX3_nextToken_129
noncomputable def sX3_nextToken_125 : List UInt8 := 8 :: sX3_nextToken_126
noncomputable def sX3_nextToken_122 : List UInt8 := 167 :: 0 :: 4 :: sX3_nextToken_125
noncomputable def sX3_nextToken_121 : List UInt8 := 7 :: sX3_nextToken_122
noncomputable def sX3_nextToken_118 : List UInt8 := 160 :: 0 :: 7 :: sX3_nextToken_121
noncomputable def sX3_nextToken_116 : List UInt8 := 16 :: 44 :: sX3_nextToken_118
noncomputable def sX3_nextToken_115 : List UInt8 := 28 :: sX3_nextToken_116
noncomputable def sX3_nextToken_112 : List UInt8 := 167 :: 0 :: 14 :: sX3_nextToken_115
noncomputable def sX3_nextToken_111 : List UInt8 := 6 :: sX3_nextToken_112
noncomputable def sX3_nextToken_108 : List UInt8 := 160 :: 0 :: 7 :: sX3_nextToken_111
noncomputable def sX3_nextToken_106 : List UInt8 := 16 :: 59 :: sX3_nextToken_108
noncomputable def sX3_nextToken_105 : List UInt8 := 28 :: sX3_nextToken_106
noncomputable def sX3_nextToken_104 : List UInt8 := 42 :: sX3_nextToken_105
noncomputable def sX3_nextToken_101 : List UInt8 := 167 :: 0 :: 28 :: sX3_nextToken_104
noncomputable def sX3_nextToken_98 : List UInt8 := 182 :: 0 :: 206 :: sX3_nextToken_101
noncomputable def sX3_nextToken_97 : List UInt8 := 42 :: sX3_nextToken_98
noncomputable def sX3_nextToken_94 : List UInt8 := 153 :: 0 :: 10 :: sX3_nextToken_97
noncomputable def sX3_nextToken_91 : List UInt8 := 184 :: 0 :: 203 :: sX3_nextToken_94
noncomputable def sX3_nextToken_90 : List UInt8 := 28 :: sX3_nextToken_91
noncomputable def sX3_nextToken_87 : List UInt8 := 167 :: 0 :: 42 :: sX3_nextToken_90
noncomputable def sX3_nextToken_84 : List UInt8 := 182 :: 0 :: 200 :: sX3_nextToken_87
noncomputable def sX3_nextToken_83 : List UInt8 := 42 :: sX3_nextToken_84
noncomputable def sX3_nextToken_80 : List UInt8 := 153 :: 0 :: 10 :: sX3_nextToken_83
noncomputable def sX3_nextToken_77 : List UInt8 := 184 :: 0 :: 197 :: sX3_nextToken_80
noncomputable def sX3_nextToken_76 : List UInt8 := 28 :: sX3_nextToken_77
noncomputable def sX3_nextToken_73 : List UInt8 := 167 :: 0 :: 56 :: sX3_nextToken_76
noncomputable def sX3_nextToken_70 : List UInt8 := 181 :: 0 :: 72 :: sX3_nextToken_73
noncomputable def sX3_nextToken_67 : List UInt8 := 180 :: 0 :: 56 :: sX3_nextToken_70
noncomputable def sX3_nextToken_66 : List UInt8 := 42 :: sX3_nextToken_67
noncomputable def sX3_nextToken_65 : List UInt8 := 42 :: sX3_nextToken_66
noncomputable def sX3_nextToken_62 : List UInt8 := 181 :: 0 :: 82 :: sX3_nextToken_65
noncomputable def sX3_nextToken_61 : List UInt8 := 3 :: sX3_nextToken_62
noncomputable def sX3_nextToken_60 : List UInt8 := 42 :: sX3_nextToken_61
noncomputable def sX3_nextToken_57 : List UInt8 := 161 :: 0 :: 19 :: sX3_nextToken_60
noncomputable def sX3_nextToken_54 : List UInt8 := 180 :: 0 :: 56 :: sX3_nextToken_57
noncomputable def sX3_nextToken_53 : List UInt8 := 42 :: sX3_nextToken_54
noncomputable def sX3_nextToken_52 : List UInt8 := 27 :: sX3_nextToken_53
noncomputable def sX3_nextToken_51 : List UInt8 := 61 :: sX3_nextToken_52
noncomputable def sX3_nextToken_48 : List UInt8 := 182 :: 0 :: 193 :: sX3_nextToken_51
noncomputable def sX3_nextToken_47 : List UInt8 := 27 :: sX3_nextToken_48
noncomputable def sX3_nextToken_46 : List UInt8 := 42 :: sX3_nextToken_47
noncomputable def sX3_nextToken_43 : List UInt8 := 181 :: 0 :: 107 :: sX3_nextToken_46
noncomputable def sX3_nextToken_42 : List UInt8 := 2 :: sX3_nextToken_43
noncomputable def sX3_nextToken_41 : List UInt8 := 42 :: sX3_nextToken_42
noncomputable def sX3_nextToken_38 : List UInt8 := 181 :: 0 :: 72 :: sX3_nextToken_41
noncomputable def sX3_nextToken_37 : List UInt8 := 96 :: sX3_nextToken_38
noncomputable def sX3_nextToken_36 : List UInt8 := 4 :: sX3_nextToken_37
noncomputable def sX3_nextToken_35 : List UInt8 := 27 :: sX3_nextToken_36
noncomputable def sX3_nextToken_34 : List UInt8 := 42 :: sX3_nextToken_35
noncomputable def sX3_nextToken_31 : List UInt8 := 181 :: 0 :: 101 :: sX3_nextToken_34
noncomputable def sX3_nextToken_30 : List UInt8 := 27 :: sX3_nextToken_31
noncomputable def sX3_nextToken_29 : List UInt8 := 42 :: sX3_nextToken_30
noncomputable def sX3_nextToken_26 : List UInt8 := 167 :: 255 :: 235 :: sX3_nextToken_29
noncomputable def sX3_nextToken_23 : List UInt8 := 132 :: 1 :: 1 :: sX3_nextToken_26
noncomputable def sX3_nextToken_20 : List UInt8 := 160 :: 0 :: 9 :: sX3_nextToken_23
noncomputable def sX3_nextToken_18 : List UInt8 := 16 :: 32 :: sX3_nextToken_20
noncomputable def sX3_nextToken_15 : List UInt8 := 182 :: 0 :: 193 :: sX3_nextToken_18
noncomputable def sX3_nextToken_14 : List UInt8 := 27 :: sX3_nextToken_15
noncomputable def sX3_nextToken_13 : List UInt8 := 42 :: sX3_nextToken_14
noncomputable def sX3_nextToken_10 : List UInt8 := 162 :: 0 :: 19 :: sX3_nextToken_13
noncomputable def sX3_nextToken_7 : List UInt8 := 180 :: 0 :: 56 :: sX3_nextToken_10
noncomputable def sX3_nextToken_6 : List UInt8 := 42 :: sX3_nextToken_7
noncomputable def sX3_nextToken_5 : List UInt8 := 27 :: sX3_nextToken_6
noncomputable def sX3_nextToken_4 : List UInt8 := 60 :: sX3_nextToken_5
noncomputable def sX3_nextToken_1 : List UInt8 := 180 :: 0 :: 72 :: sX3_nextToken_4
noncomputable def sX3_nextToken_0 : List UInt8 := 42 :: sX3_nextToken_1
set_option maxRecDepth 100000 in
theorem hX3_nextToken_0 : cX3_nextToken.data.toList.drop 0 = sX3_nextToken_0 := by decide +kernel
theorem dX3_nextToken_0 : decode cX3_nextToken 0 = .ok (.aload_n 0, 1) := dk42 hX3_nextToken_0
theorem hX3_nextToken_1 : cX3_nextToken.data.toList.drop 1 = sX3_nextToken_1 := dn1 hX3_nextToken_0
theorem dX3_nextToken_1 : decode cX3_nextToken 1 = .ok (.getfield 72, 3) := dk180 hX3_nextToken_1 rfl
theorem hX3_nextToken_4 : cX3_nextToken.data.toList.drop 4 = sX3_nextToken_4 := dn3 hX3_nextToken_1
theorem dX3_nextToken_4 : decode cX3_nextToken 4 = .ok (.istore_n 1, 1) := dk60 hX3_nextToken_4
theorem hX3_nextToken_5 : cX3_nextToken.data.toList.drop 5 = sX3_nextToken_5 := dn1 hX3_nextToken_4
theorem dX3_nextToken_5 : decode cX3_nextToken 5 = .ok (.iload_n 1, 1) := dk27 hX3_nextToken_5
theorem hX3_nextToken_6 : cX3_nextToken.data.toList.drop 6 = sX3_nextToken_6 := dn1 hX3_nextToken_5
theorem dX3_nextToken_6 : decode cX3_nextToken 6 = .ok (.aload_n 0, 1) := dk42 hX3_nextToken_6
theorem hX3_nextToken_7 : cX3_nextToken.data.toList.drop 7 = sX3_nextToken_7 := dn1 hX3_nextToken_6
theorem dX3_nextToken_7 : decode cX3_nextToken 7 = .ok (.getfield 56, 3) := dk180 hX3_nextToken_7 rfl
theorem hX3_nextToken_10 : cX3_nextToken.data.toList.drop 10 = sX3_nextToken_10 := dn3 hX3_nextToken_7
theorem dX3_nextToken_10 : decode cX3_nextToken 10 = .ok (.if_icmp .ge 19, 3) := dk162 hX3_nextToken_10 (by decide)
theorem hX3_nextToken_13 : cX3_nextToken.data.toList.drop 13 = sX3_nextToken_13 := dn3 hX3_nextToken_10
theorem dX3_nextToken_13 : decode cX3_nextToken 13 = .ok (.aload_n 0, 1) := dk42 hX3_nextToken_13
theorem hX3_nextToken_14 : cX3_nextToken.data.toList.drop 14 = sX3_nextToken_14 := dn1 hX3_nextToken_13
theorem dX3_nextToken_14 : decode cX3_nextToken 14 = .ok (.iload_n 1, 1) := dk27 hX3_nextToken_14
theorem hX3_nextToken_15 : cX3_nextToken.data.toList.drop 15 = sX3_nextToken_15 := dn1 hX3_nextToken_14
theorem dX3_nextToken_15 : decode cX3_nextToken 15 = .ok (.invokevirtual 193, 3) := dk182 hX3_nextToken_15 rfl
theorem hX3_nextToken_18 : cX3_nextToken.data.toList.drop 18 = sX3_nextToken_18 := dn3 hX3_nextToken_15
theorem dX3_nextToken_18 : decode cX3_nextToken 18 = .ok (.bipush 32, 2) := dk16 hX3_nextToken_18 (by decide)
theorem hX3_nextToken_20 : cX3_nextToken.data.toList.drop 20 = sX3_nextToken_20 := dn2 hX3_nextToken_18
theorem dX3_nextToken_20 : decode cX3_nextToken 20 = .ok (.if_icmp .ne 9, 3) := dk160 hX3_nextToken_20 (by decide)
theorem hX3_nextToken_23 : cX3_nextToken.data.toList.drop 23 = sX3_nextToken_23 := dn3 hX3_nextToken_20
theorem dX3_nextToken_23 : decode cX3_nextToken 23 = .ok (.iinc 1 1, 3) := dk132 hX3_nextToken_23 rfl (by decide)
theorem hX3_nextToken_26 : cX3_nextToken.data.toList.drop 26 = sX3_nextToken_26 := dn3 hX3_nextToken_23
theorem dX3_nextToken_26 : decode cX3_nextToken 26 = .ok (.goto (-21), 3) := dk167 hX3_nextToken_26 (by decide)
theorem hX3_nextToken_29 : cX3_nextToken.data.toList.drop 29 = sX3_nextToken_29 := dn3 hX3_nextToken_26
theorem dX3_nextToken_29 : decode cX3_nextToken 29 = .ok (.aload_n 0, 1) := dk42 hX3_nextToken_29
theorem hX3_nextToken_30 : cX3_nextToken.data.toList.drop 30 = sX3_nextToken_30 := dn1 hX3_nextToken_29
theorem dX3_nextToken_30 : decode cX3_nextToken 30 = .ok (.iload_n 1, 1) := dk27 hX3_nextToken_30
theorem hX3_nextToken_31 : cX3_nextToken.data.toList.drop 31 = sX3_nextToken_31 := dn1 hX3_nextToken_30
theorem dX3_nextToken_31 : decode cX3_nextToken 31 = .ok (.putfield 101, 3) := dk181 hX3_nextToken_31 rfl
theorem hX3_nextToken_34 : cX3_nextToken.data.toList.drop 34 = sX3_nextToken_34 := dn3 hX3_nextToken_31
theorem dX3_nextToken_34 : decode cX3_nextToken 34 = .ok (.aload_n 0, 1) := dk42 hX3_nextToken_34
theorem hX3_nextToken_35 : cX3_nextToken.data.toList.drop 35 = sX3_nextToken_35 := dn1 hX3_nextToken_34
theorem dX3_nextToken_35 : decode cX3_nextToken 35 = .ok (.iload_n 1, 1) := dk27 hX3_nextToken_35
theorem hX3_nextToken_36 : cX3_nextToken.data.toList.drop 36 = sX3_nextToken_36 := dn1 hX3_nextToken_35
theorem dX3_nextToken_36 : decode cX3_nextToken 36 = .ok (.iconst 1, 1) := dk4 hX3_nextToken_36
theorem hX3_nextToken_37 : cX3_nextToken.data.toList.drop 37 = sX3_nextToken_37 := dn1 hX3_nextToken_36
theorem dX3_nextToken_37 : decode cX3_nextToken 37 = .ok (.iadd, 1) := dk96 hX3_nextToken_37
theorem hX3_nextToken_38 : cX3_nextToken.data.toList.drop 38 = sX3_nextToken_38 := dn1 hX3_nextToken_37
theorem dX3_nextToken_38 : decode cX3_nextToken 38 = .ok (.putfield 72, 3) := dk181 hX3_nextToken_38 rfl
theorem hX3_nextToken_41 : cX3_nextToken.data.toList.drop 41 = sX3_nextToken_41 := dn3 hX3_nextToken_38
theorem dX3_nextToken_41 : decode cX3_nextToken 41 = .ok (.aload_n 0, 1) := dk42 hX3_nextToken_41
theorem hX3_nextToken_42 : cX3_nextToken.data.toList.drop 42 = sX3_nextToken_42 := dn1 hX3_nextToken_41
theorem dX3_nextToken_42 : decode cX3_nextToken 42 = .ok (.iconst (-1), 1) := dk2 hX3_nextToken_42
theorem hX3_nextToken_43 : cX3_nextToken.data.toList.drop 43 = sX3_nextToken_43 := dn1 hX3_nextToken_42
theorem dX3_nextToken_43 : decode cX3_nextToken 43 = .ok (.putfield 107, 3) := dk181 hX3_nextToken_43 rfl
theorem hX3_nextToken_46 : cX3_nextToken.data.toList.drop 46 = sX3_nextToken_46 := dn3 hX3_nextToken_43
theorem dX3_nextToken_46 : decode cX3_nextToken 46 = .ok (.aload_n 0, 1) := dk42 hX3_nextToken_46
theorem hX3_nextToken_47 : cX3_nextToken.data.toList.drop 47 = sX3_nextToken_47 := dn1 hX3_nextToken_46
theorem dX3_nextToken_47 : decode cX3_nextToken 47 = .ok (.iload_n 1, 1) := dk27 hX3_nextToken_47
theorem hX3_nextToken_48 : cX3_nextToken.data.toList.drop 48 = sX3_nextToken_48 := dn1 hX3_nextToken_47
theorem dX3_nextToken_48 : decode cX3_nextToken 48 = .ok (.invokevirtual 193, 3) := dk182 hX3_nextToken_48 rfl
theorem hX3_nextToken_51 : cX3_nextToken.data.toList.drop 51 = sX3_nextToken_51 := dn3 hX3_nextToken_48
theorem dX3_nextToken_51 : decode cX3_nextToken 51 = .ok (.istore_n 2, 1) := dk61 hX3_nextToken_51
theorem hX3_nextToken_52 : cX3_nextToken.data.toList.drop 52 = sX3_nextToken_52 := dn1 hX3_nextToken_51
theorem dX3_nextToken_52 : decode cX3_nextToken 52 = .ok (.iload_n 1, 1) := dk27 hX3_nextToken_52
theorem hX3_nextToken_53 : cX3_nextToken.data.toList.drop 53 = sX3_nextToken_53 := dn1 hX3_nextToken_52
theorem dX3_nextToken_53 : decode cX3_nextToken 53 = .ok (.aload_n 0, 1) := dk42 hX3_nextToken_53
theorem hX3_nextToken_54 : cX3_nextToken.data.toList.drop 54 = sX3_nextToken_54 := dn1 hX3_nextToken_53
theorem dX3_nextToken_54 : decode cX3_nextToken 54 = .ok (.getfield 56, 3) := dk180 hX3_nextToken_54 rfl
theorem hX3_nextToken_57 : cX3_nextToken.data.toList.drop 57 = sX3_nextToken_57 := dn3 hX3_nextToken_54
theorem dX3_nextToken_57 : decode cX3_nextToken 57 = .ok (.if_icmp .lt 19, 3) := dk161 hX3_nextToken_57 (by decide)
theorem hX3_nextToken_60 : cX3_nextToken.data.toList.drop 60 = sX3_nextToken_60 := dn3 hX3_nextToken_57
theorem dX3_nextToken_60 : decode cX3_nextToken 60 = .ok (.aload_n 0, 1) := dk42 hX3_nextToken_60
theorem hX3_nextToken_61 : cX3_nextToken.data.toList.drop 61 = sX3_nextToken_61 := dn1 hX3_nextToken_60
theorem dX3_nextToken_61 : decode cX3_nextToken 61 = .ok (.iconst 0, 1) := dk3 hX3_nextToken_61
theorem hX3_nextToken_62 : cX3_nextToken.data.toList.drop 62 = sX3_nextToken_62 := dn1 hX3_nextToken_61
theorem dX3_nextToken_62 : decode cX3_nextToken 62 = .ok (.putfield 82, 3) := dk181 hX3_nextToken_62 rfl
theorem hX3_nextToken_65 : cX3_nextToken.data.toList.drop 65 = sX3_nextToken_65 := dn3 hX3_nextToken_62
theorem dX3_nextToken_65 : decode cX3_nextToken 65 = .ok (.aload_n 0, 1) := dk42 hX3_nextToken_65
theorem hX3_nextToken_66 : cX3_nextToken.data.toList.drop 66 = sX3_nextToken_66 := dn1 hX3_nextToken_65
theorem dX3_nextToken_66 : decode cX3_nextToken 66 = .ok (.aload_n 0, 1) := dk42 hX3_nextToken_66
theorem hX3_nextToken_67 : cX3_nextToken.data.toList.drop 67 = sX3_nextToken_67 := dn1 hX3_nextToken_66
theorem dX3_nextToken_67 : decode cX3_nextToken 67 = .ok (.getfield 56, 3) := dk180 hX3_nextToken_67 rfl
theorem hX3_nextToken_70 : cX3_nextToken.data.toList.drop 70 = sX3_nextToken_70 := dn3 hX3_nextToken_67
theorem dX3_nextToken_70 : decode cX3_nextToken 70 = .ok (.putfield 72, 3) := dk181 hX3_nextToken_70 rfl
theorem hX3_nextToken_73 : cX3_nextToken.data.toList.drop 73 = sX3_nextToken_73 := dn3 hX3_nextToken_70
theorem dX3_nextToken_73 : decode cX3_nextToken 73 = .ok (.goto 56, 3) := dk167 hX3_nextToken_73 (by decide)
theorem hX3_nextToken_76 : cX3_nextToken.data.toList.drop 76 = sX3_nextToken_76 := dn3 hX3_nextToken_73
theorem dX3_nextToken_76 : decode cX3_nextToken 76 = .ok (.iload_n 2, 1) := dk28 hX3_nextToken_76
theorem hX3_nextToken_77 : cX3_nextToken.data.toList.drop 77 = sX3_nextToken_77 := dn1 hX3_nextToken_76
theorem dX3_nextToken_77 : decode cX3_nextToken 77 = .ok (.invokestatic 197, 3) := dk184 hX3_nextToken_77 rfl
theorem hX3_nextToken_80 : cX3_nextToken.data.toList.drop 80 = sX3_nextToken_80 := dn3 hX3_nextToken_77
theorem dX3_nextToken_80 : decode cX3_nextToken 80 = .ok (.ifCond .eq 10, 3) := dk153 hX3_nextToken_80 (by decide)
theorem hX3_nextToken_83 : cX3_nextToken.data.toList.drop 83 = sX3_nextToken_83 := dn3 hX3_nextToken_80
theorem dX3_nextToken_83 : decode cX3_nextToken 83 = .ok (.aload_n 0, 1) := dk42 hX3_nextToken_83
theorem hX3_nextToken_84 : cX3_nextToken.data.toList.drop 84 = sX3_nextToken_84 := dn1 hX3_nextToken_83
theorem dX3_nextToken_84 : decode cX3_nextToken 84 = .ok (.invokevirtual 200, 3) := dk182 hX3_nextToken_84 rfl
theorem hX3_nextToken_87 : cX3_nextToken.data.toList.drop 87 = sX3_nextToken_87 := dn3 hX3_nextToken_84
theorem dX3_nextToken_87 : decode cX3_nextToken 87 = .ok (.goto 42, 3) := dk167 hX3_nextToken_87 (by decide)
theorem hX3_nextToken_90 : cX3_nextToken.data.toList.drop 90 = sX3_nextToken_90 := dn3 hX3_nextToken_87
theorem dX3_nextToken_90 : decode cX3_nextToken 90 = .ok (.iload_n 2, 1) := dk28 hX3_nextToken_90
theorem hX3_nextToken_91 : cX3_nextToken.data.toList.drop 91 = sX3_nextToken_91 := dn1 hX3_nextToken_90
theorem dX3_nextToken_91 : decode cX3_nextToken 91 = .ok (.invokestatic 203, 3) := dk184 hX3_nextToken_91 rfl
theorem hX3_nextToken_94 : cX3_nextToken.data.toList.drop 94 = sX3_nextToken_94 := dn3 hX3_nextToken_91
theorem dX3_nextToken_94 : decode cX3_nextToken 94 = .ok (.ifCond .eq 10, 3) := dk153 hX3_nextToken_94 (by decide)
theorem hX3_nextToken_97 : cX3_nextToken.data.toList.drop 97 = sX3_nextToken_97 := dn3 hX3_nextToken_94
theorem dX3_nextToken_97 : decode cX3_nextToken 97 = .ok (.aload_n 0, 1) := dk42 hX3_nextToken_97
theorem hX3_nextToken_98 : cX3_nextToken.data.toList.drop 98 = sX3_nextToken_98 := dn1 hX3_nextToken_97
theorem dX3_nextToken_98 : decode cX3_nextToken 98 = .ok (.invokevirtual 206, 3) := dk182 hX3_nextToken_98 rfl
theorem hX3_nextToken_101 : cX3_nextToken.data.toList.drop 101 = sX3_nextToken_101 := dn3 hX3_nextToken_98
theorem dX3_nextToken_101 : decode cX3_nextToken 101 = .ok (.goto 28, 3) := dk167 hX3_nextToken_101 (by decide)
theorem hX3_nextToken_104 : cX3_nextToken.data.toList.drop 104 = sX3_nextToken_104 := dn3 hX3_nextToken_101
theorem dX3_nextToken_104 : decode cX3_nextToken 104 = .ok (.aload_n 0, 1) := dk42 hX3_nextToken_104
theorem hX3_nextToken_105 : cX3_nextToken.data.toList.drop 105 = sX3_nextToken_105 := dn1 hX3_nextToken_104
theorem dX3_nextToken_105 : decode cX3_nextToken 105 = .ok (.iload_n 2, 1) := dk28 hX3_nextToken_105
theorem hX3_nextToken_106 : cX3_nextToken.data.toList.drop 106 = sX3_nextToken_106 := dn1 hX3_nextToken_105
theorem dX3_nextToken_106 : decode cX3_nextToken 106 = .ok (.bipush 59, 2) := dk16 hX3_nextToken_106 (by decide)
theorem hX3_nextToken_108 : cX3_nextToken.data.toList.drop 108 = sX3_nextToken_108 := dn2 hX3_nextToken_106
theorem dX3_nextToken_108 : decode cX3_nextToken 108 = .ok (.if_icmp .ne 7, 3) := dk160 hX3_nextToken_108 (by decide)
theorem hX3_nextToken_111 : cX3_nextToken.data.toList.drop 111 = sX3_nextToken_111 := dn3 hX3_nextToken_108
theorem dX3_nextToken_111 : decode cX3_nextToken 111 = .ok (.iconst 3, 1) := dk6 hX3_nextToken_111
theorem hX3_nextToken_112 : cX3_nextToken.data.toList.drop 112 = sX3_nextToken_112 := dn1 hX3_nextToken_111
theorem dX3_nextToken_112 : decode cX3_nextToken 112 = .ok (.goto 14, 3) := dk167 hX3_nextToken_112 (by decide)
theorem hX3_nextToken_115 : cX3_nextToken.data.toList.drop 115 = sX3_nextToken_115 := dn3 hX3_nextToken_112
theorem dX3_nextToken_115 : decode cX3_nextToken 115 = .ok (.iload_n 2, 1) := dk28 hX3_nextToken_115
theorem hX3_nextToken_116 : cX3_nextToken.data.toList.drop 116 = sX3_nextToken_116 := dn1 hX3_nextToken_115
theorem dX3_nextToken_116 : decode cX3_nextToken 116 = .ok (.bipush 44, 2) := dk16 hX3_nextToken_116 (by decide)
theorem hX3_nextToken_118 : cX3_nextToken.data.toList.drop 118 = sX3_nextToken_118 := dn2 hX3_nextToken_116
theorem dX3_nextToken_118 : decode cX3_nextToken 118 = .ok (.if_icmp .ne 7, 3) := dk160 hX3_nextToken_118 (by decide)
theorem hX3_nextToken_121 : cX3_nextToken.data.toList.drop 121 = sX3_nextToken_121 := dn3 hX3_nextToken_118
theorem dX3_nextToken_121 : decode cX3_nextToken 121 = .ok (.iconst 4, 1) := dk7 hX3_nextToken_121
theorem hX3_nextToken_122 : cX3_nextToken.data.toList.drop 122 = sX3_nextToken_122 := dn1 hX3_nextToken_121
theorem dX3_nextToken_122 : decode cX3_nextToken 122 = .ok (.goto 4, 3) := dk167 hX3_nextToken_122 (by decide)
theorem hX3_nextToken_125 : cX3_nextToken.data.toList.drop 125 = sX3_nextToken_125 := dn3 hX3_nextToken_122
theorem dX3_nextToken_125 : decode cX3_nextToken 125 = .ok (.iconst 5, 1) := dk8 hX3_nextToken_125
theorem hX3_nextToken_126 : cX3_nextToken.data.toList.drop 126 = sX3_nextToken_126 := dn1 hX3_nextToken_125
theorem dX3_nextToken_126 : decode cX3_nextToken 126 = .ok (.putfield 82, 3) := dk181 hX3_nextToken_126 rfl
theorem hX3_nextToken_129 : cX3_nextToken.data.toList.drop 129 = sX3_nextToken_129 := dn3 hX3_nextToken_126
theorem dX3_nextToken_129 : decode cX3_nextToken 129 = .ok (.return_, 1) := dk177 hX3_nextToken_129
noncomputable def sX3_putBytes_46 : List UInt8 := 177 :: []
noncomputable def sX3_putBytes_43 : List UInt8 := 167 :: 255 :: 216 :: sX3_putBytes_46
noncomputable def sX3_putBytes_40 : List UInt8 := 132 :: 2 :: 248 :: sX3_putBytes_43
noncomputable def sX3_putBytes_37 : List UInt8 := 181 :: 0 :: 52 :: sX3_putBytes_40
noncomputable def sX3_putBytes_36 : List UInt8 := 96 :: sX3_putBytes_37
noncomputable def sX3_putBytes_35 : List UInt8 := 4 :: sX3_putBytes_36
noncomputable def sX3_putBytes_32 : List UInt8 := 180 :: 0 :: 52 :: sX3_putBytes_35
noncomputable def sX3_putBytes_31 : List UInt8 := 89 :: sX3_putBytes_32
noncomputable def sX3_putBytes_30 : List UInt8 := 42 :: sX3_putBytes_31
noncomputable def sX3_putBytes_29 : List UInt8 := 84 :: sX3_putBytes_30
noncomputable def sX3_putBytes_28 : List UInt8 := 145 :: sX3_putBytes_29
noncomputable def sX3_putBytes_27 : List UInt8 := 122 :: sX3_putBytes_28
noncomputable def sX3_putBytes_26 : List UInt8 := 28 :: sX3_putBytes_27
noncomputable def sX3_putBytes_25 : List UInt8 := 27 :: sX3_putBytes_26
noncomputable def sX3_putBytes_22 : List UInt8 := 180 :: 0 :: 52 :: sX3_putBytes_25
noncomputable def sX3_putBytes_21 : List UInt8 := 42 :: sX3_putBytes_22
noncomputable def sX3_putBytes_18 : List UInt8 := 180 :: 0 :: 9 :: sX3_putBytes_21
noncomputable def sX3_putBytes_17 : List UInt8 := 42 :: sX3_putBytes_18
noncomputable def sX3_putBytes_14 : List UInt8 := 162 :: 0 :: 26 :: sX3_putBytes_17
noncomputable def sX3_putBytes_11 : List UInt8 := 17 :: 3 :: 132 :: sX3_putBytes_14
noncomputable def sX3_putBytes_8 : List UInt8 := 180 :: 0 :: 52 :: sX3_putBytes_11
noncomputable def sX3_putBytes_7 : List UInt8 := 42 :: sX3_putBytes_8
noncomputable def sX3_putBytes_4 : List UInt8 := 155 :: 0 :: 42 :: sX3_putBytes_7
noncomputable def sX3_putBytes_3 : List UInt8 := 28 :: sX3_putBytes_4
noncomputable def sX3_putBytes_2 : List UInt8 := 61 :: sX3_putBytes_3
noncomputable def sX3_putBytes_0 : List UInt8 := 16 :: 24 :: sX3_putBytes_2
set_option maxRecDepth 100000 in
theorem hX3_putBytes_0 : cX3_putBytes.data.toList.drop 0 = sX3_putBytes_0 := by decide +kernel
theorem dX3_putBytes_0 : decode cX3_putBytes 0 = .ok (.bipush 24, 2) := dk16 hX3_putBytes_0 (by decide)
theorem hX3_putBytes_2 : cX3_putBytes.data.toList.drop 2 = sX3_putBytes_2 := dn2 hX3_putBytes_0
theorem dX3_putBytes_2 : decode cX3_putBytes 2 = .ok (.istore_n 2, 1) := dk61 hX3_putBytes_2
theorem hX3_putBytes_3 : cX3_putBytes.data.toList.drop 3 = sX3_putBytes_3 := dn1 hX3_putBytes_2
theorem dX3_putBytes_3 : decode cX3_putBytes 3 = .ok (.iload_n 2, 1) := dk28 hX3_putBytes_3
theorem hX3_putBytes_4 : cX3_putBytes.data.toList.drop 4 = sX3_putBytes_4 := dn1 hX3_putBytes_3
theorem dX3_putBytes_4 : decode cX3_putBytes 4 = .ok (.ifCond .lt 42, 3) := dk155 hX3_putBytes_4 (by decide)
theorem hX3_putBytes_7 : cX3_putBytes.data.toList.drop 7 = sX3_putBytes_7 := dn3 hX3_putBytes_4
theorem dX3_putBytes_7 : decode cX3_putBytes 7 = .ok (.aload_n 0, 1) := dk42 hX3_putBytes_7
theorem hX3_putBytes_8 : cX3_putBytes.data.toList.drop 8 = sX3_putBytes_8 := dn1 hX3_putBytes_7
theorem dX3_putBytes_8 : decode cX3_putBytes 8 = .ok (.getfield 52, 3) := dk180 hX3_putBytes_8 rfl
theorem hX3_putBytes_11 : cX3_putBytes.data.toList.drop 11 = sX3_putBytes_11 := dn3 hX3_putBytes_8
theorem dX3_putBytes_11 : decode cX3_putBytes 11 = .ok (.sipush 900, 3) := dk17 hX3_putBytes_11 (by decide)
theorem hX3_putBytes_14 : cX3_putBytes.data.toList.drop 14 = sX3_putBytes_14 := dn3 hX3_putBytes_11
theorem dX3_putBytes_14 : decode cX3_putBytes 14 = .ok (.if_icmp .ge 26, 3) := dk162 hX3_putBytes_14 (by decide)
theorem hX3_putBytes_17 : cX3_putBytes.data.toList.drop 17 = sX3_putBytes_17 := dn3 hX3_putBytes_14
theorem dX3_putBytes_17 : decode cX3_putBytes 17 = .ok (.aload_n 0, 1) := dk42 hX3_putBytes_17
theorem hX3_putBytes_18 : cX3_putBytes.data.toList.drop 18 = sX3_putBytes_18 := dn1 hX3_putBytes_17
theorem dX3_putBytes_18 : decode cX3_putBytes 18 = .ok (.getfield 9, 3) := dk180 hX3_putBytes_18 rfl
theorem hX3_putBytes_21 : cX3_putBytes.data.toList.drop 21 = sX3_putBytes_21 := dn3 hX3_putBytes_18
theorem dX3_putBytes_21 : decode cX3_putBytes 21 = .ok (.aload_n 0, 1) := dk42 hX3_putBytes_21
theorem hX3_putBytes_22 : cX3_putBytes.data.toList.drop 22 = sX3_putBytes_22 := dn1 hX3_putBytes_21
theorem dX3_putBytes_22 : decode cX3_putBytes 22 = .ok (.getfield 52, 3) := dk180 hX3_putBytes_22 rfl
theorem hX3_putBytes_25 : cX3_putBytes.data.toList.drop 25 = sX3_putBytes_25 := dn3 hX3_putBytes_22
theorem dX3_putBytes_25 : decode cX3_putBytes 25 = .ok (.iload_n 1, 1) := dk27 hX3_putBytes_25
theorem hX3_putBytes_26 : cX3_putBytes.data.toList.drop 26 = sX3_putBytes_26 := dn1 hX3_putBytes_25
theorem dX3_putBytes_26 : decode cX3_putBytes 26 = .ok (.iload_n 2, 1) := dk28 hX3_putBytes_26
theorem hX3_putBytes_27 : cX3_putBytes.data.toList.drop 27 = sX3_putBytes_27 := dn1 hX3_putBytes_26
theorem dX3_putBytes_27 : decode cX3_putBytes 27 = .ok (.ishr, 1) := dk122 hX3_putBytes_27
theorem hX3_putBytes_28 : cX3_putBytes.data.toList.drop 28 = sX3_putBytes_28 := dn1 hX3_putBytes_27
theorem dX3_putBytes_28 : decode cX3_putBytes 28 = .ok (.i2b, 1) := dk145 hX3_putBytes_28
theorem hX3_putBytes_29 : cX3_putBytes.data.toList.drop 29 = sX3_putBytes_29 := dn1 hX3_putBytes_28
theorem dX3_putBytes_29 : decode cX3_putBytes 29 = .ok (.bastore, 1) := dk84 hX3_putBytes_29
theorem hX3_putBytes_30 : cX3_putBytes.data.toList.drop 30 = sX3_putBytes_30 := dn1 hX3_putBytes_29
theorem dX3_putBytes_30 : decode cX3_putBytes 30 = .ok (.aload_n 0, 1) := dk42 hX3_putBytes_30
theorem hX3_putBytes_31 : cX3_putBytes.data.toList.drop 31 = sX3_putBytes_31 := dn1 hX3_putBytes_30
theorem dX3_putBytes_31 : decode cX3_putBytes 31 = .ok (.dup, 1) := dk89 hX3_putBytes_31
theorem hX3_putBytes_32 : cX3_putBytes.data.toList.drop 32 = sX3_putBytes_32 := dn1 hX3_putBytes_31
theorem dX3_putBytes_32 : decode cX3_putBytes 32 = .ok (.getfield 52, 3) := dk180 hX3_putBytes_32 rfl
theorem hX3_putBytes_35 : cX3_putBytes.data.toList.drop 35 = sX3_putBytes_35 := dn3 hX3_putBytes_32
theorem dX3_putBytes_35 : decode cX3_putBytes 35 = .ok (.iconst 1, 1) := dk4 hX3_putBytes_35
theorem hX3_putBytes_36 : cX3_putBytes.data.toList.drop 36 = sX3_putBytes_36 := dn1 hX3_putBytes_35
theorem dX3_putBytes_36 : decode cX3_putBytes 36 = .ok (.iadd, 1) := dk96 hX3_putBytes_36
theorem hX3_putBytes_37 : cX3_putBytes.data.toList.drop 37 = sX3_putBytes_37 := dn1 hX3_putBytes_36
theorem dX3_putBytes_37 : decode cX3_putBytes 37 = .ok (.putfield 52, 3) := dk181 hX3_putBytes_37 rfl
theorem hX3_putBytes_40 : cX3_putBytes.data.toList.drop 40 = sX3_putBytes_40 := dn3 hX3_putBytes_37
theorem dX3_putBytes_40 : decode cX3_putBytes 40 = .ok (.iinc 2 (-8), 3) := dk132 hX3_putBytes_40 rfl (by decide)
theorem hX3_putBytes_43 : cX3_putBytes.data.toList.drop 43 = sX3_putBytes_43 := dn3 hX3_putBytes_40
theorem dX3_putBytes_43 : decode cX3_putBytes 43 = .ok (.goto (-40), 3) := dk167 hX3_putBytes_43 (by decide)
theorem hX3_putBytes_46 : cX3_putBytes.data.toList.drop 46 = sX3_putBytes_46 := dn3 hX3_putBytes_43
theorem dX3_putBytes_46 : decode cX3_putBytes 46 = .ok (.return_, 1) := dk177 hX3_putBytes_46
noncomputable def sX3_readCourt_69 : List UInt8 := 172 :: []
noncomputable def sX3_readCourt_68 : List UInt8 := 4 :: sX3_readCourt_69
noncomputable def sX3_readCourt_65 : List UInt8 := 182 :: 0 :: 75 :: sX3_readCourt_68
noncomputable def sX3_readCourt_64 : List UInt8 := 42 :: sX3_readCourt_65
noncomputable def sX3_readCourt_61 : List UInt8 := 181 :: 0 :: 135 :: sX3_readCourt_64
noncomputable def sX3_readCourt_58 : List UInt8 := 180 :: 0 :: 132 :: sX3_readCourt_61
noncomputable def sX3_readCourt_57 : List UInt8 := 42 :: sX3_readCourt_58
noncomputable def sX3_readCourt_54 : List UInt8 := 180 :: 0 :: 18 :: sX3_readCourt_57
noncomputable def sX3_readCourt_53 : List UInt8 := 42 :: sX3_readCourt_54
noncomputable def sX3_readCourt_52 : List UInt8 := 172 :: sX3_readCourt_53
noncomputable def sX3_readCourt_51 : List UInt8 := 3 :: sX3_readCourt_52
noncomputable def sX3_readCourt_48 : List UInt8 := 154 :: 0 :: 5 :: sX3_readCourt_51
noncomputable def sX3_readCourt_45 : List UInt8 := 182 :: 0 :: 128 :: sX3_readCourt_48
noncomputable def sX3_readCourt_43 : List UInt8 := 16 :: 100 :: sX3_readCourt_45
noncomputable def sX3_readCourt_42 : List UInt8 := 3 :: sX3_readCourt_43
noncomputable def sX3_readCourt_41 : List UInt8 := 42 :: sX3_readCourt_42
noncomputable def sX3_readCourt_38 : List UInt8 := 182 :: 0 :: 75 :: sX3_readCourt_41
noncomputable def sX3_readCourt_37 : List UInt8 := 42 :: sX3_readCourt_38
noncomputable def sX3_readCourt_36 : List UInt8 := 172 :: sX3_readCourt_37
noncomputable def sX3_readCourt_33 : List UInt8 := 182 :: 0 :: 88 :: sX3_readCourt_36
noncomputable def sX3_readCourt_32 : List UInt8 := 4 :: sX3_readCourt_33
noncomputable def sX3_readCourt_31 : List UInt8 := 42 :: sX3_readCourt_32
noncomputable def sX3_readCourt_28 : List UInt8 := 159 :: 0 :: 9 :: sX3_readCourt_31
noncomputable def sX3_readCourt_26 : List UInt8 := 16 :: 8 :: sX3_readCourt_28
noncomputable def sX3_readCourt_23 : List UInt8 := 180 :: 0 :: 107 :: sX3_readCourt_26
noncomputable def sX3_readCourt_22 : List UInt8 := 42 :: sX3_readCourt_23
noncomputable def sX3_readCourt_19 : List UInt8 := 182 :: 0 :: 75 :: sX3_readCourt_22
noncomputable def sX3_readCourt_18 : List UInt8 := 42 :: sX3_readCourt_19
noncomputable def sX3_readCourt_15 : List UInt8 := 181 :: 0 :: 62 :: sX3_readCourt_18
noncomputable def sX3_readCourt_14 : List UInt8 := 4 :: sX3_readCourt_15
noncomputable def sX3_readCourt_13 : List UInt8 := 42 :: sX3_readCourt_14
noncomputable def sX3_readCourt_12 : List UInt8 := 172 :: sX3_readCourt_13
noncomputable def sX3_readCourt_9 : List UInt8 := 182 :: 0 :: 88 :: sX3_readCourt_12
noncomputable def sX3_readCourt_8 : List UInt8 := 6 :: sX3_readCourt_9
noncomputable def sX3_readCourt_7 : List UInt8 := 42 :: sX3_readCourt_8
noncomputable def sX3_readCourt_4 : List UInt8 := 153 :: 0 :: 9 :: sX3_readCourt_7
noncomputable def sX3_readCourt_1 : List UInt8 := 180 :: 0 :: 62 :: sX3_readCourt_4
noncomputable def sX3_readCourt_0 : List UInt8 := 42 :: sX3_readCourt_1
set_option maxRecDepth 100000 in
theorem hX3_readCourt_0 : cX3_readCourt.data.toList.drop 0 = sX3_readCourt_0 := by decide +kernel
theorem dX3_readCourt_0 : decode cX3_readCourt 0 = .ok (.aload_n 0, 1) := dk42 hX3_readCourt_0
theorem hX3_readCourt_1 : cX3_readCourt.data.toList.drop 1 = sX3_readCourt_1 := dn1 hX3_readCourt_0
theorem dX3_readCourt_1 : decode cX3_readCourt 1 = .ok (.getfield 62, 3) := dk180 hX3_readCourt_1 rfl
theorem hX3_readCourt_4 : cX3_readCourt.data.toList.drop 4 = sX3_readCourt_4 := dn3 hX3_readCourt_1
theorem dX3_readCourt_4 : decode cX3_readCourt 4 = .ok (.ifCond .eq 9, 3) := dk153 hX3_readCourt_4 (by decide)
theorem hX3_readCourt_7 : cX3_readCourt.data.toList.drop 7 = sX3_readCourt_7 := dn3 hX3_readCourt_4
theorem dX3_readCourt_7 : decode cX3_readCourt 7 = .ok (.aload_n 0, 1) := dk42 hX3_readCourt_7
theorem hX3_readCourt_8 : cX3_readCourt.data.toList.drop 8 = sX3_readCourt_8 := dn1 hX3_readCourt_7
theorem dX3_readCourt_8 : decode cX3_readCourt 8 = .ok (.iconst 3, 1) := dk6 hX3_readCourt_8
theorem hX3_readCourt_9 : cX3_readCourt.data.toList.drop 9 = sX3_readCourt_9 := dn1 hX3_readCourt_8
theorem dX3_readCourt_9 : decode cX3_readCourt 9 = .ok (.invokevirtual 88, 3) := dk182 hX3_readCourt_9 rfl
theorem hX3_readCourt_12 : cX3_readCourt.data.toList.drop 12 = sX3_readCourt_12 := dn3 hX3_readCourt_9
theorem dX3_readCourt_12 : decode cX3_readCourt 12 = .ok (.ireturn, 1) := dk172 hX3_readCourt_12
theorem hX3_readCourt_13 : cX3_readCourt.data.toList.drop 13 = sX3_readCourt_13 := dn1 hX3_readCourt_12
theorem dX3_readCourt_13 : decode cX3_readCourt 13 = .ok (.aload_n 0, 1) := dk42 hX3_readCourt_13
theorem hX3_readCourt_14 : cX3_readCourt.data.toList.drop 14 = sX3_readCourt_14 := dn1 hX3_readCourt_13
theorem dX3_readCourt_14 : decode cX3_readCourt 14 = .ok (.iconst 1, 1) := dk4 hX3_readCourt_14
theorem hX3_readCourt_15 : cX3_readCourt.data.toList.drop 15 = sX3_readCourt_15 := dn1 hX3_readCourt_14
theorem dX3_readCourt_15 : decode cX3_readCourt 15 = .ok (.putfield 62, 3) := dk181 hX3_readCourt_15 rfl
theorem hX3_readCourt_18 : cX3_readCourt.data.toList.drop 18 = sX3_readCourt_18 := dn3 hX3_readCourt_15
theorem dX3_readCourt_18 : decode cX3_readCourt 18 = .ok (.aload_n 0, 1) := dk42 hX3_readCourt_18
theorem hX3_readCourt_19 : cX3_readCourt.data.toList.drop 19 = sX3_readCourt_19 := dn1 hX3_readCourt_18
theorem dX3_readCourt_19 : decode cX3_readCourt 19 = .ok (.invokevirtual 75, 3) := dk182 hX3_readCourt_19 rfl
theorem hX3_readCourt_22 : cX3_readCourt.data.toList.drop 22 = sX3_readCourt_22 := dn3 hX3_readCourt_19
theorem dX3_readCourt_22 : decode cX3_readCourt 22 = .ok (.aload_n 0, 1) := dk42 hX3_readCourt_22
theorem hX3_readCourt_23 : cX3_readCourt.data.toList.drop 23 = sX3_readCourt_23 := dn1 hX3_readCourt_22
theorem dX3_readCourt_23 : decode cX3_readCourt 23 = .ok (.getfield 107, 3) := dk180 hX3_readCourt_23 rfl
theorem hX3_readCourt_26 : cX3_readCourt.data.toList.drop 26 = sX3_readCourt_26 := dn3 hX3_readCourt_23
theorem dX3_readCourt_26 : decode cX3_readCourt 26 = .ok (.bipush 8, 2) := dk16 hX3_readCourt_26 (by decide)
theorem hX3_readCourt_28 : cX3_readCourt.data.toList.drop 28 = sX3_readCourt_28 := dn2 hX3_readCourt_26
theorem dX3_readCourt_28 : decode cX3_readCourt 28 = .ok (.if_icmp .eq 9, 3) := dk159 hX3_readCourt_28 (by decide)
theorem hX3_readCourt_31 : cX3_readCourt.data.toList.drop 31 = sX3_readCourt_31 := dn3 hX3_readCourt_28
theorem dX3_readCourt_31 : decode cX3_readCourt 31 = .ok (.aload_n 0, 1) := dk42 hX3_readCourt_31
theorem hX3_readCourt_32 : cX3_readCourt.data.toList.drop 32 = sX3_readCourt_32 := dn1 hX3_readCourt_31
theorem dX3_readCourt_32 : decode cX3_readCourt 32 = .ok (.iconst 1, 1) := dk4 hX3_readCourt_32
theorem hX3_readCourt_33 : cX3_readCourt.data.toList.drop 33 = sX3_readCourt_33 := dn1 hX3_readCourt_32
theorem dX3_readCourt_33 : decode cX3_readCourt 33 = .ok (.invokevirtual 88, 3) := dk182 hX3_readCourt_33 rfl
theorem hX3_readCourt_36 : cX3_readCourt.data.toList.drop 36 = sX3_readCourt_36 := dn3 hX3_readCourt_33
theorem dX3_readCourt_36 : decode cX3_readCourt 36 = .ok (.ireturn, 1) := dk172 hX3_readCourt_36
theorem hX3_readCourt_37 : cX3_readCourt.data.toList.drop 37 = sX3_readCourt_37 := dn1 hX3_readCourt_36
theorem dX3_readCourt_37 : decode cX3_readCourt 37 = .ok (.aload_n 0, 1) := dk42 hX3_readCourt_37
theorem hX3_readCourt_38 : cX3_readCourt.data.toList.drop 38 = sX3_readCourt_38 := dn1 hX3_readCourt_37
theorem dX3_readCourt_38 : decode cX3_readCourt 38 = .ok (.invokevirtual 75, 3) := dk182 hX3_readCourt_38 rfl
theorem hX3_readCourt_41 : cX3_readCourt.data.toList.drop 41 = sX3_readCourt_41 := dn3 hX3_readCourt_38
theorem dX3_readCourt_41 : decode cX3_readCourt 41 = .ok (.aload_n 0, 1) := dk42 hX3_readCourt_41
theorem hX3_readCourt_42 : cX3_readCourt.data.toList.drop 42 = sX3_readCourt_42 := dn1 hX3_readCourt_41
theorem dX3_readCourt_42 : decode cX3_readCourt 42 = .ok (.iconst 0, 1) := dk3 hX3_readCourt_42
theorem hX3_readCourt_43 : cX3_readCourt.data.toList.drop 43 = sX3_readCourt_43 := dn1 hX3_readCourt_42
theorem dX3_readCourt_43 : decode cX3_readCourt 43 = .ok (.bipush 100, 2) := dk16 hX3_readCourt_43 (by decide)
theorem hX3_readCourt_45 : cX3_readCourt.data.toList.drop 45 = sX3_readCourt_45 := dn2 hX3_readCourt_43
theorem dX3_readCourt_45 : decode cX3_readCourt 45 = .ok (.invokevirtual 128, 3) := dk182 hX3_readCourt_45 rfl
theorem hX3_readCourt_48 : cX3_readCourt.data.toList.drop 48 = sX3_readCourt_48 := dn3 hX3_readCourt_45
theorem dX3_readCourt_48 : decode cX3_readCourt 48 = .ok (.ifCond .ne 5, 3) := dk154 hX3_readCourt_48 (by decide)
theorem hX3_readCourt_51 : cX3_readCourt.data.toList.drop 51 = sX3_readCourt_51 := dn3 hX3_readCourt_48
theorem dX3_readCourt_51 : decode cX3_readCourt 51 = .ok (.iconst 0, 1) := dk3 hX3_readCourt_51
theorem hX3_readCourt_52 : cX3_readCourt.data.toList.drop 52 = sX3_readCourt_52 := dn1 hX3_readCourt_51
theorem dX3_readCourt_52 : decode cX3_readCourt 52 = .ok (.ireturn, 1) := dk172 hX3_readCourt_52
theorem hX3_readCourt_53 : cX3_readCourt.data.toList.drop 53 = sX3_readCourt_53 := dn1 hX3_readCourt_52
theorem dX3_readCourt_53 : decode cX3_readCourt 53 = .ok (.aload_n 0, 1) := dk42 hX3_readCourt_53
theorem hX3_readCourt_54 : cX3_readCourt.data.toList.drop 54 = sX3_readCourt_54 := dn1 hX3_readCourt_53
theorem dX3_readCourt_54 : decode cX3_readCourt 54 = .ok (.getfield 18, 3) := dk180 hX3_readCourt_54 rfl
theorem hX3_readCourt_57 : cX3_readCourt.data.toList.drop 57 = sX3_readCourt_57 := dn3 hX3_readCourt_54
theorem dX3_readCourt_57 : decode cX3_readCourt 57 = .ok (.aload_n 0, 1) := dk42 hX3_readCourt_57
theorem hX3_readCourt_58 : cX3_readCourt.data.toList.drop 58 = sX3_readCourt_58 := dn1 hX3_readCourt_57
theorem dX3_readCourt_58 : decode cX3_readCourt 58 = .ok (.getfield 132, 3) := dk180 hX3_readCourt_58 rfl
theorem hX3_readCourt_61 : cX3_readCourt.data.toList.drop 61 = sX3_readCourt_61 := dn3 hX3_readCourt_58
theorem dX3_readCourt_61 : decode cX3_readCourt 61 = .ok (.putfield 135, 3) := dk181 hX3_readCourt_61 rfl
theorem hX3_readCourt_64 : cX3_readCourt.data.toList.drop 64 = sX3_readCourt_64 := dn3 hX3_readCourt_61
theorem dX3_readCourt_64 : decode cX3_readCourt 64 = .ok (.aload_n 0, 1) := dk42 hX3_readCourt_64
theorem hX3_readCourt_65 : cX3_readCourt.data.toList.drop 65 = sX3_readCourt_65 := dn1 hX3_readCourt_64
theorem dX3_readCourt_65 : decode cX3_readCourt 65 = .ok (.invokevirtual 75, 3) := dk182 hX3_readCourt_65 rfl
theorem hX3_readCourt_68 : cX3_readCourt.data.toList.drop 68 = sX3_readCourt_68 := dn3 hX3_readCourt_65
theorem dX3_readCourt_68 : decode cX3_readCourt 68 = .ok (.iconst 1, 1) := dk4 hX3_readCourt_68
theorem hX3_readCourt_69 : cX3_readCourt.data.toList.drop 69 = sX3_readCourt_69 := dn1 hX3_readCourt_68
theorem dX3_readCourt_69 : decode cX3_readCourt 69 = .ok (.ireturn, 1) := dk172 hX3_readCourt_69
noncomputable def sX3_readEnd_57 : List UInt8 := 172 :: []
noncomputable def sX3_readEnd_56 : List UInt8 := 4 :: sX3_readEnd_57
noncomputable def sX3_readEnd_53 : List UInt8 := 181 :: 0 :: 95 :: sX3_readEnd_56
noncomputable def sX3_readEnd_52 : List UInt8 := 100 :: sX3_readEnd_53
noncomputable def sX3_readEnd_51 : List UInt8 := 4 :: sX3_readEnd_52
noncomputable def sX3_readEnd_48 : List UInt8 := 180 :: 0 :: 98 :: sX3_readEnd_51
noncomputable def sX3_readEnd_45 : List UInt8 := 180 :: 0 :: 18 :: sX3_readEnd_48
noncomputable def sX3_readEnd_44 : List UInt8 := 42 :: sX3_readEnd_45
noncomputable def sX3_readEnd_41 : List UInt8 := 180 :: 0 :: 18 :: sX3_readEnd_44
noncomputable def sX3_readEnd_40 : List UInt8 := 42 :: sX3_readEnd_41
noncomputable def sX3_readEnd_37 : List UInt8 := 156 :: 0 :: 19 :: sX3_readEnd_40
noncomputable def sX3_readEnd_34 : List UInt8 := 180 :: 0 :: 95 :: sX3_readEnd_37
noncomputable def sX3_readEnd_31 : List UInt8 := 180 :: 0 :: 18 :: sX3_readEnd_34
noncomputable def sX3_readEnd_30 : List UInt8 := 42 :: sX3_readEnd_31
noncomputable def sX3_readEnd_29 : List UInt8 := 172 :: sX3_readEnd_30
noncomputable def sX3_readEnd_26 : List UInt8 := 182 :: 0 :: 88 :: sX3_readEnd_29
noncomputable def sX3_readEnd_24 : List UInt8 := 16 :: 6 :: sX3_readEnd_26
noncomputable def sX3_readEnd_23 : List UInt8 := 42 :: sX3_readEnd_24
noncomputable def sX3_readEnd_20 : List UInt8 := 154 :: 0 :: 10 :: sX3_readEnd_23
noncomputable def sX3_readEnd_17 : List UInt8 := 180 :: 0 :: 92 :: sX3_readEnd_20
noncomputable def sX3_readEnd_14 : List UInt8 := 180 :: 0 :: 18 :: sX3_readEnd_17
noncomputable def sX3_readEnd_13 : List UInt8 := 42 :: sX3_readEnd_14
noncomputable def sX3_readEnd_12 : List UInt8 := 172 :: sX3_readEnd_13
noncomputable def sX3_readEnd_9 : List UInt8 := 182 :: 0 :: 88 :: sX3_readEnd_12
noncomputable def sX3_readEnd_8 : List UInt8 := 4 :: sX3_readEnd_9
noncomputable def sX3_readEnd_7 : List UInt8 := 42 :: sX3_readEnd_8
noncomputable def sX3_readEnd_4 : List UInt8 := 153 :: 0 :: 9 :: sX3_readEnd_7
noncomputable def sX3_readEnd_1 : List UInt8 := 180 :: 0 :: 82 :: sX3_readEnd_4
noncomputable def sX3_readEnd_0 : List UInt8 := 42 :: sX3_readEnd_1
set_option maxRecDepth 100000 in
theorem hX3_readEnd_0 : cX3_readEnd.data.toList.drop 0 = sX3_readEnd_0 := by decide +kernel
theorem dX3_readEnd_0 : decode cX3_readEnd 0 = .ok (.aload_n 0, 1) := dk42 hX3_readEnd_0
theorem hX3_readEnd_1 : cX3_readEnd.data.toList.drop 1 = sX3_readEnd_1 := dn1 hX3_readEnd_0
theorem dX3_readEnd_1 : decode cX3_readEnd 1 = .ok (.getfield 82, 3) := dk180 hX3_readEnd_1 rfl
theorem hX3_readEnd_4 : cX3_readEnd.data.toList.drop 4 = sX3_readEnd_4 := dn3 hX3_readEnd_1
theorem dX3_readEnd_4 : decode cX3_readEnd 4 = .ok (.ifCond .eq 9, 3) := dk153 hX3_readEnd_4 (by decide)
theorem hX3_readEnd_7 : cX3_readEnd.data.toList.drop 7 = sX3_readEnd_7 := dn3 hX3_readEnd_4
theorem dX3_readEnd_7 : decode cX3_readEnd 7 = .ok (.aload_n 0, 1) := dk42 hX3_readEnd_7
theorem hX3_readEnd_8 : cX3_readEnd.data.toList.drop 8 = sX3_readEnd_8 := dn1 hX3_readEnd_7
theorem dX3_readEnd_8 : decode cX3_readEnd 8 = .ok (.iconst 1, 1) := dk4 hX3_readEnd_8
theorem hX3_readEnd_9 : cX3_readEnd.data.toList.drop 9 = sX3_readEnd_9 := dn1 hX3_readEnd_8
theorem dX3_readEnd_9 : decode cX3_readEnd 9 = .ok (.invokevirtual 88, 3) := dk182 hX3_readEnd_9 rfl
theorem hX3_readEnd_12 : cX3_readEnd.data.toList.drop 12 = sX3_readEnd_12 := dn3 hX3_readEnd_9
theorem dX3_readEnd_12 : decode cX3_readEnd 12 = .ok (.ireturn, 1) := dk172 hX3_readEnd_12
theorem hX3_readEnd_13 : cX3_readEnd.data.toList.drop 13 = sX3_readEnd_13 := dn1 hX3_readEnd_12
theorem dX3_readEnd_13 : decode cX3_readEnd 13 = .ok (.aload_n 0, 1) := dk42 hX3_readEnd_13
theorem hX3_readEnd_14 : cX3_readEnd.data.toList.drop 14 = sX3_readEnd_14 := dn1 hX3_readEnd_13
theorem dX3_readEnd_14 : decode cX3_readEnd 14 = .ok (.getfield 18, 3) := dk180 hX3_readEnd_14 rfl
theorem hX3_readEnd_17 : cX3_readEnd.data.toList.drop 17 = sX3_readEnd_17 := dn3 hX3_readEnd_14
theorem dX3_readEnd_17 : decode cX3_readEnd 17 = .ok (.getfield 92, 3) := dk180 hX3_readEnd_17 rfl
theorem hX3_readEnd_20 : cX3_readEnd.data.toList.drop 20 = sX3_readEnd_20 := dn3 hX3_readEnd_17
theorem dX3_readEnd_20 : decode cX3_readEnd 20 = .ok (.ifCond .ne 10, 3) := dk154 hX3_readEnd_20 (by decide)
theorem hX3_readEnd_23 : cX3_readEnd.data.toList.drop 23 = sX3_readEnd_23 := dn3 hX3_readEnd_20
theorem dX3_readEnd_23 : decode cX3_readEnd 23 = .ok (.aload_n 0, 1) := dk42 hX3_readEnd_23
theorem hX3_readEnd_24 : cX3_readEnd.data.toList.drop 24 = sX3_readEnd_24 := dn1 hX3_readEnd_23
theorem dX3_readEnd_24 : decode cX3_readEnd 24 = .ok (.bipush 6, 2) := dk16 hX3_readEnd_24 (by decide)
theorem hX3_readEnd_26 : cX3_readEnd.data.toList.drop 26 = sX3_readEnd_26 := dn2 hX3_readEnd_24
theorem dX3_readEnd_26 : decode cX3_readEnd 26 = .ok (.invokevirtual 88, 3) := dk182 hX3_readEnd_26 rfl
theorem hX3_readEnd_29 : cX3_readEnd.data.toList.drop 29 = sX3_readEnd_29 := dn3 hX3_readEnd_26
theorem dX3_readEnd_29 : decode cX3_readEnd 29 = .ok (.ireturn, 1) := dk172 hX3_readEnd_29
theorem hX3_readEnd_30 : cX3_readEnd.data.toList.drop 30 = sX3_readEnd_30 := dn1 hX3_readEnd_29
theorem dX3_readEnd_30 : decode cX3_readEnd 30 = .ok (.aload_n 0, 1) := dk42 hX3_readEnd_30
theorem hX3_readEnd_31 : cX3_readEnd.data.toList.drop 31 = sX3_readEnd_31 := dn1 hX3_readEnd_30
theorem dX3_readEnd_31 : decode cX3_readEnd 31 = .ok (.getfield 18, 3) := dk180 hX3_readEnd_31 rfl
theorem hX3_readEnd_34 : cX3_readEnd.data.toList.drop 34 = sX3_readEnd_34 := dn3 hX3_readEnd_31
theorem dX3_readEnd_34 : decode cX3_readEnd 34 = .ok (.getfield 95, 3) := dk180 hX3_readEnd_34 rfl
theorem hX3_readEnd_37 : cX3_readEnd.data.toList.drop 37 = sX3_readEnd_37 := dn3 hX3_readEnd_34
theorem dX3_readEnd_37 : decode cX3_readEnd 37 = .ok (.ifCond .ge 19, 3) := dk156 hX3_readEnd_37 (by decide)
theorem hX3_readEnd_40 : cX3_readEnd.data.toList.drop 40 = sX3_readEnd_40 := dn3 hX3_readEnd_37
theorem dX3_readEnd_40 : decode cX3_readEnd 40 = .ok (.aload_n 0, 1) := dk42 hX3_readEnd_40
theorem hX3_readEnd_41 : cX3_readEnd.data.toList.drop 41 = sX3_readEnd_41 := dn1 hX3_readEnd_40
theorem dX3_readEnd_41 : decode cX3_readEnd 41 = .ok (.getfield 18, 3) := dk180 hX3_readEnd_41 rfl
theorem hX3_readEnd_44 : cX3_readEnd.data.toList.drop 44 = sX3_readEnd_44 := dn3 hX3_readEnd_41
theorem dX3_readEnd_44 : decode cX3_readEnd 44 = .ok (.aload_n 0, 1) := dk42 hX3_readEnd_44
theorem hX3_readEnd_45 : cX3_readEnd.data.toList.drop 45 = sX3_readEnd_45 := dn1 hX3_readEnd_44
theorem dX3_readEnd_45 : decode cX3_readEnd 45 = .ok (.getfield 18, 3) := dk180 hX3_readEnd_45 rfl
theorem hX3_readEnd_48 : cX3_readEnd.data.toList.drop 48 = sX3_readEnd_48 := dn3 hX3_readEnd_45
theorem dX3_readEnd_48 : decode cX3_readEnd 48 = .ok (.getfield 98, 3) := dk180 hX3_readEnd_48 rfl
theorem hX3_readEnd_51 : cX3_readEnd.data.toList.drop 51 = sX3_readEnd_51 := dn3 hX3_readEnd_48
theorem dX3_readEnd_51 : decode cX3_readEnd 51 = .ok (.iconst 1, 1) := dk4 hX3_readEnd_51
theorem hX3_readEnd_52 : cX3_readEnd.data.toList.drop 52 = sX3_readEnd_52 := dn1 hX3_readEnd_51
theorem dX3_readEnd_52 : decode cX3_readEnd 52 = .ok (.isub, 1) := dk100 hX3_readEnd_52
theorem hX3_readEnd_53 : cX3_readEnd.data.toList.drop 53 = sX3_readEnd_53 := dn1 hX3_readEnd_52
theorem dX3_readEnd_53 : decode cX3_readEnd 53 = .ok (.putfield 95, 3) := dk181 hX3_readEnd_53 rfl
theorem hX3_readEnd_56 : cX3_readEnd.data.toList.drop 56 = sX3_readEnd_56 := dn3 hX3_readEnd_53
theorem dX3_readEnd_56 : decode cX3_readEnd 56 = .ok (.iconst 1, 1) := dk4 hX3_readEnd_56
theorem hX3_readEnd_57 : cX3_readEnd.data.toList.drop 57 = sX3_readEnd_57 := dn1 hX3_readEnd_56
theorem dX3_readEnd_57 : decode cX3_readEnd 57 = .ok (.ireturn, 1) := dk172 hX3_readEnd_57
noncomputable def sX3_readLine_122 : List UInt8 := 172 :: []
noncomputable def sX3_readLine_119 : List UInt8 := 182 :: 0 :: 125 :: sX3_readLine_122
noncomputable def sX3_readLine_118 : List UInt8 := 42 :: sX3_readLine_119
noncomputable def sX3_readLine_117 : List UInt8 := 172 :: sX3_readLine_118
noncomputable def sX3_readLine_114 : List UInt8 := 182 :: 0 :: 122 :: sX3_readLine_117
noncomputable def sX3_readLine_113 : List UInt8 := 42 :: sX3_readLine_114
noncomputable def sX3_readLine_112 : List UInt8 := 172 :: sX3_readLine_113
noncomputable def sX3_readLine_109 : List UInt8 := 182 :: 0 :: 119 :: sX3_readLine_112
noncomputable def sX3_readLine_108 : List UInt8 := 42 :: sX3_readLine_109
noncomputable def sX3_readLine_107 : List UInt8 := 172 :: sX3_readLine_108
noncomputable def sX3_readLine_104 : List UInt8 := 182 :: 0 :: 116 :: sX3_readLine_107
noncomputable def sX3_readLine_103 : List UInt8 := 6 :: sX3_readLine_104
noncomputable def sX3_readLine_102 : List UInt8 := 42 :: sX3_readLine_103
noncomputable def sX3_readLine_101 : List UInt8 := 172 :: sX3_readLine_102
noncomputable def sX3_readLine_98 : List UInt8 := 182 :: 0 :: 116 :: sX3_readLine_101
noncomputable def sX3_readLine_97 : List UInt8 := 5 :: sX3_readLine_98
noncomputable def sX3_readLine_96 : List UInt8 := 42 :: sX3_readLine_97
noncomputable def sX3_readLine_95 : List UInt8 := 172 :: sX3_readLine_96
noncomputable def sX3_readLine_92 : List UInt8 := 182 :: 0 :: 116 :: sX3_readLine_95
noncomputable def sX3_readLine_91 : List UInt8 := 4 :: sX3_readLine_92
noncomputable def sX3_readLine_90 : List UInt8 := 42 :: sX3_readLine_91
noncomputable def sX3_readLine_89 : List UInt8 := 172 :: sX3_readLine_90
noncomputable def sX3_readLine_86 : List UInt8 := 182 :: 0 :: 113 :: sX3_readLine_89
noncomputable def sX3_readLine_85 : List UInt8 := 42 :: sX3_readLine_86
noncomputable def sX3_readLine_84 : List UInt8 := 172 :: sX3_readLine_85
noncomputable def sX3_readLine_81 : List UInt8 := 182 :: 0 :: 110 :: sX3_readLine_84
noncomputable def sX3_readLine_80 : List UInt8 := 42 :: sX3_readLine_81
noncomputable def sX3_readLine_39 : List UInt8 := [170, 0, 0, 0, 79, 0, 0, 0, 0, 0, 0, 0, 6, 0, 0, 0, 46, 0, 0, 0, 51, 0, 0, 0, 57, 0, 0, 0, 63, 0, 0, 0, 41, 0, 0, 0, 69, 0, 0, 0, 74] ++ sX3_readLine_80
noncomputable def sX3_readLine_36 : List UInt8 := 180 :: 0 :: 107 :: sX3_readLine_39
noncomputable def sX3_readLine_35 : List UInt8 := 42 :: sX3_readLine_36
noncomputable def sX3_readLine_34 : List UInt8 := 172 :: sX3_readLine_35
noncomputable def sX3_readLine_31 : List UInt8 := 182 :: 0 :: 88 :: sX3_readLine_34
noncomputable def sX3_readLine_29 : List UInt8 := 16 :: 6 :: sX3_readLine_31
noncomputable def sX3_readLine_28 : List UInt8 := 42 :: sX3_readLine_29
noncomputable def sX3_readLine_25 : List UInt8 := 159 :: 0 :: 10 :: sX3_readLine_28
noncomputable def sX3_readLine_24 : List UInt8 := 7 :: sX3_readLine_25
noncomputable def sX3_readLine_21 : List UInt8 := 180 :: 0 :: 107 :: sX3_readLine_24
noncomputable def sX3_readLine_20 : List UInt8 := 42 :: sX3_readLine_21
noncomputable def sX3_readLine_17 : List UInt8 := 154 :: 0 :: 18 :: sX3_readLine_20
noncomputable def sX3_readLine_14 : List UInt8 := 180 :: 0 :: 62 :: sX3_readLine_17
noncomputable def sX3_readLine_13 : List UInt8 := 42 :: sX3_readLine_14
noncomputable def sX3_readLine_12 : List UInt8 := 172 :: sX3_readLine_13
noncomputable def sX3_readLine_9 : List UInt8 := 182 :: 0 :: 88 :: sX3_readLine_12
noncomputable def sX3_readLine_8 : List UInt8 := 4 :: sX3_readLine_9
noncomputable def sX3_readLine_7 : List UInt8 := 42 :: sX3_readLine_8
noncomputable def sX3_readLine_4 : List UInt8 := 154 :: 0 :: 9 :: sX3_readLine_7
noncomputable def sX3_readLine_1 : List UInt8 := 182 :: 0 :: 104 :: sX3_readLine_4
noncomputable def sX3_readLine_0 : List UInt8 := 42 :: sX3_readLine_1
set_option maxRecDepth 100000 in
theorem hX3_readLine_0 : cX3_readLine.data.toList.drop 0 = sX3_readLine_0 := by decide +kernel
theorem dX3_readLine_0 : decode cX3_readLine 0 = .ok (.aload_n 0, 1) := dk42 hX3_readLine_0
theorem hX3_readLine_1 : cX3_readLine.data.toList.drop 1 = sX3_readLine_1 := dn1 hX3_readLine_0
theorem dX3_readLine_1 : decode cX3_readLine 1 = .ok (.invokevirtual 104, 3) := dk182 hX3_readLine_1 rfl
theorem hX3_readLine_4 : cX3_readLine.data.toList.drop 4 = sX3_readLine_4 := dn3 hX3_readLine_1
theorem dX3_readLine_4 : decode cX3_readLine 4 = .ok (.ifCond .ne 9, 3) := dk154 hX3_readLine_4 (by decide)
theorem hX3_readLine_7 : cX3_readLine.data.toList.drop 7 = sX3_readLine_7 := dn3 hX3_readLine_4
theorem dX3_readLine_7 : decode cX3_readLine 7 = .ok (.aload_n 0, 1) := dk42 hX3_readLine_7
theorem hX3_readLine_8 : cX3_readLine.data.toList.drop 8 = sX3_readLine_8 := dn1 hX3_readLine_7
theorem dX3_readLine_8 : decode cX3_readLine 8 = .ok (.iconst 1, 1) := dk4 hX3_readLine_8
theorem hX3_readLine_9 : cX3_readLine.data.toList.drop 9 = sX3_readLine_9 := dn1 hX3_readLine_8
theorem dX3_readLine_9 : decode cX3_readLine 9 = .ok (.invokevirtual 88, 3) := dk182 hX3_readLine_9 rfl
theorem hX3_readLine_12 : cX3_readLine.data.toList.drop 12 = sX3_readLine_12 := dn3 hX3_readLine_9
theorem dX3_readLine_12 : decode cX3_readLine 12 = .ok (.ireturn, 1) := dk172 hX3_readLine_12
theorem hX3_readLine_13 : cX3_readLine.data.toList.drop 13 = sX3_readLine_13 := dn1 hX3_readLine_12
theorem dX3_readLine_13 : decode cX3_readLine 13 = .ok (.aload_n 0, 1) := dk42 hX3_readLine_13
theorem hX3_readLine_14 : cX3_readLine.data.toList.drop 14 = sX3_readLine_14 := dn1 hX3_readLine_13
theorem dX3_readLine_14 : decode cX3_readLine 14 = .ok (.getfield 62, 3) := dk180 hX3_readLine_14 rfl
theorem hX3_readLine_17 : cX3_readLine.data.toList.drop 17 = sX3_readLine_17 := dn3 hX3_readLine_14
theorem dX3_readLine_17 : decode cX3_readLine 17 = .ok (.ifCond .ne 18, 3) := dk154 hX3_readLine_17 (by decide)
theorem hX3_readLine_20 : cX3_readLine.data.toList.drop 20 = sX3_readLine_20 := dn3 hX3_readLine_17
theorem dX3_readLine_20 : decode cX3_readLine 20 = .ok (.aload_n 0, 1) := dk42 hX3_readLine_20
theorem hX3_readLine_21 : cX3_readLine.data.toList.drop 21 = sX3_readLine_21 := dn1 hX3_readLine_20
theorem dX3_readLine_21 : decode cX3_readLine 21 = .ok (.getfield 107, 3) := dk180 hX3_readLine_21 rfl
theorem hX3_readLine_24 : cX3_readLine.data.toList.drop 24 = sX3_readLine_24 := dn3 hX3_readLine_21
theorem dX3_readLine_24 : decode cX3_readLine 24 = .ok (.iconst 4, 1) := dk7 hX3_readLine_24
theorem hX3_readLine_25 : cX3_readLine.data.toList.drop 25 = sX3_readLine_25 := dn1 hX3_readLine_24
theorem dX3_readLine_25 : decode cX3_readLine 25 = .ok (.if_icmp .eq 10, 3) := dk159 hX3_readLine_25 (by decide)
theorem hX3_readLine_28 : cX3_readLine.data.toList.drop 28 = sX3_readLine_28 := dn3 hX3_readLine_25
theorem dX3_readLine_28 : decode cX3_readLine 28 = .ok (.aload_n 0, 1) := dk42 hX3_readLine_28
theorem hX3_readLine_29 : cX3_readLine.data.toList.drop 29 = sX3_readLine_29 := dn1 hX3_readLine_28
theorem dX3_readLine_29 : decode cX3_readLine 29 = .ok (.bipush 6, 2) := dk16 hX3_readLine_29 (by decide)
theorem hX3_readLine_31 : cX3_readLine.data.toList.drop 31 = sX3_readLine_31 := dn2 hX3_readLine_29
theorem dX3_readLine_31 : decode cX3_readLine 31 = .ok (.invokevirtual 88, 3) := dk182 hX3_readLine_31 rfl
theorem hX3_readLine_34 : cX3_readLine.data.toList.drop 34 = sX3_readLine_34 := dn3 hX3_readLine_31
theorem dX3_readLine_34 : decode cX3_readLine 34 = .ok (.ireturn, 1) := dk172 hX3_readLine_34
theorem hX3_readLine_35 : cX3_readLine.data.toList.drop 35 = sX3_readLine_35 := dn1 hX3_readLine_34
theorem dX3_readLine_35 : decode cX3_readLine 35 = .ok (.aload_n 0, 1) := dk42 hX3_readLine_35
theorem hX3_readLine_36 : cX3_readLine.data.toList.drop 36 = sX3_readLine_36 := dn1 hX3_readLine_35
theorem dX3_readLine_36 : decode cX3_readLine 36 = .ok (.getfield 107, 3) := dk180 hX3_readLine_36 rfl
theorem hX3_readLine_39 : cX3_readLine.data.toList.drop 39 = sX3_readLine_39 := dn3 hX3_readLine_36
set_option maxRecDepth 100000 in
theorem dX3_readLine_39 : decode cX3_readLine 39 = .ok (.tableswitch 79 0 6 #[46, 51, 57, 63, 41, 69, 74], 41) := by decide +kernel
theorem hX3_readLine_80 : cX3_readLine.data.toList.drop 80 = sX3_readLine_80 := dnl (n := 41) hX3_readLine_39 rfl
theorem dX3_readLine_80 : decode cX3_readLine 80 = .ok (.aload_n 0, 1) := dk42 hX3_readLine_80
theorem hX3_readLine_81 : cX3_readLine.data.toList.drop 81 = sX3_readLine_81 := dn1 hX3_readLine_80
theorem dX3_readLine_81 : decode cX3_readLine 81 = .ok (.invokevirtual 110, 3) := dk182 hX3_readLine_81 rfl
theorem hX3_readLine_84 : cX3_readLine.data.toList.drop 84 = sX3_readLine_84 := dn3 hX3_readLine_81
theorem dX3_readLine_84 : decode cX3_readLine 84 = .ok (.ireturn, 1) := dk172 hX3_readLine_84
theorem hX3_readLine_85 : cX3_readLine.data.toList.drop 85 = sX3_readLine_85 := dn1 hX3_readLine_84
theorem dX3_readLine_85 : decode cX3_readLine 85 = .ok (.aload_n 0, 1) := dk42 hX3_readLine_85
theorem hX3_readLine_86 : cX3_readLine.data.toList.drop 86 = sX3_readLine_86 := dn1 hX3_readLine_85
theorem dX3_readLine_86 : decode cX3_readLine 86 = .ok (.invokevirtual 113, 3) := dk182 hX3_readLine_86 rfl
theorem hX3_readLine_89 : cX3_readLine.data.toList.drop 89 = sX3_readLine_89 := dn3 hX3_readLine_86
theorem dX3_readLine_89 : decode cX3_readLine 89 = .ok (.ireturn, 1) := dk172 hX3_readLine_89
theorem hX3_readLine_90 : cX3_readLine.data.toList.drop 90 = sX3_readLine_90 := dn1 hX3_readLine_89
theorem dX3_readLine_90 : decode cX3_readLine 90 = .ok (.aload_n 0, 1) := dk42 hX3_readLine_90
theorem hX3_readLine_91 : cX3_readLine.data.toList.drop 91 = sX3_readLine_91 := dn1 hX3_readLine_90
theorem dX3_readLine_91 : decode cX3_readLine 91 = .ok (.iconst 1, 1) := dk4 hX3_readLine_91
theorem hX3_readLine_92 : cX3_readLine.data.toList.drop 92 = sX3_readLine_92 := dn1 hX3_readLine_91
theorem dX3_readLine_92 : decode cX3_readLine 92 = .ok (.invokevirtual 116, 3) := dk182 hX3_readLine_92 rfl
theorem hX3_readLine_95 : cX3_readLine.data.toList.drop 95 = sX3_readLine_95 := dn3 hX3_readLine_92
theorem dX3_readLine_95 : decode cX3_readLine 95 = .ok (.ireturn, 1) := dk172 hX3_readLine_95
theorem hX3_readLine_96 : cX3_readLine.data.toList.drop 96 = sX3_readLine_96 := dn1 hX3_readLine_95
theorem dX3_readLine_96 : decode cX3_readLine 96 = .ok (.aload_n 0, 1) := dk42 hX3_readLine_96
theorem hX3_readLine_97 : cX3_readLine.data.toList.drop 97 = sX3_readLine_97 := dn1 hX3_readLine_96
theorem dX3_readLine_97 : decode cX3_readLine 97 = .ok (.iconst 2, 1) := dk5 hX3_readLine_97
theorem hX3_readLine_98 : cX3_readLine.data.toList.drop 98 = sX3_readLine_98 := dn1 hX3_readLine_97
theorem dX3_readLine_98 : decode cX3_readLine 98 = .ok (.invokevirtual 116, 3) := dk182 hX3_readLine_98 rfl
theorem hX3_readLine_101 : cX3_readLine.data.toList.drop 101 = sX3_readLine_101 := dn3 hX3_readLine_98
theorem dX3_readLine_101 : decode cX3_readLine 101 = .ok (.ireturn, 1) := dk172 hX3_readLine_101
theorem hX3_readLine_102 : cX3_readLine.data.toList.drop 102 = sX3_readLine_102 := dn1 hX3_readLine_101
theorem dX3_readLine_102 : decode cX3_readLine 102 = .ok (.aload_n 0, 1) := dk42 hX3_readLine_102
theorem hX3_readLine_103 : cX3_readLine.data.toList.drop 103 = sX3_readLine_103 := dn1 hX3_readLine_102
theorem dX3_readLine_103 : decode cX3_readLine 103 = .ok (.iconst 3, 1) := dk6 hX3_readLine_103
theorem hX3_readLine_104 : cX3_readLine.data.toList.drop 104 = sX3_readLine_104 := dn1 hX3_readLine_103
theorem dX3_readLine_104 : decode cX3_readLine 104 = .ok (.invokevirtual 116, 3) := dk182 hX3_readLine_104 rfl
theorem hX3_readLine_107 : cX3_readLine.data.toList.drop 107 = sX3_readLine_107 := dn3 hX3_readLine_104
theorem dX3_readLine_107 : decode cX3_readLine 107 = .ok (.ireturn, 1) := dk172 hX3_readLine_107
theorem hX3_readLine_108 : cX3_readLine.data.toList.drop 108 = sX3_readLine_108 := dn1 hX3_readLine_107
theorem dX3_readLine_108 : decode cX3_readLine 108 = .ok (.aload_n 0, 1) := dk42 hX3_readLine_108
theorem hX3_readLine_109 : cX3_readLine.data.toList.drop 109 = sX3_readLine_109 := dn1 hX3_readLine_108
theorem dX3_readLine_109 : decode cX3_readLine 109 = .ok (.invokevirtual 119, 3) := dk182 hX3_readLine_109 rfl
theorem hX3_readLine_112 : cX3_readLine.data.toList.drop 112 = sX3_readLine_112 := dn3 hX3_readLine_109
theorem dX3_readLine_112 : decode cX3_readLine 112 = .ok (.ireturn, 1) := dk172 hX3_readLine_112
theorem hX3_readLine_113 : cX3_readLine.data.toList.drop 113 = sX3_readLine_113 := dn1 hX3_readLine_112
theorem dX3_readLine_113 : decode cX3_readLine 113 = .ok (.aload_n 0, 1) := dk42 hX3_readLine_113
theorem hX3_readLine_114 : cX3_readLine.data.toList.drop 114 = sX3_readLine_114 := dn1 hX3_readLine_113
theorem dX3_readLine_114 : decode cX3_readLine 114 = .ok (.invokevirtual 122, 3) := dk182 hX3_readLine_114 rfl
theorem hX3_readLine_117 : cX3_readLine.data.toList.drop 117 = sX3_readLine_117 := dn3 hX3_readLine_114
theorem dX3_readLine_117 : decode cX3_readLine 117 = .ok (.ireturn, 1) := dk172 hX3_readLine_117
theorem hX3_readLine_118 : cX3_readLine.data.toList.drop 118 = sX3_readLine_118 := dn1 hX3_readLine_117
theorem dX3_readLine_118 : decode cX3_readLine 118 = .ok (.aload_n 0, 1) := dk42 hX3_readLine_118
theorem hX3_readLine_119 : cX3_readLine.data.toList.drop 119 = sX3_readLine_119 := dn1 hX3_readLine_118
theorem dX3_readLine_119 : decode cX3_readLine 119 = .ok (.invokevirtual 125, 3) := dk182 hX3_readLine_119 rfl
theorem hX3_readLine_122 : cX3_readLine.data.toList.drop 122 = sX3_readLine_122 := dn3 hX3_readLine_119
theorem dX3_readLine_122 : decode cX3_readLine 122 = .ok (.ireturn, 1) := dk172 hX3_readLine_122
noncomputable def sX3_readPart_96 : List UInt8 := 172 :: []
noncomputable def sX3_readPart_95 : List UInt8 := 4 :: sX3_readPart_96
noncomputable def sX3_readPart_92 : List UInt8 := 182 :: 0 :: 172 :: sX3_readPart_95
noncomputable def sX3_readPart_91 : List UInt8 := 29 :: sX3_readPart_92
noncomputable def sX3_readPart_90 : List UInt8 := 28 :: sX3_readPart_91
noncomputable def sX3_readPart_87 : List UInt8 := 180 :: 0 :: 18 :: sX3_readPart_90
noncomputable def sX3_readPart_86 : List UInt8 := 42 :: sX3_readPart_87
noncomputable def sX3_readPart_83 : List UInt8 := 182 :: 0 :: 75 :: sX3_readPart_86
noncomputable def sX3_readPart_82 : List UInt8 := 42 :: sX3_readPart_83
noncomputable def sX3_readPart_81 : List UInt8 := 62 :: sX3_readPart_82
noncomputable def sX3_readPart_78 : List UInt8 := 180 :: 0 :: 132 :: sX3_readPart_81
noncomputable def sX3_readPart_77 : List UInt8 := 42 :: sX3_readPart_78
noncomputable def sX3_readPart_76 : List UInt8 := 172 :: sX3_readPart_77
noncomputable def sX3_readPart_75 : List UInt8 := 3 :: sX3_readPart_76
noncomputable def sX3_readPart_72 : List UInt8 := 154 :: 0 :: 5 :: sX3_readPart_75
noncomputable def sX3_readPart_69 : List UInt8 := 182 :: 0 :: 128 :: sX3_readPart_72
noncomputable def sX3_readPart_67 : List UInt8 := 16 :: 9 :: sX3_readPart_69
noncomputable def sX3_readPart_66 : List UInt8 := 4 :: sX3_readPart_67
noncomputable def sX3_readPart_65 : List UInt8 := 42 :: sX3_readPart_66
noncomputable def sX3_readPart_62 : List UInt8 := 160 :: 0 :: 24 :: sX3_readPart_65
noncomputable def sX3_readPart_61 : List UInt8 := 6 :: sX3_readPart_62
noncomputable def sX3_readPart_60 : List UInt8 := 27 :: sX3_readPart_61
noncomputable def sX3_readPart_59 : List UInt8 := 62 :: sX3_readPart_60
noncomputable def sX3_readPart_58 : List UInt8 := 3 :: sX3_readPart_59
noncomputable def sX3_readPart_55 : List UInt8 := 182 :: 0 :: 75 :: sX3_readPart_58
noncomputable def sX3_readPart_54 : List UInt8 := 42 :: sX3_readPart_55
noncomputable def sX3_readPart_53 : List UInt8 := 172 :: sX3_readPart_54
noncomputable def sX3_readPart_50 : List UInt8 := 182 :: 0 :: 88 :: sX3_readPart_53
noncomputable def sX3_readPart_49 : List UInt8 := 8 :: sX3_readPart_50
noncomputable def sX3_readPart_48 : List UInt8 := 42 :: sX3_readPart_49
noncomputable def sX3_readPart_45 : List UInt8 := 154 :: 0 :: 9 :: sX3_readPart_48
noncomputable def sX3_readPart_42 : List UInt8 := 182 :: 0 :: 169 :: sX3_readPart_45
noncomputable def sX3_readPart_39 : List UInt8 := 180 :: 0 :: 18 :: sX3_readPart_42
noncomputable def sX3_readPart_38 : List UInt8 := 42 :: sX3_readPart_39
noncomputable def sX3_readPart_37 : List UInt8 := 172 :: sX3_readPart_38
noncomputable def sX3_readPart_34 : List UInt8 := 182 :: 0 :: 88 :: sX3_readPart_37
noncomputable def sX3_readPart_33 : List UInt8 := 6 :: sX3_readPart_34
noncomputable def sX3_readPart_32 : List UInt8 := 42 :: sX3_readPart_33
noncomputable def sX3_readPart_29 : List UInt8 := 155 :: 0 :: 9 :: sX3_readPart_32
noncomputable def sX3_readPart_26 : List UInt8 := 182 :: 0 :: 165 :: sX3_readPart_29
noncomputable def sX3_readPart_25 : List UInt8 := 28 :: sX3_readPart_26
noncomputable def sX3_readPart_22 : List UInt8 := 180 :: 0 :: 98 :: sX3_readPart_25
noncomputable def sX3_readPart_19 : List UInt8 := 180 :: 0 :: 18 :: sX3_readPart_22
noncomputable def sX3_readPart_18 : List UInt8 := 42 :: sX3_readPart_19
noncomputable def sX3_readPart_15 : List UInt8 := 180 :: 0 :: 18 :: sX3_readPart_18
noncomputable def sX3_readPart_14 : List UInt8 := 42 :: sX3_readPart_15
noncomputable def sX3_readPart_13 : List UInt8 := 61 :: sX3_readPart_14
noncomputable def sX3_readPart_10 : List UInt8 := 182 :: 0 :: 161 :: sX3_readPart_13
noncomputable def sX3_readPart_9 : List UInt8 := 42 :: sX3_readPart_10
noncomputable def sX3_readPart_8 : List UInt8 := 172 :: sX3_readPart_9
noncomputable def sX3_readPart_7 : List UInt8 := 3 :: sX3_readPart_8
noncomputable def sX3_readPart_4 : List UInt8 := 154 :: 0 :: 5 :: sX3_readPart_7
noncomputable def sX3_readPart_1 : List UInt8 := 182 :: 0 :: 158 :: sX3_readPart_4
noncomputable def sX3_readPart_0 : List UInt8 := 42 :: sX3_readPart_1
set_option maxRecDepth 100000 in
theorem hX3_readPart_0 : cX3_readPart.data.toList.drop 0 = sX3_readPart_0 := by decide +kernel
theorem dX3_readPart_0 : decode cX3_readPart 0 = .ok (.aload_n 0, 1) := dk42 hX3_readPart_0
theorem hX3_readPart_1 : cX3_readPart.data.toList.drop 1 = sX3_readPart_1 := dn1 hX3_readPart_0
theorem dX3_readPart_1 : decode cX3_readPart 1 = .ok (.invokevirtual 158, 3) := dk182 hX3_readPart_1 rfl
theorem hX3_readPart_4 : cX3_readPart.data.toList.drop 4 = sX3_readPart_4 := dn3 hX3_readPart_1
theorem dX3_readPart_4 : decode cX3_readPart 4 = .ok (.ifCond .ne 5, 3) := dk154 hX3_readPart_4 (by decide)
theorem hX3_readPart_7 : cX3_readPart.data.toList.drop 7 = sX3_readPart_7 := dn3 hX3_readPart_4
theorem dX3_readPart_7 : decode cX3_readPart 7 = .ok (.iconst 0, 1) := dk3 hX3_readPart_7
theorem hX3_readPart_8 : cX3_readPart.data.toList.drop 8 = sX3_readPart_8 := dn1 hX3_readPart_7
theorem dX3_readPart_8 : decode cX3_readPart 8 = .ok (.ireturn, 1) := dk172 hX3_readPart_8
theorem hX3_readPart_9 : cX3_readPart.data.toList.drop 9 = sX3_readPart_9 := dn1 hX3_readPart_8
theorem dX3_readPart_9 : decode cX3_readPart 9 = .ok (.aload_n 0, 1) := dk42 hX3_readPart_9
theorem hX3_readPart_10 : cX3_readPart.data.toList.drop 10 = sX3_readPart_10 := dn1 hX3_readPart_9
theorem dX3_readPart_10 : decode cX3_readPart 10 = .ok (.invokevirtual 161, 3) := dk182 hX3_readPart_10 rfl
theorem hX3_readPart_13 : cX3_readPart.data.toList.drop 13 = sX3_readPart_13 := dn3 hX3_readPart_10
theorem dX3_readPart_13 : decode cX3_readPart 13 = .ok (.istore_n 2, 1) := dk61 hX3_readPart_13
theorem hX3_readPart_14 : cX3_readPart.data.toList.drop 14 = sX3_readPart_14 := dn1 hX3_readPart_13
theorem dX3_readPart_14 : decode cX3_readPart 14 = .ok (.aload_n 0, 1) := dk42 hX3_readPart_14
theorem hX3_readPart_15 : cX3_readPart.data.toList.drop 15 = sX3_readPart_15 := dn1 hX3_readPart_14
theorem dX3_readPart_15 : decode cX3_readPart 15 = .ok (.getfield 18, 3) := dk180 hX3_readPart_15 rfl
theorem hX3_readPart_18 : cX3_readPart.data.toList.drop 18 = sX3_readPart_18 := dn3 hX3_readPart_15
theorem dX3_readPart_18 : decode cX3_readPart 18 = .ok (.aload_n 0, 1) := dk42 hX3_readPart_18
theorem hX3_readPart_19 : cX3_readPart.data.toList.drop 19 = sX3_readPart_19 := dn1 hX3_readPart_18
theorem dX3_readPart_19 : decode cX3_readPart 19 = .ok (.getfield 18, 3) := dk180 hX3_readPart_19 rfl
theorem hX3_readPart_22 : cX3_readPart.data.toList.drop 22 = sX3_readPart_22 := dn3 hX3_readPart_19
theorem dX3_readPart_22 : decode cX3_readPart 22 = .ok (.getfield 98, 3) := dk180 hX3_readPart_22 rfl
theorem hX3_readPart_25 : cX3_readPart.data.toList.drop 25 = sX3_readPart_25 := dn3 hX3_readPart_22
theorem dX3_readPart_25 : decode cX3_readPart 25 = .ok (.iload_n 2, 1) := dk28 hX3_readPart_25
theorem hX3_readPart_26 : cX3_readPart.data.toList.drop 26 = sX3_readPart_26 := dn1 hX3_readPart_25
theorem dX3_readPart_26 : decode cX3_readPart 26 = .ok (.invokevirtual 165, 3) := dk182 hX3_readPart_26 rfl
theorem hX3_readPart_29 : cX3_readPart.data.toList.drop 29 = sX3_readPart_29 := dn3 hX3_readPart_26
theorem dX3_readPart_29 : decode cX3_readPart 29 = .ok (.ifCond .lt 9, 3) := dk155 hX3_readPart_29 (by decide)
theorem hX3_readPart_32 : cX3_readPart.data.toList.drop 32 = sX3_readPart_32 := dn3 hX3_readPart_29
theorem dX3_readPart_32 : decode cX3_readPart 32 = .ok (.aload_n 0, 1) := dk42 hX3_readPart_32
theorem hX3_readPart_33 : cX3_readPart.data.toList.drop 33 = sX3_readPart_33 := dn1 hX3_readPart_32
theorem dX3_readPart_33 : decode cX3_readPart 33 = .ok (.iconst 3, 1) := dk6 hX3_readPart_33
theorem hX3_readPart_34 : cX3_readPart.data.toList.drop 34 = sX3_readPart_34 := dn1 hX3_readPart_33
theorem dX3_readPart_34 : decode cX3_readPart 34 = .ok (.invokevirtual 88, 3) := dk182 hX3_readPart_34 rfl
theorem hX3_readPart_37 : cX3_readPart.data.toList.drop 37 = sX3_readPart_37 := dn3 hX3_readPart_34
theorem dX3_readPart_37 : decode cX3_readPart 37 = .ok (.ireturn, 1) := dk172 hX3_readPart_37
theorem hX3_readPart_38 : cX3_readPart.data.toList.drop 38 = sX3_readPart_38 := dn1 hX3_readPart_37
theorem dX3_readPart_38 : decode cX3_readPart 38 = .ok (.aload_n 0, 1) := dk42 hX3_readPart_38
theorem hX3_readPart_39 : cX3_readPart.data.toList.drop 39 = sX3_readPart_39 := dn1 hX3_readPart_38
theorem dX3_readPart_39 : decode cX3_readPart 39 = .ok (.getfield 18, 3) := dk180 hX3_readPart_39 rfl
theorem hX3_readPart_42 : cX3_readPart.data.toList.drop 42 = sX3_readPart_42 := dn3 hX3_readPart_39
theorem dX3_readPart_42 : decode cX3_readPart 42 = .ok (.invokevirtual 169, 3) := dk182 hX3_readPart_42 rfl
theorem hX3_readPart_45 : cX3_readPart.data.toList.drop 45 = sX3_readPart_45 := dn3 hX3_readPart_42
theorem dX3_readPart_45 : decode cX3_readPart 45 = .ok (.ifCond .ne 9, 3) := dk154 hX3_readPart_45 (by decide)
theorem hX3_readPart_48 : cX3_readPart.data.toList.drop 48 = sX3_readPart_48 := dn3 hX3_readPart_45
theorem dX3_readPart_48 : decode cX3_readPart 48 = .ok (.aload_n 0, 1) := dk42 hX3_readPart_48
theorem hX3_readPart_49 : cX3_readPart.data.toList.drop 49 = sX3_readPart_49 := dn1 hX3_readPart_48
theorem dX3_readPart_49 : decode cX3_readPart 49 = .ok (.iconst 5, 1) := dk8 hX3_readPart_49
theorem hX3_readPart_50 : cX3_readPart.data.toList.drop 50 = sX3_readPart_50 := dn1 hX3_readPart_49
theorem dX3_readPart_50 : decode cX3_readPart 50 = .ok (.invokevirtual 88, 3) := dk182 hX3_readPart_50 rfl
theorem hX3_readPart_53 : cX3_readPart.data.toList.drop 53 = sX3_readPart_53 := dn3 hX3_readPart_50
theorem dX3_readPart_53 : decode cX3_readPart 53 = .ok (.ireturn, 1) := dk172 hX3_readPart_53
theorem hX3_readPart_54 : cX3_readPart.data.toList.drop 54 = sX3_readPart_54 := dn1 hX3_readPart_53
theorem dX3_readPart_54 : decode cX3_readPart 54 = .ok (.aload_n 0, 1) := dk42 hX3_readPart_54
theorem hX3_readPart_55 : cX3_readPart.data.toList.drop 55 = sX3_readPart_55 := dn1 hX3_readPart_54
theorem dX3_readPart_55 : decode cX3_readPart 55 = .ok (.invokevirtual 75, 3) := dk182 hX3_readPart_55 rfl
theorem hX3_readPart_58 : cX3_readPart.data.toList.drop 58 = sX3_readPart_58 := dn3 hX3_readPart_55
theorem dX3_readPart_58 : decode cX3_readPart 58 = .ok (.iconst 0, 1) := dk3 hX3_readPart_58
theorem hX3_readPart_59 : cX3_readPart.data.toList.drop 59 = sX3_readPart_59 := dn1 hX3_readPart_58
theorem dX3_readPart_59 : decode cX3_readPart 59 = .ok (.istore_n 3, 1) := dk62 hX3_readPart_59
theorem hX3_readPart_60 : cX3_readPart.data.toList.drop 60 = sX3_readPart_60 := dn1 hX3_readPart_59
theorem dX3_readPart_60 : decode cX3_readPart 60 = .ok (.iload_n 1, 1) := dk27 hX3_readPart_60
theorem hX3_readPart_61 : cX3_readPart.data.toList.drop 61 = sX3_readPart_61 := dn1 hX3_readPart_60
theorem dX3_readPart_61 : decode cX3_readPart 61 = .ok (.iconst 3, 1) := dk6 hX3_readPart_61
theorem hX3_readPart_62 : cX3_readPart.data.toList.drop 62 = sX3_readPart_62 := dn1 hX3_readPart_61
theorem dX3_readPart_62 : decode cX3_readPart 62 = .ok (.if_icmp .ne 24, 3) := dk160 hX3_readPart_62 (by decide)
theorem hX3_readPart_65 : cX3_readPart.data.toList.drop 65 = sX3_readPart_65 := dn3 hX3_readPart_62
theorem dX3_readPart_65 : decode cX3_readPart 65 = .ok (.aload_n 0, 1) := dk42 hX3_readPart_65
theorem hX3_readPart_66 : cX3_readPart.data.toList.drop 66 = sX3_readPart_66 := dn1 hX3_readPart_65
theorem dX3_readPart_66 : decode cX3_readPart 66 = .ok (.iconst 1, 1) := dk4 hX3_readPart_66
theorem hX3_readPart_67 : cX3_readPart.data.toList.drop 67 = sX3_readPart_67 := dn1 hX3_readPart_66
theorem dX3_readPart_67 : decode cX3_readPart 67 = .ok (.bipush 9, 2) := dk16 hX3_readPart_67 (by decide)
theorem hX3_readPart_69 : cX3_readPart.data.toList.drop 69 = sX3_readPart_69 := dn2 hX3_readPart_67
theorem dX3_readPart_69 : decode cX3_readPart 69 = .ok (.invokevirtual 128, 3) := dk182 hX3_readPart_69 rfl
theorem hX3_readPart_72 : cX3_readPart.data.toList.drop 72 = sX3_readPart_72 := dn3 hX3_readPart_69
theorem dX3_readPart_72 : decode cX3_readPart 72 = .ok (.ifCond .ne 5, 3) := dk154 hX3_readPart_72 (by decide)
theorem hX3_readPart_75 : cX3_readPart.data.toList.drop 75 = sX3_readPart_75 := dn3 hX3_readPart_72
theorem dX3_readPart_75 : decode cX3_readPart 75 = .ok (.iconst 0, 1) := dk3 hX3_readPart_75
theorem hX3_readPart_76 : cX3_readPart.data.toList.drop 76 = sX3_readPart_76 := dn1 hX3_readPart_75
theorem dX3_readPart_76 : decode cX3_readPart 76 = .ok (.ireturn, 1) := dk172 hX3_readPart_76
theorem hX3_readPart_77 : cX3_readPart.data.toList.drop 77 = sX3_readPart_77 := dn1 hX3_readPart_76
theorem dX3_readPart_77 : decode cX3_readPart 77 = .ok (.aload_n 0, 1) := dk42 hX3_readPart_77
theorem hX3_readPart_78 : cX3_readPart.data.toList.drop 78 = sX3_readPart_78 := dn1 hX3_readPart_77
theorem dX3_readPart_78 : decode cX3_readPart 78 = .ok (.getfield 132, 3) := dk180 hX3_readPart_78 rfl
theorem hX3_readPart_81 : cX3_readPart.data.toList.drop 81 = sX3_readPart_81 := dn3 hX3_readPart_78
theorem dX3_readPart_81 : decode cX3_readPart 81 = .ok (.istore_n 3, 1) := dk62 hX3_readPart_81
theorem hX3_readPart_82 : cX3_readPart.data.toList.drop 82 = sX3_readPart_82 := dn1 hX3_readPart_81
theorem dX3_readPart_82 : decode cX3_readPart 82 = .ok (.aload_n 0, 1) := dk42 hX3_readPart_82
theorem hX3_readPart_83 : cX3_readPart.data.toList.drop 83 = sX3_readPart_83 := dn1 hX3_readPart_82
theorem dX3_readPart_83 : decode cX3_readPart 83 = .ok (.invokevirtual 75, 3) := dk182 hX3_readPart_83 rfl
theorem hX3_readPart_86 : cX3_readPart.data.toList.drop 86 = sX3_readPart_86 := dn3 hX3_readPart_83
theorem dX3_readPart_86 : decode cX3_readPart 86 = .ok (.aload_n 0, 1) := dk42 hX3_readPart_86
theorem hX3_readPart_87 : cX3_readPart.data.toList.drop 87 = sX3_readPart_87 := dn1 hX3_readPart_86
theorem dX3_readPart_87 : decode cX3_readPart 87 = .ok (.getfield 18, 3) := dk180 hX3_readPart_87 rfl
theorem hX3_readPart_90 : cX3_readPart.data.toList.drop 90 = sX3_readPart_90 := dn3 hX3_readPart_87
theorem dX3_readPart_90 : decode cX3_readPart 90 = .ok (.iload_n 2, 1) := dk28 hX3_readPart_90
theorem hX3_readPart_91 : cX3_readPart.data.toList.drop 91 = sX3_readPart_91 := dn1 hX3_readPart_90
theorem dX3_readPart_91 : decode cX3_readPart 91 = .ok (.iload_n 3, 1) := dk29 hX3_readPart_91
theorem hX3_readPart_92 : cX3_readPart.data.toList.drop 92 = sX3_readPart_92 := dn1 hX3_readPart_91
theorem dX3_readPart_92 : decode cX3_readPart 92 = .ok (.invokevirtual 172, 3) := dk182 hX3_readPart_92 rfl
theorem hX3_readPart_95 : cX3_readPart.data.toList.drop 95 = sX3_readPart_95 := dn3 hX3_readPart_92
theorem dX3_readPart_95 : decode cX3_readPart 95 = .ok (.iconst 1, 1) := dk4 hX3_readPart_95
theorem hX3_readPart_96 : cX3_readPart.data.toList.drop 96 = sX3_readPart_96 := dn1 hX3_readPart_95
theorem dX3_readPart_96 : decode cX3_readPart 96 = .ok (.ireturn, 1) := dk172 hX3_readPart_96
noncomputable def sX3_readRuler_106 : List UInt8 := 172 :: []
noncomputable def sX3_readRuler_104 : List UInt8 := 21 :: 4 :: sX3_readRuler_106
noncomputable def sX3_readRuler_101 : List UInt8 := 182 :: 0 :: 151 :: sX3_readRuler_104
noncomputable def sX3_readRuler_100 : List UInt8 := 3 :: sX3_readRuler_101
noncomputable def sX3_readRuler_99 : List UInt8 := 32 :: sX3_readRuler_100
noncomputable def sX3_readRuler_98 : List UInt8 := 42 :: sX3_readRuler_99
noncomputable def sX3_readRuler_95 : List UInt8 := 153 :: 0 :: 9 :: sX3_readRuler_98
noncomputable def sX3_readRuler_93 : List UInt8 := 21 :: 4 :: sX3_readRuler_95
noncomputable def sX3_readRuler_90 : List UInt8 := 167 :: 255 :: 223 :: sX3_readRuler_93
noncomputable def sX3_readRuler_87 : List UInt8 := 132 :: 5 :: 1 :: sX3_readRuler_90
noncomputable def sX3_readRuler_85 : List UInt8 := 54 :: 4 :: sX3_readRuler_87
noncomputable def sX3_readRuler_82 : List UInt8 := 182 :: 0 :: 155 :: sX3_readRuler_85
noncomputable def sX3_readRuler_81 : List UInt8 := 27 :: sX3_readRuler_82
noncomputable def sX3_readRuler_80 : List UInt8 := 42 :: sX3_readRuler_81
noncomputable def sX3_readRuler_77 : List UInt8 := 182 :: 0 :: 75 :: sX3_readRuler_80
noncomputable def sX3_readRuler_76 : List UInt8 := 42 :: sX3_readRuler_77
noncomputable def sX3_readRuler_73 : List UInt8 := 160 :: 0 :: 20 :: sX3_readRuler_76
noncomputable def sX3_readRuler_72 : List UInt8 := 7 :: sX3_readRuler_73
noncomputable def sX3_readRuler_69 : List UInt8 := 180 :: 0 :: 82 :: sX3_readRuler_72
noncomputable def sX3_readRuler_68 : List UInt8 := 42 :: sX3_readRuler_69
noncomputable def sX3_readRuler_65 : List UInt8 := 153 :: 0 :: 28 :: sX3_readRuler_68
noncomputable def sX3_readRuler_63 : List UInt8 := 21 :: 4 :: sX3_readRuler_65
noncomputable def sX3_readRuler_60 : List UInt8 := 163 :: 0 :: 33 :: sX3_readRuler_63
noncomputable def sX3_readRuler_59 : List UInt8 := 7 :: sX3_readRuler_60
noncomputable def sX3_readRuler_57 : List UInt8 := 21 :: 5 :: sX3_readRuler_59
noncomputable def sX3_readRuler_55 : List UInt8 := 54 :: 5 :: sX3_readRuler_57
noncomputable def sX3_readRuler_54 : List UInt8 := 3 :: sX3_readRuler_55
noncomputable def sX3_readRuler_52 : List UInt8 := 54 :: 4 :: sX3_readRuler_54
noncomputable def sX3_readRuler_49 : List UInt8 := 182 :: 0 :: 155 :: sX3_readRuler_52
noncomputable def sX3_readRuler_48 : List UInt8 := 27 :: sX3_readRuler_49
noncomputable def sX3_readRuler_47 : List UInt8 := 42 :: sX3_readRuler_48
noncomputable def sX3_readRuler_44 : List UInt8 := 182 :: 0 :: 75 :: sX3_readRuler_47
noncomputable def sX3_readRuler_43 : List UInt8 := 42 :: sX3_readRuler_44
noncomputable def sX3_readRuler_42 : List UInt8 := 65 :: sX3_readRuler_43
noncomputable def sX3_readRuler_39 : List UInt8 := 180 :: 0 :: 147 :: sX3_readRuler_42
noncomputable def sX3_readRuler_38 : List UInt8 := 42 :: sX3_readRuler_39
noncomputable def sX3_readRuler_37 : List UInt8 := 172 :: sX3_readRuler_38
noncomputable def sX3_readRuler_36 : List UInt8 := 3 :: sX3_readRuler_37
noncomputable def sX3_readRuler_33 : List UInt8 := 154 :: 0 :: 5 :: sX3_readRuler_36
noncomputable def sX3_readRuler_30 : List UInt8 := 182 :: 0 :: 144 :: sX3_readRuler_33
noncomputable def sX3_readRuler_29 : List UInt8 := 42 :: sX3_readRuler_30
noncomputable def sX3_readRuler_26 : List UInt8 := 182 :: 0 :: 75 :: sX3_readRuler_29
noncomputable def sX3_readRuler_25 : List UInt8 := 42 :: sX3_readRuler_26
noncomputable def sX3_readRuler_22 : List UInt8 := 182 :: 0 :: 140 :: sX3_readRuler_25
noncomputable def sX3_readRuler_21 : List UInt8 := 27 :: sX3_readRuler_22
noncomputable def sX3_readRuler_18 : List UInt8 := 180 :: 0 :: 18 :: sX3_readRuler_21
noncomputable def sX3_readRuler_17 : List UInt8 := 42 :: sX3_readRuler_18
noncomputable def sX3_readRuler_16 : List UInt8 := 172 :: sX3_readRuler_17
noncomputable def sX3_readRuler_13 : List UInt8 := 182 :: 0 :: 88 :: sX3_readRuler_16
noncomputable def sX3_readRuler_12 : List UInt8 := 8 :: sX3_readRuler_13
noncomputable def sX3_readRuler_11 : List UInt8 := 42 :: sX3_readRuler_12
noncomputable def sX3_readRuler_8 : List UInt8 := 154 :: 0 :: 9 :: sX3_readRuler_11
noncomputable def sX3_readRuler_5 : List UInt8 := 182 :: 0 :: 137 :: sX3_readRuler_8
noncomputable def sX3_readRuler_4 : List UInt8 := 27 :: sX3_readRuler_5
noncomputable def sX3_readRuler_1 : List UInt8 := 180 :: 0 :: 18 :: sX3_readRuler_4
noncomputable def sX3_readRuler_0 : List UInt8 := 42 :: sX3_readRuler_1
set_option maxRecDepth 100000 in
theorem hX3_readRuler_0 : cX3_readRuler.data.toList.drop 0 = sX3_readRuler_0 := by decide +kernel
theorem dX3_readRuler_0 : decode cX3_readRuler 0 = .ok (.aload_n 0, 1) := dk42 hX3_readRuler_0
theorem hX3_readRuler_1 : cX3_readRuler.data.toList.drop 1 = sX3_readRuler_1 := dn1 hX3_readRuler_0
theorem dX3_readRuler_1 : decode cX3_readRuler 1 = .ok (.getfield 18, 3) := dk180 hX3_readRuler_1 rfl
theorem hX3_readRuler_4 : cX3_readRuler.data.toList.drop 4 = sX3_readRuler_4 := dn3 hX3_readRuler_1
theorem dX3_readRuler_4 : decode cX3_readRuler 4 = .ok (.iload_n 1, 1) := dk27 hX3_readRuler_4
theorem hX3_readRuler_5 : cX3_readRuler.data.toList.drop 5 = sX3_readRuler_5 := dn1 hX3_readRuler_4
theorem dX3_readRuler_5 : decode cX3_readRuler 5 = .ok (.invokevirtual 137, 3) := dk182 hX3_readRuler_5 rfl
theorem hX3_readRuler_8 : cX3_readRuler.data.toList.drop 8 = sX3_readRuler_8 := dn3 hX3_readRuler_5
theorem dX3_readRuler_8 : decode cX3_readRuler 8 = .ok (.ifCond .ne 9, 3) := dk154 hX3_readRuler_8 (by decide)
theorem hX3_readRuler_11 : cX3_readRuler.data.toList.drop 11 = sX3_readRuler_11 := dn3 hX3_readRuler_8
theorem dX3_readRuler_11 : decode cX3_readRuler 11 = .ok (.aload_n 0, 1) := dk42 hX3_readRuler_11
theorem hX3_readRuler_12 : cX3_readRuler.data.toList.drop 12 = sX3_readRuler_12 := dn1 hX3_readRuler_11
theorem dX3_readRuler_12 : decode cX3_readRuler 12 = .ok (.iconst 5, 1) := dk8 hX3_readRuler_12
theorem hX3_readRuler_13 : cX3_readRuler.data.toList.drop 13 = sX3_readRuler_13 := dn1 hX3_readRuler_12
theorem dX3_readRuler_13 : decode cX3_readRuler 13 = .ok (.invokevirtual 88, 3) := dk182 hX3_readRuler_13 rfl
theorem hX3_readRuler_16 : cX3_readRuler.data.toList.drop 16 = sX3_readRuler_16 := dn3 hX3_readRuler_13
theorem dX3_readRuler_16 : decode cX3_readRuler 16 = .ok (.ireturn, 1) := dk172 hX3_readRuler_16
theorem hX3_readRuler_17 : cX3_readRuler.data.toList.drop 17 = sX3_readRuler_17 := dn1 hX3_readRuler_16
theorem dX3_readRuler_17 : decode cX3_readRuler 17 = .ok (.aload_n 0, 1) := dk42 hX3_readRuler_17
theorem hX3_readRuler_18 : cX3_readRuler.data.toList.drop 18 = sX3_readRuler_18 := dn1 hX3_readRuler_17
theorem dX3_readRuler_18 : decode cX3_readRuler 18 = .ok (.getfield 18, 3) := dk180 hX3_readRuler_18 rfl
theorem hX3_readRuler_21 : cX3_readRuler.data.toList.drop 21 = sX3_readRuler_21 := dn3 hX3_readRuler_18
theorem dX3_readRuler_21 : decode cX3_readRuler 21 = .ok (.iload_n 1, 1) := dk27 hX3_readRuler_21
theorem hX3_readRuler_22 : cX3_readRuler.data.toList.drop 22 = sX3_readRuler_22 := dn1 hX3_readRuler_21
theorem dX3_readRuler_22 : decode cX3_readRuler 22 = .ok (.invokevirtual 140, 3) := dk182 hX3_readRuler_22 rfl
theorem hX3_readRuler_25 : cX3_readRuler.data.toList.drop 25 = sX3_readRuler_25 := dn3 hX3_readRuler_22
theorem dX3_readRuler_25 : decode cX3_readRuler 25 = .ok (.aload_n 0, 1) := dk42 hX3_readRuler_25
theorem hX3_readRuler_26 : cX3_readRuler.data.toList.drop 26 = sX3_readRuler_26 := dn1 hX3_readRuler_25
theorem dX3_readRuler_26 : decode cX3_readRuler 26 = .ok (.invokevirtual 75, 3) := dk182 hX3_readRuler_26 rfl
theorem hX3_readRuler_29 : cX3_readRuler.data.toList.drop 29 = sX3_readRuler_29 := dn3 hX3_readRuler_26
theorem dX3_readRuler_29 : decode cX3_readRuler 29 = .ok (.aload_n 0, 1) := dk42 hX3_readRuler_29
theorem hX3_readRuler_30 : cX3_readRuler.data.toList.drop 30 = sX3_readRuler_30 := dn1 hX3_readRuler_29
theorem dX3_readRuler_30 : decode cX3_readRuler 30 = .ok (.invokevirtual 144, 3) := dk182 hX3_readRuler_30 rfl
theorem hX3_readRuler_33 : cX3_readRuler.data.toList.drop 33 = sX3_readRuler_33 := dn3 hX3_readRuler_30
theorem dX3_readRuler_33 : decode cX3_readRuler 33 = .ok (.ifCond .ne 5, 3) := dk154 hX3_readRuler_33 (by decide)
theorem hX3_readRuler_36 : cX3_readRuler.data.toList.drop 36 = sX3_readRuler_36 := dn3 hX3_readRuler_33
theorem dX3_readRuler_36 : decode cX3_readRuler 36 = .ok (.iconst 0, 1) := dk3 hX3_readRuler_36
theorem hX3_readRuler_37 : cX3_readRuler.data.toList.drop 37 = sX3_readRuler_37 := dn1 hX3_readRuler_36
theorem dX3_readRuler_37 : decode cX3_readRuler 37 = .ok (.ireturn, 1) := dk172 hX3_readRuler_37
theorem hX3_readRuler_38 : cX3_readRuler.data.toList.drop 38 = sX3_readRuler_38 := dn1 hX3_readRuler_37
theorem dX3_readRuler_38 : decode cX3_readRuler 38 = .ok (.aload_n 0, 1) := dk42 hX3_readRuler_38
theorem hX3_readRuler_39 : cX3_readRuler.data.toList.drop 39 = sX3_readRuler_39 := dn1 hX3_readRuler_38
theorem dX3_readRuler_39 : decode cX3_readRuler 39 = .ok (.getfield 147, 3) := dk180 hX3_readRuler_39 rfl
theorem hX3_readRuler_42 : cX3_readRuler.data.toList.drop 42 = sX3_readRuler_42 := dn3 hX3_readRuler_39
theorem dX3_readRuler_42 : decode cX3_readRuler 42 = .ok (.lstore_n 2, 1) := dk65 hX3_readRuler_42
theorem hX3_readRuler_43 : cX3_readRuler.data.toList.drop 43 = sX3_readRuler_43 := dn1 hX3_readRuler_42
theorem dX3_readRuler_43 : decode cX3_readRuler 43 = .ok (.aload_n 0, 1) := dk42 hX3_readRuler_43
theorem hX3_readRuler_44 : cX3_readRuler.data.toList.drop 44 = sX3_readRuler_44 := dn1 hX3_readRuler_43
theorem dX3_readRuler_44 : decode cX3_readRuler 44 = .ok (.invokevirtual 75, 3) := dk182 hX3_readRuler_44 rfl
theorem hX3_readRuler_47 : cX3_readRuler.data.toList.drop 47 = sX3_readRuler_47 := dn3 hX3_readRuler_44
theorem dX3_readRuler_47 : decode cX3_readRuler 47 = .ok (.aload_n 0, 1) := dk42 hX3_readRuler_47
theorem hX3_readRuler_48 : cX3_readRuler.data.toList.drop 48 = sX3_readRuler_48 := dn1 hX3_readRuler_47
theorem dX3_readRuler_48 : decode cX3_readRuler 48 = .ok (.iload_n 1, 1) := dk27 hX3_readRuler_48
theorem hX3_readRuler_49 : cX3_readRuler.data.toList.drop 49 = sX3_readRuler_49 := dn1 hX3_readRuler_48
theorem dX3_readRuler_49 : decode cX3_readRuler 49 = .ok (.invokevirtual 155, 3) := dk182 hX3_readRuler_49 rfl
theorem hX3_readRuler_52 : cX3_readRuler.data.toList.drop 52 = sX3_readRuler_52 := dn3 hX3_readRuler_49
theorem dX3_readRuler_52 : decode cX3_readRuler 52 = .ok (.istore 4, 2) := dk54 hX3_readRuler_52 rfl
theorem hX3_readRuler_54 : cX3_readRuler.data.toList.drop 54 = sX3_readRuler_54 := dn2 hX3_readRuler_52
theorem dX3_readRuler_54 : decode cX3_readRuler 54 = .ok (.iconst 0, 1) := dk3 hX3_readRuler_54
theorem hX3_readRuler_55 : cX3_readRuler.data.toList.drop 55 = sX3_readRuler_55 := dn1 hX3_readRuler_54
theorem dX3_readRuler_55 : decode cX3_readRuler 55 = .ok (.istore 5, 2) := dk54 hX3_readRuler_55 rfl
theorem hX3_readRuler_57 : cX3_readRuler.data.toList.drop 57 = sX3_readRuler_57 := dn2 hX3_readRuler_55
theorem dX3_readRuler_57 : decode cX3_readRuler 57 = .ok (.iload 5, 2) := dk21 hX3_readRuler_57 rfl
theorem hX3_readRuler_59 : cX3_readRuler.data.toList.drop 59 = sX3_readRuler_59 := dn2 hX3_readRuler_57
theorem dX3_readRuler_59 : decode cX3_readRuler 59 = .ok (.iconst 4, 1) := dk7 hX3_readRuler_59
theorem hX3_readRuler_60 : cX3_readRuler.data.toList.drop 60 = sX3_readRuler_60 := dn1 hX3_readRuler_59
theorem dX3_readRuler_60 : decode cX3_readRuler 60 = .ok (.if_icmp .gt 33, 3) := dk163 hX3_readRuler_60 (by decide)
theorem hX3_readRuler_63 : cX3_readRuler.data.toList.drop 63 = sX3_readRuler_63 := dn3 hX3_readRuler_60
theorem dX3_readRuler_63 : decode cX3_readRuler 63 = .ok (.iload 4, 2) := dk21 hX3_readRuler_63 rfl
theorem hX3_readRuler_65 : cX3_readRuler.data.toList.drop 65 = sX3_readRuler_65 := dn2 hX3_readRuler_63
theorem dX3_readRuler_65 : decode cX3_readRuler 65 = .ok (.ifCond .eq 28, 3) := dk153 hX3_readRuler_65 (by decide)
theorem hX3_readRuler_68 : cX3_readRuler.data.toList.drop 68 = sX3_readRuler_68 := dn3 hX3_readRuler_65
theorem dX3_readRuler_68 : decode cX3_readRuler 68 = .ok (.aload_n 0, 1) := dk42 hX3_readRuler_68
theorem hX3_readRuler_69 : cX3_readRuler.data.toList.drop 69 = sX3_readRuler_69 := dn1 hX3_readRuler_68
theorem dX3_readRuler_69 : decode cX3_readRuler 69 = .ok (.getfield 82, 3) := dk180 hX3_readRuler_69 rfl
theorem hX3_readRuler_72 : cX3_readRuler.data.toList.drop 72 = sX3_readRuler_72 := dn3 hX3_readRuler_69
theorem dX3_readRuler_72 : decode cX3_readRuler 72 = .ok (.iconst 4, 1) := dk7 hX3_readRuler_72
theorem hX3_readRuler_73 : cX3_readRuler.data.toList.drop 73 = sX3_readRuler_73 := dn1 hX3_readRuler_72
theorem dX3_readRuler_73 : decode cX3_readRuler 73 = .ok (.if_icmp .ne 20, 3) := dk160 hX3_readRuler_73 (by decide)
theorem hX3_readRuler_76 : cX3_readRuler.data.toList.drop 76 = sX3_readRuler_76 := dn3 hX3_readRuler_73
theorem dX3_readRuler_76 : decode cX3_readRuler 76 = .ok (.aload_n 0, 1) := dk42 hX3_readRuler_76
theorem hX3_readRuler_77 : cX3_readRuler.data.toList.drop 77 = sX3_readRuler_77 := dn1 hX3_readRuler_76
theorem dX3_readRuler_77 : decode cX3_readRuler 77 = .ok (.invokevirtual 75, 3) := dk182 hX3_readRuler_77 rfl
theorem hX3_readRuler_80 : cX3_readRuler.data.toList.drop 80 = sX3_readRuler_80 := dn3 hX3_readRuler_77
theorem dX3_readRuler_80 : decode cX3_readRuler 80 = .ok (.aload_n 0, 1) := dk42 hX3_readRuler_80
theorem hX3_readRuler_81 : cX3_readRuler.data.toList.drop 81 = sX3_readRuler_81 := dn1 hX3_readRuler_80
theorem dX3_readRuler_81 : decode cX3_readRuler 81 = .ok (.iload_n 1, 1) := dk27 hX3_readRuler_81
theorem hX3_readRuler_82 : cX3_readRuler.data.toList.drop 82 = sX3_readRuler_82 := dn1 hX3_readRuler_81
theorem dX3_readRuler_82 : decode cX3_readRuler 82 = .ok (.invokevirtual 155, 3) := dk182 hX3_readRuler_82 rfl
theorem hX3_readRuler_85 : cX3_readRuler.data.toList.drop 85 = sX3_readRuler_85 := dn3 hX3_readRuler_82
theorem dX3_readRuler_85 : decode cX3_readRuler 85 = .ok (.istore 4, 2) := dk54 hX3_readRuler_85 rfl
theorem hX3_readRuler_87 : cX3_readRuler.data.toList.drop 87 = sX3_readRuler_87 := dn2 hX3_readRuler_85
theorem dX3_readRuler_87 : decode cX3_readRuler 87 = .ok (.iinc 5 1, 3) := dk132 hX3_readRuler_87 rfl (by decide)
theorem hX3_readRuler_90 : cX3_readRuler.data.toList.drop 90 = sX3_readRuler_90 := dn3 hX3_readRuler_87
theorem dX3_readRuler_90 : decode cX3_readRuler 90 = .ok (.goto (-33), 3) := dk167 hX3_readRuler_90 (by decide)
theorem hX3_readRuler_93 : cX3_readRuler.data.toList.drop 93 = sX3_readRuler_93 := dn3 hX3_readRuler_90
theorem dX3_readRuler_93 : decode cX3_readRuler 93 = .ok (.iload 4, 2) := dk21 hX3_readRuler_93 rfl
theorem hX3_readRuler_95 : cX3_readRuler.data.toList.drop 95 = sX3_readRuler_95 := dn2 hX3_readRuler_93
theorem dX3_readRuler_95 : decode cX3_readRuler 95 = .ok (.ifCond .eq 9, 3) := dk153 hX3_readRuler_95 (by decide)
theorem hX3_readRuler_98 : cX3_readRuler.data.toList.drop 98 = sX3_readRuler_98 := dn3 hX3_readRuler_95
theorem dX3_readRuler_98 : decode cX3_readRuler 98 = .ok (.aload_n 0, 1) := dk42 hX3_readRuler_98
theorem hX3_readRuler_99 : cX3_readRuler.data.toList.drop 99 = sX3_readRuler_99 := dn1 hX3_readRuler_98
theorem dX3_readRuler_99 : decode cX3_readRuler 99 = .ok (.lload_n 2, 1) := dk32 hX3_readRuler_99
theorem hX3_readRuler_100 : cX3_readRuler.data.toList.drop 100 = sX3_readRuler_100 := dn1 hX3_readRuler_99
theorem dX3_readRuler_100 : decode cX3_readRuler 100 = .ok (.iconst 0, 1) := dk3 hX3_readRuler_100
theorem hX3_readRuler_101 : cX3_readRuler.data.toList.drop 101 = sX3_readRuler_101 := dn1 hX3_readRuler_100
theorem dX3_readRuler_101 : decode cX3_readRuler 101 = .ok (.invokevirtual 151, 3) := dk182 hX3_readRuler_101 rfl
theorem hX3_readRuler_104 : cX3_readRuler.data.toList.drop 104 = sX3_readRuler_104 := dn3 hX3_readRuler_101
theorem dX3_readRuler_104 : decode cX3_readRuler 104 = .ok (.iload 4, 2) := dk21 hX3_readRuler_104 rfl
theorem hX3_readRuler_106 : cX3_readRuler.data.toList.drop 106 = sX3_readRuler_106 := dn2 hX3_readRuler_104
theorem dX3_readRuler_106 : decode cX3_readRuler 106 = .ok (.ireturn, 1) := dk172 hX3_readRuler_106
noncomputable def sX3_readSaid_48 : List UInt8 := 172 :: []
noncomputable def sX3_readSaid_47 : List UInt8 := 4 :: sX3_readSaid_48
noncomputable def sX3_readSaid_44 : List UInt8 := 182 :: 0 :: 75 :: sX3_readSaid_47
noncomputable def sX3_readSaid_43 : List UInt8 := 42 :: sX3_readSaid_44
noncomputable def sX3_readSaid_40 : List UInt8 := 181 :: 0 :: 188 :: sX3_readSaid_43
noncomputable def sX3_readSaid_37 : List UInt8 := 180 :: 0 :: 132 :: sX3_readSaid_40
noncomputable def sX3_readSaid_36 : List UInt8 := 42 :: sX3_readSaid_37
noncomputable def sX3_readSaid_33 : List UInt8 := 180 :: 0 :: 18 :: sX3_readSaid_36
noncomputable def sX3_readSaid_32 : List UInt8 := 42 :: sX3_readSaid_33
noncomputable def sX3_readSaid_31 : List UInt8 := 172 :: sX3_readSaid_32
noncomputable def sX3_readSaid_30 : List UInt8 := 3 :: sX3_readSaid_31
noncomputable def sX3_readSaid_27 : List UInt8 := 154 :: 0 :: 5 :: sX3_readSaid_30
noncomputable def sX3_readSaid_24 : List UInt8 := 182 :: 0 :: 128 :: sX3_readSaid_27
noncomputable def sX3_readSaid_22 : List UInt8 := 16 :: 99 :: sX3_readSaid_24
noncomputable def sX3_readSaid_21 : List UInt8 := 3 :: sX3_readSaid_22
noncomputable def sX3_readSaid_20 : List UInt8 := 42 :: sX3_readSaid_21
noncomputable def sX3_readSaid_17 : List UInt8 := 182 :: 0 :: 75 :: sX3_readSaid_20
noncomputable def sX3_readSaid_16 : List UInt8 := 42 :: sX3_readSaid_17
noncomputable def sX3_readSaid_15 : List UInt8 := 172 :: sX3_readSaid_16
noncomputable def sX3_readSaid_12 : List UInt8 := 182 :: 0 :: 88 :: sX3_readSaid_15
noncomputable def sX3_readSaid_11 : List UInt8 := 6 :: sX3_readSaid_12
noncomputable def sX3_readSaid_10 : List UInt8 := 42 :: sX3_readSaid_11
noncomputable def sX3_readSaid_7 : List UInt8 := 155 :: 0 :: 9 :: sX3_readSaid_10
noncomputable def sX3_readSaid_4 : List UInt8 := 180 :: 0 :: 188 :: sX3_readSaid_7
noncomputable def sX3_readSaid_1 : List UInt8 := 180 :: 0 :: 18 :: sX3_readSaid_4
noncomputable def sX3_readSaid_0 : List UInt8 := 42 :: sX3_readSaid_1
set_option maxRecDepth 100000 in
theorem hX3_readSaid_0 : cX3_readSaid.data.toList.drop 0 = sX3_readSaid_0 := by decide +kernel
theorem dX3_readSaid_0 : decode cX3_readSaid 0 = .ok (.aload_n 0, 1) := dk42 hX3_readSaid_0
theorem hX3_readSaid_1 : cX3_readSaid.data.toList.drop 1 = sX3_readSaid_1 := dn1 hX3_readSaid_0
theorem dX3_readSaid_1 : decode cX3_readSaid 1 = .ok (.getfield 18, 3) := dk180 hX3_readSaid_1 rfl
theorem hX3_readSaid_4 : cX3_readSaid.data.toList.drop 4 = sX3_readSaid_4 := dn3 hX3_readSaid_1
theorem dX3_readSaid_4 : decode cX3_readSaid 4 = .ok (.getfield 188, 3) := dk180 hX3_readSaid_4 rfl
theorem hX3_readSaid_7 : cX3_readSaid.data.toList.drop 7 = sX3_readSaid_7 := dn3 hX3_readSaid_4
theorem dX3_readSaid_7 : decode cX3_readSaid 7 = .ok (.ifCond .lt 9, 3) := dk155 hX3_readSaid_7 (by decide)
theorem hX3_readSaid_10 : cX3_readSaid.data.toList.drop 10 = sX3_readSaid_10 := dn3 hX3_readSaid_7
theorem dX3_readSaid_10 : decode cX3_readSaid 10 = .ok (.aload_n 0, 1) := dk42 hX3_readSaid_10
theorem hX3_readSaid_11 : cX3_readSaid.data.toList.drop 11 = sX3_readSaid_11 := dn1 hX3_readSaid_10
theorem dX3_readSaid_11 : decode cX3_readSaid 11 = .ok (.iconst 3, 1) := dk6 hX3_readSaid_11
theorem hX3_readSaid_12 : cX3_readSaid.data.toList.drop 12 = sX3_readSaid_12 := dn1 hX3_readSaid_11
theorem dX3_readSaid_12 : decode cX3_readSaid 12 = .ok (.invokevirtual 88, 3) := dk182 hX3_readSaid_12 rfl
theorem hX3_readSaid_15 : cX3_readSaid.data.toList.drop 15 = sX3_readSaid_15 := dn3 hX3_readSaid_12
theorem dX3_readSaid_15 : decode cX3_readSaid 15 = .ok (.ireturn, 1) := dk172 hX3_readSaid_15
theorem hX3_readSaid_16 : cX3_readSaid.data.toList.drop 16 = sX3_readSaid_16 := dn1 hX3_readSaid_15
theorem dX3_readSaid_16 : decode cX3_readSaid 16 = .ok (.aload_n 0, 1) := dk42 hX3_readSaid_16
theorem hX3_readSaid_17 : cX3_readSaid.data.toList.drop 17 = sX3_readSaid_17 := dn1 hX3_readSaid_16
theorem dX3_readSaid_17 : decode cX3_readSaid 17 = .ok (.invokevirtual 75, 3) := dk182 hX3_readSaid_17 rfl
theorem hX3_readSaid_20 : cX3_readSaid.data.toList.drop 20 = sX3_readSaid_20 := dn3 hX3_readSaid_17
theorem dX3_readSaid_20 : decode cX3_readSaid 20 = .ok (.aload_n 0, 1) := dk42 hX3_readSaid_20
theorem hX3_readSaid_21 : cX3_readSaid.data.toList.drop 21 = sX3_readSaid_21 := dn1 hX3_readSaid_20
theorem dX3_readSaid_21 : decode cX3_readSaid 21 = .ok (.iconst 0, 1) := dk3 hX3_readSaid_21
theorem hX3_readSaid_22 : cX3_readSaid.data.toList.drop 22 = sX3_readSaid_22 := dn1 hX3_readSaid_21
theorem dX3_readSaid_22 : decode cX3_readSaid 22 = .ok (.bipush 99, 2) := dk16 hX3_readSaid_22 (by decide)
theorem hX3_readSaid_24 : cX3_readSaid.data.toList.drop 24 = sX3_readSaid_24 := dn2 hX3_readSaid_22
theorem dX3_readSaid_24 : decode cX3_readSaid 24 = .ok (.invokevirtual 128, 3) := dk182 hX3_readSaid_24 rfl
theorem hX3_readSaid_27 : cX3_readSaid.data.toList.drop 27 = sX3_readSaid_27 := dn3 hX3_readSaid_24
theorem dX3_readSaid_27 : decode cX3_readSaid 27 = .ok (.ifCond .ne 5, 3) := dk154 hX3_readSaid_27 (by decide)
theorem hX3_readSaid_30 : cX3_readSaid.data.toList.drop 30 = sX3_readSaid_30 := dn3 hX3_readSaid_27
theorem dX3_readSaid_30 : decode cX3_readSaid 30 = .ok (.iconst 0, 1) := dk3 hX3_readSaid_30
theorem hX3_readSaid_31 : cX3_readSaid.data.toList.drop 31 = sX3_readSaid_31 := dn1 hX3_readSaid_30
theorem dX3_readSaid_31 : decode cX3_readSaid 31 = .ok (.ireturn, 1) := dk172 hX3_readSaid_31
theorem hX3_readSaid_32 : cX3_readSaid.data.toList.drop 32 = sX3_readSaid_32 := dn1 hX3_readSaid_31
theorem dX3_readSaid_32 : decode cX3_readSaid 32 = .ok (.aload_n 0, 1) := dk42 hX3_readSaid_32
theorem hX3_readSaid_33 : cX3_readSaid.data.toList.drop 33 = sX3_readSaid_33 := dn1 hX3_readSaid_32
theorem dX3_readSaid_33 : decode cX3_readSaid 33 = .ok (.getfield 18, 3) := dk180 hX3_readSaid_33 rfl
theorem hX3_readSaid_36 : cX3_readSaid.data.toList.drop 36 = sX3_readSaid_36 := dn3 hX3_readSaid_33
theorem dX3_readSaid_36 : decode cX3_readSaid 36 = .ok (.aload_n 0, 1) := dk42 hX3_readSaid_36
theorem hX3_readSaid_37 : cX3_readSaid.data.toList.drop 37 = sX3_readSaid_37 := dn1 hX3_readSaid_36
theorem dX3_readSaid_37 : decode cX3_readSaid 37 = .ok (.getfield 132, 3) := dk180 hX3_readSaid_37 rfl
theorem hX3_readSaid_40 : cX3_readSaid.data.toList.drop 40 = sX3_readSaid_40 := dn3 hX3_readSaid_37
theorem dX3_readSaid_40 : decode cX3_readSaid 40 = .ok (.putfield 188, 3) := dk181 hX3_readSaid_40 rfl
theorem hX3_readSaid_43 : cX3_readSaid.data.toList.drop 43 = sX3_readSaid_43 := dn3 hX3_readSaid_40
theorem dX3_readSaid_43 : decode cX3_readSaid 43 = .ok (.aload_n 0, 1) := dk42 hX3_readSaid_43
theorem hX3_readSaid_44 : cX3_readSaid.data.toList.drop 44 = sX3_readSaid_44 := dn1 hX3_readSaid_43
theorem dX3_readSaid_44 : decode cX3_readSaid 44 = .ok (.invokevirtual 75, 3) := dk182 hX3_readSaid_44 rfl
theorem hX3_readSaid_47 : cX3_readSaid.data.toList.drop 47 = sX3_readSaid_47 := dn3 hX3_readSaid_44
theorem dX3_readSaid_47 : decode cX3_readSaid 47 = .ok (.iconst 1, 1) := dk4 hX3_readSaid_47
theorem hX3_readSaid_48 : cX3_readSaid.data.toList.drop 48 = sX3_readSaid_48 := dn1 hX3_readSaid_47
theorem dX3_readSaid_48 : decode cX3_readSaid 48 = .ok (.ireturn, 1) := dk172 hX3_readSaid_48
noncomputable def sX3_readThrone_45 : List UInt8 := 172 :: []
noncomputable def sX3_readThrone_44 : List UInt8 := 4 :: sX3_readThrone_45
noncomputable def sX3_readThrone_41 : List UInt8 := 182 :: 0 :: 75 :: sX3_readThrone_44
noncomputable def sX3_readThrone_40 : List UInt8 := 42 :: sX3_readThrone_41
noncomputable def sX3_readThrone_37 : List UInt8 := 181 :: 0 :: 95 :: sX3_readThrone_40
noncomputable def sX3_readThrone_34 : List UInt8 := 182 :: 0 :: 161 :: sX3_readThrone_37
noncomputable def sX3_readThrone_33 : List UInt8 := 42 :: sX3_readThrone_34
noncomputable def sX3_readThrone_30 : List UInt8 := 180 :: 0 :: 18 :: sX3_readThrone_33
noncomputable def sX3_readThrone_29 : List UInt8 := 42 :: sX3_readThrone_30
noncomputable def sX3_readThrone_28 : List UInt8 := 172 :: sX3_readThrone_29
noncomputable def sX3_readThrone_27 : List UInt8 := 3 :: sX3_readThrone_28
noncomputable def sX3_readThrone_24 : List UInt8 := 154 :: 0 :: 5 :: sX3_readThrone_27
noncomputable def sX3_readThrone_21 : List UInt8 := 182 :: 0 :: 158 :: sX3_readThrone_24
noncomputable def sX3_readThrone_20 : List UInt8 := 42 :: sX3_readThrone_21
noncomputable def sX3_readThrone_17 : List UInt8 := 182 :: 0 :: 75 :: sX3_readThrone_20
noncomputable def sX3_readThrone_16 : List UInt8 := 42 :: sX3_readThrone_17
noncomputable def sX3_readThrone_15 : List UInt8 := 172 :: sX3_readThrone_16
noncomputable def sX3_readThrone_12 : List UInt8 := 182 :: 0 :: 88 :: sX3_readThrone_15
noncomputable def sX3_readThrone_11 : List UInt8 := 6 :: sX3_readThrone_12
noncomputable def sX3_readThrone_10 : List UInt8 := 42 :: sX3_readThrone_11
noncomputable def sX3_readThrone_7 : List UInt8 := 155 :: 0 :: 9 :: sX3_readThrone_10
noncomputable def sX3_readThrone_4 : List UInt8 := 180 :: 0 :: 95 :: sX3_readThrone_7
noncomputable def sX3_readThrone_1 : List UInt8 := 180 :: 0 :: 18 :: sX3_readThrone_4
noncomputable def sX3_readThrone_0 : List UInt8 := 42 :: sX3_readThrone_1
set_option maxRecDepth 100000 in
theorem hX3_readThrone_0 : cX3_readThrone.data.toList.drop 0 = sX3_readThrone_0 := by decide +kernel
theorem dX3_readThrone_0 : decode cX3_readThrone 0 = .ok (.aload_n 0, 1) := dk42 hX3_readThrone_0
theorem hX3_readThrone_1 : cX3_readThrone.data.toList.drop 1 = sX3_readThrone_1 := dn1 hX3_readThrone_0
theorem dX3_readThrone_1 : decode cX3_readThrone 1 = .ok (.getfield 18, 3) := dk180 hX3_readThrone_1 rfl
theorem hX3_readThrone_4 : cX3_readThrone.data.toList.drop 4 = sX3_readThrone_4 := dn3 hX3_readThrone_1
theorem dX3_readThrone_4 : decode cX3_readThrone 4 = .ok (.getfield 95, 3) := dk180 hX3_readThrone_4 rfl
theorem hX3_readThrone_7 : cX3_readThrone.data.toList.drop 7 = sX3_readThrone_7 := dn3 hX3_readThrone_4
theorem dX3_readThrone_7 : decode cX3_readThrone 7 = .ok (.ifCond .lt 9, 3) := dk155 hX3_readThrone_7 (by decide)
theorem hX3_readThrone_10 : cX3_readThrone.data.toList.drop 10 = sX3_readThrone_10 := dn3 hX3_readThrone_7
theorem dX3_readThrone_10 : decode cX3_readThrone 10 = .ok (.aload_n 0, 1) := dk42 hX3_readThrone_10
theorem hX3_readThrone_11 : cX3_readThrone.data.toList.drop 11 = sX3_readThrone_11 := dn1 hX3_readThrone_10
theorem dX3_readThrone_11 : decode cX3_readThrone 11 = .ok (.iconst 3, 1) := dk6 hX3_readThrone_11
theorem hX3_readThrone_12 : cX3_readThrone.data.toList.drop 12 = sX3_readThrone_12 := dn1 hX3_readThrone_11
theorem dX3_readThrone_12 : decode cX3_readThrone 12 = .ok (.invokevirtual 88, 3) := dk182 hX3_readThrone_12 rfl
theorem hX3_readThrone_15 : cX3_readThrone.data.toList.drop 15 = sX3_readThrone_15 := dn3 hX3_readThrone_12
theorem dX3_readThrone_15 : decode cX3_readThrone 15 = .ok (.ireturn, 1) := dk172 hX3_readThrone_15
theorem hX3_readThrone_16 : cX3_readThrone.data.toList.drop 16 = sX3_readThrone_16 := dn1 hX3_readThrone_15
theorem dX3_readThrone_16 : decode cX3_readThrone 16 = .ok (.aload_n 0, 1) := dk42 hX3_readThrone_16
theorem hX3_readThrone_17 : cX3_readThrone.data.toList.drop 17 = sX3_readThrone_17 := dn1 hX3_readThrone_16
theorem dX3_readThrone_17 : decode cX3_readThrone 17 = .ok (.invokevirtual 75, 3) := dk182 hX3_readThrone_17 rfl
theorem hX3_readThrone_20 : cX3_readThrone.data.toList.drop 20 = sX3_readThrone_20 := dn3 hX3_readThrone_17
theorem dX3_readThrone_20 : decode cX3_readThrone 20 = .ok (.aload_n 0, 1) := dk42 hX3_readThrone_20
theorem hX3_readThrone_21 : cX3_readThrone.data.toList.drop 21 = sX3_readThrone_21 := dn1 hX3_readThrone_20
theorem dX3_readThrone_21 : decode cX3_readThrone 21 = .ok (.invokevirtual 158, 3) := dk182 hX3_readThrone_21 rfl
theorem hX3_readThrone_24 : cX3_readThrone.data.toList.drop 24 = sX3_readThrone_24 := dn3 hX3_readThrone_21
theorem dX3_readThrone_24 : decode cX3_readThrone 24 = .ok (.ifCond .ne 5, 3) := dk154 hX3_readThrone_24 (by decide)
theorem hX3_readThrone_27 : cX3_readThrone.data.toList.drop 27 = sX3_readThrone_27 := dn3 hX3_readThrone_24
theorem dX3_readThrone_27 : decode cX3_readThrone 27 = .ok (.iconst 0, 1) := dk3 hX3_readThrone_27
theorem hX3_readThrone_28 : cX3_readThrone.data.toList.drop 28 = sX3_readThrone_28 := dn1 hX3_readThrone_27
theorem dX3_readThrone_28 : decode cX3_readThrone 28 = .ok (.ireturn, 1) := dk172 hX3_readThrone_28
theorem hX3_readThrone_29 : cX3_readThrone.data.toList.drop 29 = sX3_readThrone_29 := dn1 hX3_readThrone_28
theorem dX3_readThrone_29 : decode cX3_readThrone 29 = .ok (.aload_n 0, 1) := dk42 hX3_readThrone_29
theorem hX3_readThrone_30 : cX3_readThrone.data.toList.drop 30 = sX3_readThrone_30 := dn1 hX3_readThrone_29
theorem dX3_readThrone_30 : decode cX3_readThrone 30 = .ok (.getfield 18, 3) := dk180 hX3_readThrone_30 rfl
theorem hX3_readThrone_33 : cX3_readThrone.data.toList.drop 33 = sX3_readThrone_33 := dn3 hX3_readThrone_30
theorem dX3_readThrone_33 : decode cX3_readThrone 33 = .ok (.aload_n 0, 1) := dk42 hX3_readThrone_33
theorem hX3_readThrone_34 : cX3_readThrone.data.toList.drop 34 = sX3_readThrone_34 := dn1 hX3_readThrone_33
theorem dX3_readThrone_34 : decode cX3_readThrone 34 = .ok (.invokevirtual 161, 3) := dk182 hX3_readThrone_34 rfl
theorem hX3_readThrone_37 : cX3_readThrone.data.toList.drop 37 = sX3_readThrone_37 := dn3 hX3_readThrone_34
theorem dX3_readThrone_37 : decode cX3_readThrone 37 = .ok (.putfield 95, 3) := dk181 hX3_readThrone_37 rfl
theorem hX3_readThrone_40 : cX3_readThrone.data.toList.drop 40 = sX3_readThrone_40 := dn3 hX3_readThrone_37
theorem dX3_readThrone_40 : decode cX3_readThrone 40 = .ok (.aload_n 0, 1) := dk42 hX3_readThrone_40
theorem hX3_readThrone_41 : cX3_readThrone.data.toList.drop 41 = sX3_readThrone_41 := dn1 hX3_readThrone_40
theorem dX3_readThrone_41 : decode cX3_readThrone 41 = .ok (.invokevirtual 75, 3) := dk182 hX3_readThrone_41 rfl
theorem hX3_readThrone_44 : cX3_readThrone.data.toList.drop 44 = sX3_readThrone_44 := dn3 hX3_readThrone_41
theorem dX3_readThrone_44 : decode cX3_readThrone 44 = .ok (.iconst 1, 1) := dk4 hX3_readThrone_44
theorem hX3_readThrone_45 : cX3_readThrone.data.toList.drop 45 = sX3_readThrone_45 := dn1 hX3_readThrone_44
theorem dX3_readThrone_45 : decode cX3_readThrone 45 = .ok (.ireturn, 1) := dk172 hX3_readThrone_45
noncomputable def sX3_readUnsure_102 : List UInt8 := 172 :: []
noncomputable def sX3_readUnsure_101 : List UInt8 := 4 :: sX3_readUnsure_102
noncomputable def sX3_readUnsure_98 : List UInt8 := 182 :: 0 :: 75 :: sX3_readUnsure_101
noncomputable def sX3_readUnsure_97 : List UInt8 := 42 :: sX3_readUnsure_98
noncomputable def sX3_readUnsure_94 : List UInt8 := 182 :: 0 :: 185 :: sX3_readUnsure_97
noncomputable def sX3_readUnsure_91 : List UInt8 := 180 :: 0 :: 132 :: sX3_readUnsure_94
noncomputable def sX3_readUnsure_90 : List UInt8 := 42 :: sX3_readUnsure_91
noncomputable def sX3_readUnsure_89 : List UInt8 := 27 :: sX3_readUnsure_90
noncomputable def sX3_readUnsure_86 : List UInt8 := 180 :: 0 :: 18 :: sX3_readUnsure_89
noncomputable def sX3_readUnsure_85 : List UInt8 := 42 :: sX3_readUnsure_86
noncomputable def sX3_readUnsure_84 : List UInt8 := 172 :: sX3_readUnsure_85
noncomputable def sX3_readUnsure_83 : List UInt8 := 3 :: sX3_readUnsure_84
noncomputable def sX3_readUnsure_80 : List UInt8 := 154 :: 0 :: 5 :: sX3_readUnsure_83
noncomputable def sX3_readUnsure_77 : List UInt8 := 182 :: 0 :: 128 :: sX3_readUnsure_80
noncomputable def sX3_readUnsure_75 : List UInt8 := 16 :: 99 :: sX3_readUnsure_77
noncomputable def sX3_readUnsure_74 : List UInt8 := 3 :: sX3_readUnsure_75
noncomputable def sX3_readUnsure_73 : List UInt8 := 42 :: sX3_readUnsure_74
noncomputable def sX3_readUnsure_70 : List UInt8 := 182 :: 0 :: 75 :: sX3_readUnsure_73
noncomputable def sX3_readUnsure_69 : List UInt8 := 42 :: sX3_readUnsure_70
noncomputable def sX3_readUnsure_68 : List UInt8 := 172 :: sX3_readUnsure_69
noncomputable def sX3_readUnsure_65 : List UInt8 := 182 :: 0 :: 88 :: sX3_readUnsure_68
noncomputable def sX3_readUnsure_64 : List UInt8 := 6 :: sX3_readUnsure_65
noncomputable def sX3_readUnsure_63 : List UInt8 := 42 :: sX3_readUnsure_64
noncomputable def sX3_readUnsure_60 : List UInt8 := 153 :: 0 :: 9 :: sX3_readUnsure_63
noncomputable def sX3_readUnsure_57 : List UInt8 := 182 :: 0 :: 182 :: sX3_readUnsure_60
noncomputable def sX3_readUnsure_56 : List UInt8 := 27 :: sX3_readUnsure_57
noncomputable def sX3_readUnsure_53 : List UInt8 := 180 :: 0 :: 18 :: sX3_readUnsure_56
noncomputable def sX3_readUnsure_52 : List UInt8 := 42 :: sX3_readUnsure_53
noncomputable def sX3_readUnsure_51 : List UInt8 := 172 :: sX3_readUnsure_52
noncomputable def sX3_readUnsure_48 : List UInt8 := 182 :: 0 :: 88 :: sX3_readUnsure_51
noncomputable def sX3_readUnsure_47 : List UInt8 := 5 :: sX3_readUnsure_48
noncomputable def sX3_readUnsure_46 : List UInt8 := 42 :: sX3_readUnsure_47
noncomputable def sX3_readUnsure_43 : List UInt8 := 154 :: 0 :: 9 :: sX3_readUnsure_46
noncomputable def sX3_readUnsure_40 : List UInt8 := 182 :: 0 :: 179 :: sX3_readUnsure_43
noncomputable def sX3_readUnsure_39 : List UInt8 := 27 :: sX3_readUnsure_40
noncomputable def sX3_readUnsure_36 : List UInt8 := 180 :: 0 :: 18 :: sX3_readUnsure_39
noncomputable def sX3_readUnsure_35 : List UInt8 := 42 :: sX3_readUnsure_36
noncomputable def sX3_readUnsure_34 : List UInt8 := 60 :: sX3_readUnsure_35
noncomputable def sX3_readUnsure_31 : List UInt8 := 182 :: 0 :: 161 :: sX3_readUnsure_34
noncomputable def sX3_readUnsure_30 : List UInt8 := 42 :: sX3_readUnsure_31
noncomputable def sX3_readUnsure_29 : List UInt8 := 172 :: sX3_readUnsure_30
noncomputable def sX3_readUnsure_28 : List UInt8 := 3 :: sX3_readUnsure_29
noncomputable def sX3_readUnsure_25 : List UInt8 := 154 :: 0 :: 5 :: sX3_readUnsure_28
noncomputable def sX3_readUnsure_22 : List UInt8 := 182 :: 0 :: 158 :: sX3_readUnsure_25
noncomputable def sX3_readUnsure_21 : List UInt8 := 42 :: sX3_readUnsure_22
noncomputable def sX3_readUnsure_18 : List UInt8 := 182 :: 0 :: 75 :: sX3_readUnsure_21
noncomputable def sX3_readUnsure_17 : List UInt8 := 42 :: sX3_readUnsure_18
noncomputable def sX3_readUnsure_16 : List UInt8 := 172 :: sX3_readUnsure_17
noncomputable def sX3_readUnsure_13 : List UInt8 := 182 :: 0 :: 88 :: sX3_readUnsure_16
noncomputable def sX3_readUnsure_12 : List UInt8 := 8 :: sX3_readUnsure_13
noncomputable def sX3_readUnsure_11 : List UInt8 := 42 :: sX3_readUnsure_12
noncomputable def sX3_readUnsure_8 : List UInt8 := 161 :: 0 :: 9 :: sX3_readUnsure_11
noncomputable def sX3_readUnsure_7 : List UInt8 := 7 :: sX3_readUnsure_8
noncomputable def sX3_readUnsure_4 : List UInt8 := 180 :: 0 :: 176 :: sX3_readUnsure_7
noncomputable def sX3_readUnsure_1 : List UInt8 := 180 :: 0 :: 18 :: sX3_readUnsure_4
noncomputable def sX3_readUnsure_0 : List UInt8 := 42 :: sX3_readUnsure_1
set_option maxRecDepth 100000 in
theorem hX3_readUnsure_0 : cX3_readUnsure.data.toList.drop 0 = sX3_readUnsure_0 := by decide +kernel
theorem dX3_readUnsure_0 : decode cX3_readUnsure 0 = .ok (.aload_n 0, 1) := dk42 hX3_readUnsure_0
theorem hX3_readUnsure_1 : cX3_readUnsure.data.toList.drop 1 = sX3_readUnsure_1 := dn1 hX3_readUnsure_0
theorem dX3_readUnsure_1 : decode cX3_readUnsure 1 = .ok (.getfield 18, 3) := dk180 hX3_readUnsure_1 rfl
theorem hX3_readUnsure_4 : cX3_readUnsure.data.toList.drop 4 = sX3_readUnsure_4 := dn3 hX3_readUnsure_1
theorem dX3_readUnsure_4 : decode cX3_readUnsure 4 = .ok (.getfield 176, 3) := dk180 hX3_readUnsure_4 rfl
theorem hX3_readUnsure_7 : cX3_readUnsure.data.toList.drop 7 = sX3_readUnsure_7 := dn3 hX3_readUnsure_4
theorem dX3_readUnsure_7 : decode cX3_readUnsure 7 = .ok (.iconst 4, 1) := dk7 hX3_readUnsure_7
theorem hX3_readUnsure_8 : cX3_readUnsure.data.toList.drop 8 = sX3_readUnsure_8 := dn1 hX3_readUnsure_7
theorem dX3_readUnsure_8 : decode cX3_readUnsure 8 = .ok (.if_icmp .lt 9, 3) := dk161 hX3_readUnsure_8 (by decide)
theorem hX3_readUnsure_11 : cX3_readUnsure.data.toList.drop 11 = sX3_readUnsure_11 := dn3 hX3_readUnsure_8
theorem dX3_readUnsure_11 : decode cX3_readUnsure 11 = .ok (.aload_n 0, 1) := dk42 hX3_readUnsure_11
theorem hX3_readUnsure_12 : cX3_readUnsure.data.toList.drop 12 = sX3_readUnsure_12 := dn1 hX3_readUnsure_11
theorem dX3_readUnsure_12 : decode cX3_readUnsure 12 = .ok (.iconst 5, 1) := dk8 hX3_readUnsure_12
theorem hX3_readUnsure_13 : cX3_readUnsure.data.toList.drop 13 = sX3_readUnsure_13 := dn1 hX3_readUnsure_12
theorem dX3_readUnsure_13 : decode cX3_readUnsure 13 = .ok (.invokevirtual 88, 3) := dk182 hX3_readUnsure_13 rfl
theorem hX3_readUnsure_16 : cX3_readUnsure.data.toList.drop 16 = sX3_readUnsure_16 := dn3 hX3_readUnsure_13
theorem dX3_readUnsure_16 : decode cX3_readUnsure 16 = .ok (.ireturn, 1) := dk172 hX3_readUnsure_16
theorem hX3_readUnsure_17 : cX3_readUnsure.data.toList.drop 17 = sX3_readUnsure_17 := dn1 hX3_readUnsure_16
theorem dX3_readUnsure_17 : decode cX3_readUnsure 17 = .ok (.aload_n 0, 1) := dk42 hX3_readUnsure_17
theorem hX3_readUnsure_18 : cX3_readUnsure.data.toList.drop 18 = sX3_readUnsure_18 := dn1 hX3_readUnsure_17
theorem dX3_readUnsure_18 : decode cX3_readUnsure 18 = .ok (.invokevirtual 75, 3) := dk182 hX3_readUnsure_18 rfl
theorem hX3_readUnsure_21 : cX3_readUnsure.data.toList.drop 21 = sX3_readUnsure_21 := dn3 hX3_readUnsure_18
theorem dX3_readUnsure_21 : decode cX3_readUnsure 21 = .ok (.aload_n 0, 1) := dk42 hX3_readUnsure_21
theorem hX3_readUnsure_22 : cX3_readUnsure.data.toList.drop 22 = sX3_readUnsure_22 := dn1 hX3_readUnsure_21
theorem dX3_readUnsure_22 : decode cX3_readUnsure 22 = .ok (.invokevirtual 158, 3) := dk182 hX3_readUnsure_22 rfl
theorem hX3_readUnsure_25 : cX3_readUnsure.data.toList.drop 25 = sX3_readUnsure_25 := dn3 hX3_readUnsure_22
theorem dX3_readUnsure_25 : decode cX3_readUnsure 25 = .ok (.ifCond .ne 5, 3) := dk154 hX3_readUnsure_25 (by decide)
theorem hX3_readUnsure_28 : cX3_readUnsure.data.toList.drop 28 = sX3_readUnsure_28 := dn3 hX3_readUnsure_25
theorem dX3_readUnsure_28 : decode cX3_readUnsure 28 = .ok (.iconst 0, 1) := dk3 hX3_readUnsure_28
theorem hX3_readUnsure_29 : cX3_readUnsure.data.toList.drop 29 = sX3_readUnsure_29 := dn1 hX3_readUnsure_28
theorem dX3_readUnsure_29 : decode cX3_readUnsure 29 = .ok (.ireturn, 1) := dk172 hX3_readUnsure_29
theorem hX3_readUnsure_30 : cX3_readUnsure.data.toList.drop 30 = sX3_readUnsure_30 := dn1 hX3_readUnsure_29
theorem dX3_readUnsure_30 : decode cX3_readUnsure 30 = .ok (.aload_n 0, 1) := dk42 hX3_readUnsure_30
theorem hX3_readUnsure_31 : cX3_readUnsure.data.toList.drop 31 = sX3_readUnsure_31 := dn1 hX3_readUnsure_30
theorem dX3_readUnsure_31 : decode cX3_readUnsure 31 = .ok (.invokevirtual 161, 3) := dk182 hX3_readUnsure_31 rfl
theorem hX3_readUnsure_34 : cX3_readUnsure.data.toList.drop 34 = sX3_readUnsure_34 := dn3 hX3_readUnsure_31
theorem dX3_readUnsure_34 : decode cX3_readUnsure 34 = .ok (.istore_n 1, 1) := dk60 hX3_readUnsure_34
theorem hX3_readUnsure_35 : cX3_readUnsure.data.toList.drop 35 = sX3_readUnsure_35 := dn1 hX3_readUnsure_34
theorem dX3_readUnsure_35 : decode cX3_readUnsure 35 = .ok (.aload_n 0, 1) := dk42 hX3_readUnsure_35
theorem hX3_readUnsure_36 : cX3_readUnsure.data.toList.drop 36 = sX3_readUnsure_36 := dn1 hX3_readUnsure_35
theorem dX3_readUnsure_36 : decode cX3_readUnsure 36 = .ok (.getfield 18, 3) := dk180 hX3_readUnsure_36 rfl
theorem hX3_readUnsure_39 : cX3_readUnsure.data.toList.drop 39 = sX3_readUnsure_39 := dn3 hX3_readUnsure_36
theorem dX3_readUnsure_39 : decode cX3_readUnsure 39 = .ok (.iload_n 1, 1) := dk27 hX3_readUnsure_39
theorem hX3_readUnsure_40 : cX3_readUnsure.data.toList.drop 40 = sX3_readUnsure_40 := dn1 hX3_readUnsure_39
theorem dX3_readUnsure_40 : decode cX3_readUnsure 40 = .ok (.invokevirtual 179, 3) := dk182 hX3_readUnsure_40 rfl
theorem hX3_readUnsure_43 : cX3_readUnsure.data.toList.drop 43 = sX3_readUnsure_43 := dn3 hX3_readUnsure_40
theorem dX3_readUnsure_43 : decode cX3_readUnsure 43 = .ok (.ifCond .ne 9, 3) := dk154 hX3_readUnsure_43 (by decide)
theorem hX3_readUnsure_46 : cX3_readUnsure.data.toList.drop 46 = sX3_readUnsure_46 := dn3 hX3_readUnsure_43
theorem dX3_readUnsure_46 : decode cX3_readUnsure 46 = .ok (.aload_n 0, 1) := dk42 hX3_readUnsure_46
theorem hX3_readUnsure_47 : cX3_readUnsure.data.toList.drop 47 = sX3_readUnsure_47 := dn1 hX3_readUnsure_46
theorem dX3_readUnsure_47 : decode cX3_readUnsure 47 = .ok (.iconst 2, 1) := dk5 hX3_readUnsure_47
theorem hX3_readUnsure_48 : cX3_readUnsure.data.toList.drop 48 = sX3_readUnsure_48 := dn1 hX3_readUnsure_47
theorem dX3_readUnsure_48 : decode cX3_readUnsure 48 = .ok (.invokevirtual 88, 3) := dk182 hX3_readUnsure_48 rfl
theorem hX3_readUnsure_51 : cX3_readUnsure.data.toList.drop 51 = sX3_readUnsure_51 := dn3 hX3_readUnsure_48
theorem dX3_readUnsure_51 : decode cX3_readUnsure 51 = .ok (.ireturn, 1) := dk172 hX3_readUnsure_51
theorem hX3_readUnsure_52 : cX3_readUnsure.data.toList.drop 52 = sX3_readUnsure_52 := dn1 hX3_readUnsure_51
theorem dX3_readUnsure_52 : decode cX3_readUnsure 52 = .ok (.aload_n 0, 1) := dk42 hX3_readUnsure_52
theorem hX3_readUnsure_53 : cX3_readUnsure.data.toList.drop 53 = sX3_readUnsure_53 := dn1 hX3_readUnsure_52
theorem dX3_readUnsure_53 : decode cX3_readUnsure 53 = .ok (.getfield 18, 3) := dk180 hX3_readUnsure_53 rfl
theorem hX3_readUnsure_56 : cX3_readUnsure.data.toList.drop 56 = sX3_readUnsure_56 := dn3 hX3_readUnsure_53
theorem dX3_readUnsure_56 : decode cX3_readUnsure 56 = .ok (.iload_n 1, 1) := dk27 hX3_readUnsure_56
theorem hX3_readUnsure_57 : cX3_readUnsure.data.toList.drop 57 = sX3_readUnsure_57 := dn1 hX3_readUnsure_56
theorem dX3_readUnsure_57 : decode cX3_readUnsure 57 = .ok (.invokevirtual 182, 3) := dk182 hX3_readUnsure_57 rfl
theorem hX3_readUnsure_60 : cX3_readUnsure.data.toList.drop 60 = sX3_readUnsure_60 := dn3 hX3_readUnsure_57
theorem dX3_readUnsure_60 : decode cX3_readUnsure 60 = .ok (.ifCond .eq 9, 3) := dk153 hX3_readUnsure_60 (by decide)
theorem hX3_readUnsure_63 : cX3_readUnsure.data.toList.drop 63 = sX3_readUnsure_63 := dn3 hX3_readUnsure_60
theorem dX3_readUnsure_63 : decode cX3_readUnsure 63 = .ok (.aload_n 0, 1) := dk42 hX3_readUnsure_63
theorem hX3_readUnsure_64 : cX3_readUnsure.data.toList.drop 64 = sX3_readUnsure_64 := dn1 hX3_readUnsure_63
theorem dX3_readUnsure_64 : decode cX3_readUnsure 64 = .ok (.iconst 3, 1) := dk6 hX3_readUnsure_64
theorem hX3_readUnsure_65 : cX3_readUnsure.data.toList.drop 65 = sX3_readUnsure_65 := dn1 hX3_readUnsure_64
theorem dX3_readUnsure_65 : decode cX3_readUnsure 65 = .ok (.invokevirtual 88, 3) := dk182 hX3_readUnsure_65 rfl
theorem hX3_readUnsure_68 : cX3_readUnsure.data.toList.drop 68 = sX3_readUnsure_68 := dn3 hX3_readUnsure_65
theorem dX3_readUnsure_68 : decode cX3_readUnsure 68 = .ok (.ireturn, 1) := dk172 hX3_readUnsure_68
theorem hX3_readUnsure_69 : cX3_readUnsure.data.toList.drop 69 = sX3_readUnsure_69 := dn1 hX3_readUnsure_68
theorem dX3_readUnsure_69 : decode cX3_readUnsure 69 = .ok (.aload_n 0, 1) := dk42 hX3_readUnsure_69
theorem hX3_readUnsure_70 : cX3_readUnsure.data.toList.drop 70 = sX3_readUnsure_70 := dn1 hX3_readUnsure_69
theorem dX3_readUnsure_70 : decode cX3_readUnsure 70 = .ok (.invokevirtual 75, 3) := dk182 hX3_readUnsure_70 rfl
theorem hX3_readUnsure_73 : cX3_readUnsure.data.toList.drop 73 = sX3_readUnsure_73 := dn3 hX3_readUnsure_70
theorem dX3_readUnsure_73 : decode cX3_readUnsure 73 = .ok (.aload_n 0, 1) := dk42 hX3_readUnsure_73
theorem hX3_readUnsure_74 : cX3_readUnsure.data.toList.drop 74 = sX3_readUnsure_74 := dn1 hX3_readUnsure_73
theorem dX3_readUnsure_74 : decode cX3_readUnsure 74 = .ok (.iconst 0, 1) := dk3 hX3_readUnsure_74
theorem hX3_readUnsure_75 : cX3_readUnsure.data.toList.drop 75 = sX3_readUnsure_75 := dn1 hX3_readUnsure_74
theorem dX3_readUnsure_75 : decode cX3_readUnsure 75 = .ok (.bipush 99, 2) := dk16 hX3_readUnsure_75 (by decide)
theorem hX3_readUnsure_77 : cX3_readUnsure.data.toList.drop 77 = sX3_readUnsure_77 := dn2 hX3_readUnsure_75
theorem dX3_readUnsure_77 : decode cX3_readUnsure 77 = .ok (.invokevirtual 128, 3) := dk182 hX3_readUnsure_77 rfl
theorem hX3_readUnsure_80 : cX3_readUnsure.data.toList.drop 80 = sX3_readUnsure_80 := dn3 hX3_readUnsure_77
theorem dX3_readUnsure_80 : decode cX3_readUnsure 80 = .ok (.ifCond .ne 5, 3) := dk154 hX3_readUnsure_80 (by decide)
theorem hX3_readUnsure_83 : cX3_readUnsure.data.toList.drop 83 = sX3_readUnsure_83 := dn3 hX3_readUnsure_80
theorem dX3_readUnsure_83 : decode cX3_readUnsure 83 = .ok (.iconst 0, 1) := dk3 hX3_readUnsure_83
theorem hX3_readUnsure_84 : cX3_readUnsure.data.toList.drop 84 = sX3_readUnsure_84 := dn1 hX3_readUnsure_83
theorem dX3_readUnsure_84 : decode cX3_readUnsure 84 = .ok (.ireturn, 1) := dk172 hX3_readUnsure_84
theorem hX3_readUnsure_85 : cX3_readUnsure.data.toList.drop 85 = sX3_readUnsure_85 := dn1 hX3_readUnsure_84
theorem dX3_readUnsure_85 : decode cX3_readUnsure 85 = .ok (.aload_n 0, 1) := dk42 hX3_readUnsure_85
theorem hX3_readUnsure_86 : cX3_readUnsure.data.toList.drop 86 = sX3_readUnsure_86 := dn1 hX3_readUnsure_85
theorem dX3_readUnsure_86 : decode cX3_readUnsure 86 = .ok (.getfield 18, 3) := dk180 hX3_readUnsure_86 rfl
theorem hX3_readUnsure_89 : cX3_readUnsure.data.toList.drop 89 = sX3_readUnsure_89 := dn3 hX3_readUnsure_86
theorem dX3_readUnsure_89 : decode cX3_readUnsure 89 = .ok (.iload_n 1, 1) := dk27 hX3_readUnsure_89
theorem hX3_readUnsure_90 : cX3_readUnsure.data.toList.drop 90 = sX3_readUnsure_90 := dn1 hX3_readUnsure_89
theorem dX3_readUnsure_90 : decode cX3_readUnsure 90 = .ok (.aload_n 0, 1) := dk42 hX3_readUnsure_90
theorem hX3_readUnsure_91 : cX3_readUnsure.data.toList.drop 91 = sX3_readUnsure_91 := dn1 hX3_readUnsure_90
theorem dX3_readUnsure_91 : decode cX3_readUnsure 91 = .ok (.getfield 132, 3) := dk180 hX3_readUnsure_91 rfl
theorem hX3_readUnsure_94 : cX3_readUnsure.data.toList.drop 94 = sX3_readUnsure_94 := dn3 hX3_readUnsure_91
theorem dX3_readUnsure_94 : decode cX3_readUnsure 94 = .ok (.invokevirtual 185, 3) := dk182 hX3_readUnsure_94 rfl
theorem hX3_readUnsure_97 : cX3_readUnsure.data.toList.drop 97 = sX3_readUnsure_97 := dn3 hX3_readUnsure_94
theorem dX3_readUnsure_97 : decode cX3_readUnsure 97 = .ok (.aload_n 0, 1) := dk42 hX3_readUnsure_97
theorem hX3_readUnsure_98 : cX3_readUnsure.data.toList.drop 98 = sX3_readUnsure_98 := dn1 hX3_readUnsure_97
theorem dX3_readUnsure_98 : decode cX3_readUnsure 98 = .ok (.invokevirtual 75, 3) := dk182 hX3_readUnsure_98 rfl
theorem hX3_readUnsure_101 : cX3_readUnsure.data.toList.drop 101 = sX3_readUnsure_101 := dn3 hX3_readUnsure_98
theorem dX3_readUnsure_101 : decode cX3_readUnsure 101 = .ok (.iconst 1, 1) := dk4 hX3_readUnsure_101
theorem hX3_readUnsure_102 : cX3_readUnsure.data.toList.drop 102 = sX3_readUnsure_102 := dn1 hX3_readUnsure_101
theorem dX3_readUnsure_102 : decode cX3_readUnsure 102 = .ok (.ireturn, 1) := dk172 hX3_readUnsure_102
noncomputable def sX3_readWord_92 : List UInt8 := 172 :: []
noncomputable def sX3_readWord_91 : List UInt8 := 4 :: sX3_readWord_92
noncomputable def sX3_readWord_88 : List UInt8 := 182 :: 0 :: 75 :: sX3_readWord_91
noncomputable def sX3_readWord_87 : List UInt8 := 42 :: sX3_readWord_88
noncomputable def sX3_readWord_84 : List UInt8 := 182 :: 0 :: 151 :: sX3_readWord_87
noncomputable def sX3_readWord_81 : List UInt8 := 180 :: 0 :: 132 :: sX3_readWord_84
noncomputable def sX3_readWord_80 : List UInt8 := 42 :: sX3_readWord_81
noncomputable def sX3_readWord_79 : List UInt8 := 31 :: sX3_readWord_80
noncomputable def sX3_readWord_78 : List UInt8 := 42 :: sX3_readWord_79
noncomputable def sX3_readWord_77 : List UInt8 := 172 :: sX3_readWord_78
noncomputable def sX3_readWord_76 : List UInt8 := 3 :: sX3_readWord_77
noncomputable def sX3_readWord_73 : List UInt8 := 154 :: 0 :: 5 :: sX3_readWord_76
noncomputable def sX3_readWord_70 : List UInt8 := 182 :: 0 :: 128 :: sX3_readWord_73
noncomputable def sX3_readWord_68 : List UInt8 := 16 :: 99 :: sX3_readWord_70
noncomputable def sX3_readWord_67 : List UInt8 := 3 :: sX3_readWord_68
noncomputable def sX3_readWord_66 : List UInt8 := 42 :: sX3_readWord_67
noncomputable def sX3_readWord_63 : List UInt8 := 182 :: 0 :: 75 :: sX3_readWord_66
noncomputable def sX3_readWord_62 : List UInt8 := 42 :: sX3_readWord_63
noncomputable def sX3_readWord_61 : List UInt8 := 172 :: sX3_readWord_62
noncomputable def sX3_readWord_58 : List UInt8 := 182 :: 0 :: 88 :: sX3_readWord_61
noncomputable def sX3_readWord_57 : List UInt8 := 4 :: sX3_readWord_58
noncomputable def sX3_readWord_56 : List UInt8 := 42 :: sX3_readWord_57
noncomputable def sX3_readWord_53 : List UInt8 := 159 :: 0 :: 9 :: sX3_readWord_56
noncomputable def sX3_readWord_51 : List UInt8 := 16 :: 9 :: sX3_readWord_53
noncomputable def sX3_readWord_48 : List UInt8 := 180 :: 0 :: 107 :: sX3_readWord_51
noncomputable def sX3_readWord_47 : List UInt8 := 42 :: sX3_readWord_48
noncomputable def sX3_readWord_44 : List UInt8 := 182 :: 0 :: 75 :: sX3_readWord_47
noncomputable def sX3_readWord_43 : List UInt8 := 42 :: sX3_readWord_44
noncomputable def sX3_readWord_42 : List UInt8 := 64 :: sX3_readWord_43
noncomputable def sX3_readWord_39 : List UInt8 := 180 :: 0 :: 147 :: sX3_readWord_42
noncomputable def sX3_readWord_38 : List UInt8 := 42 :: sX3_readWord_39
noncomputable def sX3_readWord_37 : List UInt8 := 172 :: sX3_readWord_38
noncomputable def sX3_readWord_36 : List UInt8 := 3 :: sX3_readWord_37
noncomputable def sX3_readWord_33 : List UInt8 := 154 :: 0 :: 5 :: sX3_readWord_36
noncomputable def sX3_readWord_30 : List UInt8 := 182 :: 0 :: 144 :: sX3_readWord_33
noncomputable def sX3_readWord_29 : List UInt8 := 42 :: sX3_readWord_30
noncomputable def sX3_readWord_26 : List UInt8 := 182 :: 0 :: 75 :: sX3_readWord_29
noncomputable def sX3_readWord_25 : List UInt8 := 42 :: sX3_readWord_26
noncomputable def sX3_readWord_22 : List UInt8 := 182 :: 0 :: 140 :: sX3_readWord_25
noncomputable def sX3_readWord_21 : List UInt8 := 3 :: sX3_readWord_22
noncomputable def sX3_readWord_18 : List UInt8 := 180 :: 0 :: 18 :: sX3_readWord_21
noncomputable def sX3_readWord_17 : List UInt8 := 42 :: sX3_readWord_18
noncomputable def sX3_readWord_16 : List UInt8 := 172 :: sX3_readWord_17
noncomputable def sX3_readWord_13 : List UInt8 := 182 :: 0 :: 88 :: sX3_readWord_16
noncomputable def sX3_readWord_12 : List UInt8 := 8 :: sX3_readWord_13
noncomputable def sX3_readWord_11 : List UInt8 := 42 :: sX3_readWord_12
noncomputable def sX3_readWord_8 : List UInt8 := 154 :: 0 :: 9 :: sX3_readWord_11
noncomputable def sX3_readWord_5 : List UInt8 := 182 :: 0 :: 137 :: sX3_readWord_8
noncomputable def sX3_readWord_4 : List UInt8 := 3 :: sX3_readWord_5
noncomputable def sX3_readWord_1 : List UInt8 := 180 :: 0 :: 18 :: sX3_readWord_4
noncomputable def sX3_readWord_0 : List UInt8 := 42 :: sX3_readWord_1
set_option maxRecDepth 100000 in
theorem hX3_readWord_0 : cX3_readWord.data.toList.drop 0 = sX3_readWord_0 := by decide +kernel
theorem dX3_readWord_0 : decode cX3_readWord 0 = .ok (.aload_n 0, 1) := dk42 hX3_readWord_0
theorem hX3_readWord_1 : cX3_readWord.data.toList.drop 1 = sX3_readWord_1 := dn1 hX3_readWord_0
theorem dX3_readWord_1 : decode cX3_readWord 1 = .ok (.getfield 18, 3) := dk180 hX3_readWord_1 rfl
theorem hX3_readWord_4 : cX3_readWord.data.toList.drop 4 = sX3_readWord_4 := dn3 hX3_readWord_1
theorem dX3_readWord_4 : decode cX3_readWord 4 = .ok (.iconst 0, 1) := dk3 hX3_readWord_4
theorem hX3_readWord_5 : cX3_readWord.data.toList.drop 5 = sX3_readWord_5 := dn1 hX3_readWord_4
theorem dX3_readWord_5 : decode cX3_readWord 5 = .ok (.invokevirtual 137, 3) := dk182 hX3_readWord_5 rfl
theorem hX3_readWord_8 : cX3_readWord.data.toList.drop 8 = sX3_readWord_8 := dn3 hX3_readWord_5
theorem dX3_readWord_8 : decode cX3_readWord 8 = .ok (.ifCond .ne 9, 3) := dk154 hX3_readWord_8 (by decide)
theorem hX3_readWord_11 : cX3_readWord.data.toList.drop 11 = sX3_readWord_11 := dn3 hX3_readWord_8
theorem dX3_readWord_11 : decode cX3_readWord 11 = .ok (.aload_n 0, 1) := dk42 hX3_readWord_11
theorem hX3_readWord_12 : cX3_readWord.data.toList.drop 12 = sX3_readWord_12 := dn1 hX3_readWord_11
theorem dX3_readWord_12 : decode cX3_readWord 12 = .ok (.iconst 5, 1) := dk8 hX3_readWord_12
theorem hX3_readWord_13 : cX3_readWord.data.toList.drop 13 = sX3_readWord_13 := dn1 hX3_readWord_12
theorem dX3_readWord_13 : decode cX3_readWord 13 = .ok (.invokevirtual 88, 3) := dk182 hX3_readWord_13 rfl
theorem hX3_readWord_16 : cX3_readWord.data.toList.drop 16 = sX3_readWord_16 := dn3 hX3_readWord_13
theorem dX3_readWord_16 : decode cX3_readWord 16 = .ok (.ireturn, 1) := dk172 hX3_readWord_16
theorem hX3_readWord_17 : cX3_readWord.data.toList.drop 17 = sX3_readWord_17 := dn1 hX3_readWord_16
theorem dX3_readWord_17 : decode cX3_readWord 17 = .ok (.aload_n 0, 1) := dk42 hX3_readWord_17
theorem hX3_readWord_18 : cX3_readWord.data.toList.drop 18 = sX3_readWord_18 := dn1 hX3_readWord_17
theorem dX3_readWord_18 : decode cX3_readWord 18 = .ok (.getfield 18, 3) := dk180 hX3_readWord_18 rfl
theorem hX3_readWord_21 : cX3_readWord.data.toList.drop 21 = sX3_readWord_21 := dn3 hX3_readWord_18
theorem dX3_readWord_21 : decode cX3_readWord 21 = .ok (.iconst 0, 1) := dk3 hX3_readWord_21
theorem hX3_readWord_22 : cX3_readWord.data.toList.drop 22 = sX3_readWord_22 := dn1 hX3_readWord_21
theorem dX3_readWord_22 : decode cX3_readWord 22 = .ok (.invokevirtual 140, 3) := dk182 hX3_readWord_22 rfl
theorem hX3_readWord_25 : cX3_readWord.data.toList.drop 25 = sX3_readWord_25 := dn3 hX3_readWord_22
theorem dX3_readWord_25 : decode cX3_readWord 25 = .ok (.aload_n 0, 1) := dk42 hX3_readWord_25
theorem hX3_readWord_26 : cX3_readWord.data.toList.drop 26 = sX3_readWord_26 := dn1 hX3_readWord_25
theorem dX3_readWord_26 : decode cX3_readWord 26 = .ok (.invokevirtual 75, 3) := dk182 hX3_readWord_26 rfl
theorem hX3_readWord_29 : cX3_readWord.data.toList.drop 29 = sX3_readWord_29 := dn3 hX3_readWord_26
theorem dX3_readWord_29 : decode cX3_readWord 29 = .ok (.aload_n 0, 1) := dk42 hX3_readWord_29
theorem hX3_readWord_30 : cX3_readWord.data.toList.drop 30 = sX3_readWord_30 := dn1 hX3_readWord_29
theorem dX3_readWord_30 : decode cX3_readWord 30 = .ok (.invokevirtual 144, 3) := dk182 hX3_readWord_30 rfl
theorem hX3_readWord_33 : cX3_readWord.data.toList.drop 33 = sX3_readWord_33 := dn3 hX3_readWord_30
theorem dX3_readWord_33 : decode cX3_readWord 33 = .ok (.ifCond .ne 5, 3) := dk154 hX3_readWord_33 (by decide)
theorem hX3_readWord_36 : cX3_readWord.data.toList.drop 36 = sX3_readWord_36 := dn3 hX3_readWord_33
theorem dX3_readWord_36 : decode cX3_readWord 36 = .ok (.iconst 0, 1) := dk3 hX3_readWord_36
theorem hX3_readWord_37 : cX3_readWord.data.toList.drop 37 = sX3_readWord_37 := dn1 hX3_readWord_36
theorem dX3_readWord_37 : decode cX3_readWord 37 = .ok (.ireturn, 1) := dk172 hX3_readWord_37
theorem hX3_readWord_38 : cX3_readWord.data.toList.drop 38 = sX3_readWord_38 := dn1 hX3_readWord_37
theorem dX3_readWord_38 : decode cX3_readWord 38 = .ok (.aload_n 0, 1) := dk42 hX3_readWord_38
theorem hX3_readWord_39 : cX3_readWord.data.toList.drop 39 = sX3_readWord_39 := dn1 hX3_readWord_38
theorem dX3_readWord_39 : decode cX3_readWord 39 = .ok (.getfield 147, 3) := dk180 hX3_readWord_39 rfl
theorem hX3_readWord_42 : cX3_readWord.data.toList.drop 42 = sX3_readWord_42 := dn3 hX3_readWord_39
theorem dX3_readWord_42 : decode cX3_readWord 42 = .ok (.lstore_n 1, 1) := dk64 hX3_readWord_42
theorem hX3_readWord_43 : cX3_readWord.data.toList.drop 43 = sX3_readWord_43 := dn1 hX3_readWord_42
theorem dX3_readWord_43 : decode cX3_readWord 43 = .ok (.aload_n 0, 1) := dk42 hX3_readWord_43
theorem hX3_readWord_44 : cX3_readWord.data.toList.drop 44 = sX3_readWord_44 := dn1 hX3_readWord_43
theorem dX3_readWord_44 : decode cX3_readWord 44 = .ok (.invokevirtual 75, 3) := dk182 hX3_readWord_44 rfl
theorem hX3_readWord_47 : cX3_readWord.data.toList.drop 47 = sX3_readWord_47 := dn3 hX3_readWord_44
theorem dX3_readWord_47 : decode cX3_readWord 47 = .ok (.aload_n 0, 1) := dk42 hX3_readWord_47
theorem hX3_readWord_48 : cX3_readWord.data.toList.drop 48 = sX3_readWord_48 := dn1 hX3_readWord_47
theorem dX3_readWord_48 : decode cX3_readWord 48 = .ok (.getfield 107, 3) := dk180 hX3_readWord_48 rfl
theorem hX3_readWord_51 : cX3_readWord.data.toList.drop 51 = sX3_readWord_51 := dn3 hX3_readWord_48
theorem dX3_readWord_51 : decode cX3_readWord 51 = .ok (.bipush 9, 2) := dk16 hX3_readWord_51 (by decide)
theorem hX3_readWord_53 : cX3_readWord.data.toList.drop 53 = sX3_readWord_53 := dn2 hX3_readWord_51
theorem dX3_readWord_53 : decode cX3_readWord 53 = .ok (.if_icmp .eq 9, 3) := dk159 hX3_readWord_53 (by decide)
theorem hX3_readWord_56 : cX3_readWord.data.toList.drop 56 = sX3_readWord_56 := dn3 hX3_readWord_53
theorem dX3_readWord_56 : decode cX3_readWord 56 = .ok (.aload_n 0, 1) := dk42 hX3_readWord_56
theorem hX3_readWord_57 : cX3_readWord.data.toList.drop 57 = sX3_readWord_57 := dn1 hX3_readWord_56
theorem dX3_readWord_57 : decode cX3_readWord 57 = .ok (.iconst 1, 1) := dk4 hX3_readWord_57
theorem hX3_readWord_58 : cX3_readWord.data.toList.drop 58 = sX3_readWord_58 := dn1 hX3_readWord_57
theorem dX3_readWord_58 : decode cX3_readWord 58 = .ok (.invokevirtual 88, 3) := dk182 hX3_readWord_58 rfl
theorem hX3_readWord_61 : cX3_readWord.data.toList.drop 61 = sX3_readWord_61 := dn3 hX3_readWord_58
theorem dX3_readWord_61 : decode cX3_readWord 61 = .ok (.ireturn, 1) := dk172 hX3_readWord_61
theorem hX3_readWord_62 : cX3_readWord.data.toList.drop 62 = sX3_readWord_62 := dn1 hX3_readWord_61
theorem dX3_readWord_62 : decode cX3_readWord 62 = .ok (.aload_n 0, 1) := dk42 hX3_readWord_62
theorem hX3_readWord_63 : cX3_readWord.data.toList.drop 63 = sX3_readWord_63 := dn1 hX3_readWord_62
theorem dX3_readWord_63 : decode cX3_readWord 63 = .ok (.invokevirtual 75, 3) := dk182 hX3_readWord_63 rfl
theorem hX3_readWord_66 : cX3_readWord.data.toList.drop 66 = sX3_readWord_66 := dn3 hX3_readWord_63
theorem dX3_readWord_66 : decode cX3_readWord 66 = .ok (.aload_n 0, 1) := dk42 hX3_readWord_66
theorem hX3_readWord_67 : cX3_readWord.data.toList.drop 67 = sX3_readWord_67 := dn1 hX3_readWord_66
theorem dX3_readWord_67 : decode cX3_readWord 67 = .ok (.iconst 0, 1) := dk3 hX3_readWord_67
theorem hX3_readWord_68 : cX3_readWord.data.toList.drop 68 = sX3_readWord_68 := dn1 hX3_readWord_67
theorem dX3_readWord_68 : decode cX3_readWord 68 = .ok (.bipush 99, 2) := dk16 hX3_readWord_68 (by decide)
theorem hX3_readWord_70 : cX3_readWord.data.toList.drop 70 = sX3_readWord_70 := dn2 hX3_readWord_68
theorem dX3_readWord_70 : decode cX3_readWord 70 = .ok (.invokevirtual 128, 3) := dk182 hX3_readWord_70 rfl
theorem hX3_readWord_73 : cX3_readWord.data.toList.drop 73 = sX3_readWord_73 := dn3 hX3_readWord_70
theorem dX3_readWord_73 : decode cX3_readWord 73 = .ok (.ifCond .ne 5, 3) := dk154 hX3_readWord_73 (by decide)
theorem hX3_readWord_76 : cX3_readWord.data.toList.drop 76 = sX3_readWord_76 := dn3 hX3_readWord_73
theorem dX3_readWord_76 : decode cX3_readWord 76 = .ok (.iconst 0, 1) := dk3 hX3_readWord_76
theorem hX3_readWord_77 : cX3_readWord.data.toList.drop 77 = sX3_readWord_77 := dn1 hX3_readWord_76
theorem dX3_readWord_77 : decode cX3_readWord 77 = .ok (.ireturn, 1) := dk172 hX3_readWord_77
theorem hX3_readWord_78 : cX3_readWord.data.toList.drop 78 = sX3_readWord_78 := dn1 hX3_readWord_77
theorem dX3_readWord_78 : decode cX3_readWord 78 = .ok (.aload_n 0, 1) := dk42 hX3_readWord_78
theorem hX3_readWord_79 : cX3_readWord.data.toList.drop 79 = sX3_readWord_79 := dn1 hX3_readWord_78
theorem dX3_readWord_79 : decode cX3_readWord 79 = .ok (.lload_n 1, 1) := dk31 hX3_readWord_79
theorem hX3_readWord_80 : cX3_readWord.data.toList.drop 80 = sX3_readWord_80 := dn1 hX3_readWord_79
theorem dX3_readWord_80 : decode cX3_readWord 80 = .ok (.aload_n 0, 1) := dk42 hX3_readWord_80
theorem hX3_readWord_81 : cX3_readWord.data.toList.drop 81 = sX3_readWord_81 := dn1 hX3_readWord_80
theorem dX3_readWord_81 : decode cX3_readWord 81 = .ok (.getfield 132, 3) := dk180 hX3_readWord_81 rfl
theorem hX3_readWord_84 : cX3_readWord.data.toList.drop 84 = sX3_readWord_84 := dn3 hX3_readWord_81
theorem dX3_readWord_84 : decode cX3_readWord 84 = .ok (.invokevirtual 151, 3) := dk182 hX3_readWord_84 rfl
theorem hX3_readWord_87 : cX3_readWord.data.toList.drop 87 = sX3_readWord_87 := dn3 hX3_readWord_84
theorem dX3_readWord_87 : decode cX3_readWord 87 = .ok (.aload_n 0, 1) := dk42 hX3_readWord_87
theorem hX3_readWord_88 : cX3_readWord.data.toList.drop 88 = sX3_readWord_88 := dn1 hX3_readWord_87
theorem dX3_readWord_88 : decode cX3_readWord 88 = .ok (.invokevirtual 75, 3) := dk182 hX3_readWord_88 rfl
theorem hX3_readWord_91 : cX3_readWord.data.toList.drop 91 = sX3_readWord_91 := dn3 hX3_readWord_88
theorem dX3_readWord_91 : decode cX3_readWord 91 = .ok (.iconst 1, 1) := dk4 hX3_readWord_91
theorem hX3_readWord_92 : cX3_readWord.data.toList.drop 92 = sX3_readWord_92 := dn1 hX3_readWord_91
theorem dX3_readWord_92 : decode cX3_readWord 92 = .ok (.ireturn, 1) := dk172 hX3_readWord_92
noncomputable def sX3_reads_98 : List UInt8 := 172 :: []
noncomputable def sX3_reads_97 : List UInt8 := 3 :: sX3_reads_98
noncomputable def sX3_reads_94 : List UInt8 := 167 :: 0 :: 4 :: sX3_reads_97
noncomputable def sX3_reads_93 : List UInt8 := 4 :: sX3_reads_94
noncomputable def sX3_reads_90 : List UInt8 := 153 :: 0 :: 7 :: sX3_reads_93
noncomputable def sX3_reads_87 : List UInt8 := 182 :: 0 :: 85 :: sX3_reads_90
noncomputable def sX3_reads_86 : List UInt8 := 42 :: sX3_reads_87
noncomputable def sX3_reads_83 : List UInt8 := 153 :: 0 :: 14 :: sX3_reads_86
noncomputable def sX3_reads_82 : List UInt8 := 28 :: sX3_reads_83
noncomputable def sX3_reads_79 : List UInt8 := 167 :: 255 :: 225 :: sX3_reads_82
noncomputable def sX3_reads_76 : List UInt8 := 132 :: 3 :: 1 :: sX3_reads_79
noncomputable def sX3_reads_75 : List UInt8 := 61 :: sX3_reads_76
noncomputable def sX3_reads_72 : List UInt8 := 182 :: 0 :: 78 :: sX3_reads_75
noncomputable def sX3_reads_71 : List UInt8 := 42 :: sX3_reads_72
noncomputable def sX3_reads_68 : List UInt8 := 182 :: 0 :: 75 :: sX3_reads_71
noncomputable def sX3_reads_67 : List UInt8 := 42 :: sX3_reads_68
noncomputable def sX3_reads_64 : List UInt8 := 160 :: 0 :: 18 :: sX3_reads_67
noncomputable def sX3_reads_63 : List UInt8 := 6 :: sX3_reads_64
noncomputable def sX3_reads_60 : List UInt8 := 180 :: 0 :: 82 :: sX3_reads_63
noncomputable def sX3_reads_59 : List UInt8 := 42 :: sX3_reads_60
noncomputable def sX3_reads_56 : List UInt8 := 153 :: 0 :: 26 :: sX3_reads_59
noncomputable def sX3_reads_55 : List UInt8 := 28 :: sX3_reads_56
noncomputable def sX3_reads_52 : List UInt8 := 162 :: 0 :: 30 :: sX3_reads_55
noncomputable def sX3_reads_49 : List UInt8 := 17 :: 3 :: 132 :: sX3_reads_52
noncomputable def sX3_reads_48 : List UInt8 := 29 :: sX3_reads_49
noncomputable def sX3_reads_47 : List UInt8 := 62 :: sX3_reads_48
noncomputable def sX3_reads_46 : List UInt8 := 3 :: sX3_reads_47
noncomputable def sX3_reads_45 : List UInt8 := 61 :: sX3_reads_46
noncomputable def sX3_reads_42 : List UInt8 := 182 :: 0 :: 78 :: sX3_reads_45
noncomputable def sX3_reads_41 : List UInt8 := 42 :: sX3_reads_42
noncomputable def sX3_reads_38 : List UInt8 := 182 :: 0 :: 75 :: sX3_reads_41
noncomputable def sX3_reads_37 : List UInt8 := 42 :: sX3_reads_38
noncomputable def sX3_reads_34 : List UInt8 := 181 :: 0 :: 72 :: sX3_reads_37
noncomputable def sX3_reads_33 : List UInt8 := 3 :: sX3_reads_34
noncomputable def sX3_reads_32 : List UInt8 := 42 :: sX3_reads_33
noncomputable def sX3_reads_29 : List UInt8 := 181 :: 0 :: 69 :: sX3_reads_32
noncomputable def sX3_reads_28 : List UInt8 := 2 :: sX3_reads_29
noncomputable def sX3_reads_27 : List UInt8 := 42 :: sX3_reads_28
noncomputable def sX3_reads_24 : List UInt8 := 181 :: 0 :: 66 :: sX3_reads_27
noncomputable def sX3_reads_23 : List UInt8 := 3 :: sX3_reads_24
noncomputable def sX3_reads_22 : List UInt8 := 42 :: sX3_reads_23
noncomputable def sX3_reads_19 : List UInt8 := 181 :: 0 :: 62 :: sX3_reads_22
noncomputable def sX3_reads_18 : List UInt8 := 3 :: sX3_reads_19
noncomputable def sX3_reads_17 : List UInt8 := 42 :: sX3_reads_18
noncomputable def sX3_reads_14 : List UInt8 := 182 :: 0 :: 59 :: sX3_reads_17
noncomputable def sX3_reads_11 : List UInt8 := 180 :: 0 :: 18 :: sX3_reads_14
noncomputable def sX3_reads_10 : List UInt8 := 42 :: sX3_reads_11
noncomputable def sX3_reads_7 : List UInt8 := 181 :: 0 :: 56 :: sX3_reads_10
noncomputable def sX3_reads_6 : List UInt8 := 27 :: sX3_reads_7
noncomputable def sX3_reads_5 : List UInt8 := 42 :: sX3_reads_6
noncomputable def sX3_reads_2 : List UInt8 := 181 :: 0 :: 52 :: sX3_reads_5
noncomputable def sX3_reads_1 : List UInt8 := 3 :: sX3_reads_2
noncomputable def sX3_reads_0 : List UInt8 := 42 :: sX3_reads_1
set_option maxRecDepth 100000 in
theorem hX3_reads_0 : cX3_reads.data.toList.drop 0 = sX3_reads_0 := by decide +kernel
theorem dX3_reads_0 : decode cX3_reads 0 = .ok (.aload_n 0, 1) := dk42 hX3_reads_0
theorem hX3_reads_1 : cX3_reads.data.toList.drop 1 = sX3_reads_1 := dn1 hX3_reads_0
theorem dX3_reads_1 : decode cX3_reads 1 = .ok (.iconst 0, 1) := dk3 hX3_reads_1
theorem hX3_reads_2 : cX3_reads.data.toList.drop 2 = sX3_reads_2 := dn1 hX3_reads_1
theorem dX3_reads_2 : decode cX3_reads 2 = .ok (.putfield 52, 3) := dk181 hX3_reads_2 rfl
theorem hX3_reads_5 : cX3_reads.data.toList.drop 5 = sX3_reads_5 := dn3 hX3_reads_2
theorem dX3_reads_5 : decode cX3_reads 5 = .ok (.aload_n 0, 1) := dk42 hX3_reads_5
theorem hX3_reads_6 : cX3_reads.data.toList.drop 6 = sX3_reads_6 := dn1 hX3_reads_5
theorem dX3_reads_6 : decode cX3_reads 6 = .ok (.iload_n 1, 1) := dk27 hX3_reads_6
theorem hX3_reads_7 : cX3_reads.data.toList.drop 7 = sX3_reads_7 := dn1 hX3_reads_6
theorem dX3_reads_7 : decode cX3_reads 7 = .ok (.putfield 56, 3) := dk181 hX3_reads_7 rfl
theorem hX3_reads_10 : cX3_reads.data.toList.drop 10 = sX3_reads_10 := dn3 hX3_reads_7
theorem dX3_reads_10 : decode cX3_reads 10 = .ok (.aload_n 0, 1) := dk42 hX3_reads_10
theorem hX3_reads_11 : cX3_reads.data.toList.drop 11 = sX3_reads_11 := dn1 hX3_reads_10
theorem dX3_reads_11 : decode cX3_reads 11 = .ok (.getfield 18, 3) := dk180 hX3_reads_11 rfl
theorem hX3_reads_14 : cX3_reads.data.toList.drop 14 = sX3_reads_14 := dn3 hX3_reads_11
theorem dX3_reads_14 : decode cX3_reads 14 = .ok (.invokevirtual 59, 3) := dk182 hX3_reads_14 rfl
theorem hX3_reads_17 : cX3_reads.data.toList.drop 17 = sX3_reads_17 := dn3 hX3_reads_14
theorem dX3_reads_17 : decode cX3_reads 17 = .ok (.aload_n 0, 1) := dk42 hX3_reads_17
theorem hX3_reads_18 : cX3_reads.data.toList.drop 18 = sX3_reads_18 := dn1 hX3_reads_17
theorem dX3_reads_18 : decode cX3_reads 18 = .ok (.iconst 0, 1) := dk3 hX3_reads_18
theorem hX3_reads_19 : cX3_reads.data.toList.drop 19 = sX3_reads_19 := dn1 hX3_reads_18
theorem dX3_reads_19 : decode cX3_reads 19 = .ok (.putfield 62, 3) := dk181 hX3_reads_19 rfl
theorem hX3_reads_22 : cX3_reads.data.toList.drop 22 = sX3_reads_22 := dn3 hX3_reads_19
theorem dX3_reads_22 : decode cX3_reads 22 = .ok (.aload_n 0, 1) := dk42 hX3_reads_22
theorem hX3_reads_23 : cX3_reads.data.toList.drop 23 = sX3_reads_23 := dn1 hX3_reads_22
theorem dX3_reads_23 : decode cX3_reads 23 = .ok (.iconst 0, 1) := dk3 hX3_reads_23
theorem hX3_reads_24 : cX3_reads.data.toList.drop 24 = sX3_reads_24 := dn1 hX3_reads_23
theorem dX3_reads_24 : decode cX3_reads 24 = .ok (.putfield 66, 3) := dk181 hX3_reads_24 rfl
theorem hX3_reads_27 : cX3_reads.data.toList.drop 27 = sX3_reads_27 := dn3 hX3_reads_24
theorem dX3_reads_27 : decode cX3_reads 27 = .ok (.aload_n 0, 1) := dk42 hX3_reads_27
theorem hX3_reads_28 : cX3_reads.data.toList.drop 28 = sX3_reads_28 := dn1 hX3_reads_27
theorem dX3_reads_28 : decode cX3_reads 28 = .ok (.iconst (-1), 1) := dk2 hX3_reads_28
theorem hX3_reads_29 : cX3_reads.data.toList.drop 29 = sX3_reads_29 := dn1 hX3_reads_28
theorem dX3_reads_29 : decode cX3_reads 29 = .ok (.putfield 69, 3) := dk181 hX3_reads_29 rfl
theorem hX3_reads_32 : cX3_reads.data.toList.drop 32 = sX3_reads_32 := dn3 hX3_reads_29
theorem dX3_reads_32 : decode cX3_reads 32 = .ok (.aload_n 0, 1) := dk42 hX3_reads_32
theorem hX3_reads_33 : cX3_reads.data.toList.drop 33 = sX3_reads_33 := dn1 hX3_reads_32
theorem dX3_reads_33 : decode cX3_reads 33 = .ok (.iconst 0, 1) := dk3 hX3_reads_33
theorem hX3_reads_34 : cX3_reads.data.toList.drop 34 = sX3_reads_34 := dn1 hX3_reads_33
theorem dX3_reads_34 : decode cX3_reads 34 = .ok (.putfield 72, 3) := dk181 hX3_reads_34 rfl
theorem hX3_reads_37 : cX3_reads.data.toList.drop 37 = sX3_reads_37 := dn3 hX3_reads_34
theorem dX3_reads_37 : decode cX3_reads 37 = .ok (.aload_n 0, 1) := dk42 hX3_reads_37
theorem hX3_reads_38 : cX3_reads.data.toList.drop 38 = sX3_reads_38 := dn1 hX3_reads_37
theorem dX3_reads_38 : decode cX3_reads 38 = .ok (.invokevirtual 75, 3) := dk182 hX3_reads_38 rfl
theorem hX3_reads_41 : cX3_reads.data.toList.drop 41 = sX3_reads_41 := dn3 hX3_reads_38
theorem dX3_reads_41 : decode cX3_reads 41 = .ok (.aload_n 0, 1) := dk42 hX3_reads_41
theorem hX3_reads_42 : cX3_reads.data.toList.drop 42 = sX3_reads_42 := dn1 hX3_reads_41
theorem dX3_reads_42 : decode cX3_reads 42 = .ok (.invokevirtual 78, 3) := dk182 hX3_reads_42 rfl
theorem hX3_reads_45 : cX3_reads.data.toList.drop 45 = sX3_reads_45 := dn3 hX3_reads_42
theorem dX3_reads_45 : decode cX3_reads 45 = .ok (.istore_n 2, 1) := dk61 hX3_reads_45
theorem hX3_reads_46 : cX3_reads.data.toList.drop 46 = sX3_reads_46 := dn1 hX3_reads_45
theorem dX3_reads_46 : decode cX3_reads 46 = .ok (.iconst 0, 1) := dk3 hX3_reads_46
theorem hX3_reads_47 : cX3_reads.data.toList.drop 47 = sX3_reads_47 := dn1 hX3_reads_46
theorem dX3_reads_47 : decode cX3_reads 47 = .ok (.istore_n 3, 1) := dk62 hX3_reads_47
theorem hX3_reads_48 : cX3_reads.data.toList.drop 48 = sX3_reads_48 := dn1 hX3_reads_47
theorem dX3_reads_48 : decode cX3_reads 48 = .ok (.iload_n 3, 1) := dk29 hX3_reads_48
theorem hX3_reads_49 : cX3_reads.data.toList.drop 49 = sX3_reads_49 := dn1 hX3_reads_48
theorem dX3_reads_49 : decode cX3_reads 49 = .ok (.sipush 900, 3) := dk17 hX3_reads_49 (by decide)
theorem hX3_reads_52 : cX3_reads.data.toList.drop 52 = sX3_reads_52 := dn3 hX3_reads_49
theorem dX3_reads_52 : decode cX3_reads 52 = .ok (.if_icmp .ge 30, 3) := dk162 hX3_reads_52 (by decide)
theorem hX3_reads_55 : cX3_reads.data.toList.drop 55 = sX3_reads_55 := dn3 hX3_reads_52
theorem dX3_reads_55 : decode cX3_reads 55 = .ok (.iload_n 2, 1) := dk28 hX3_reads_55
theorem hX3_reads_56 : cX3_reads.data.toList.drop 56 = sX3_reads_56 := dn1 hX3_reads_55
theorem dX3_reads_56 : decode cX3_reads 56 = .ok (.ifCond .eq 26, 3) := dk153 hX3_reads_56 (by decide)
theorem hX3_reads_59 : cX3_reads.data.toList.drop 59 = sX3_reads_59 := dn3 hX3_reads_56
theorem dX3_reads_59 : decode cX3_reads 59 = .ok (.aload_n 0, 1) := dk42 hX3_reads_59
theorem hX3_reads_60 : cX3_reads.data.toList.drop 60 = sX3_reads_60 := dn1 hX3_reads_59
theorem dX3_reads_60 : decode cX3_reads 60 = .ok (.getfield 82, 3) := dk180 hX3_reads_60 rfl
theorem hX3_reads_63 : cX3_reads.data.toList.drop 63 = sX3_reads_63 := dn3 hX3_reads_60
theorem dX3_reads_63 : decode cX3_reads 63 = .ok (.iconst 3, 1) := dk6 hX3_reads_63
theorem hX3_reads_64 : cX3_reads.data.toList.drop 64 = sX3_reads_64 := dn1 hX3_reads_63
theorem dX3_reads_64 : decode cX3_reads 64 = .ok (.if_icmp .ne 18, 3) := dk160 hX3_reads_64 (by decide)
theorem hX3_reads_67 : cX3_reads.data.toList.drop 67 = sX3_reads_67 := dn3 hX3_reads_64
theorem dX3_reads_67 : decode cX3_reads 67 = .ok (.aload_n 0, 1) := dk42 hX3_reads_67
theorem hX3_reads_68 : cX3_reads.data.toList.drop 68 = sX3_reads_68 := dn1 hX3_reads_67
theorem dX3_reads_68 : decode cX3_reads 68 = .ok (.invokevirtual 75, 3) := dk182 hX3_reads_68 rfl
theorem hX3_reads_71 : cX3_reads.data.toList.drop 71 = sX3_reads_71 := dn3 hX3_reads_68
theorem dX3_reads_71 : decode cX3_reads 71 = .ok (.aload_n 0, 1) := dk42 hX3_reads_71
theorem hX3_reads_72 : cX3_reads.data.toList.drop 72 = sX3_reads_72 := dn1 hX3_reads_71
theorem dX3_reads_72 : decode cX3_reads 72 = .ok (.invokevirtual 78, 3) := dk182 hX3_reads_72 rfl
theorem hX3_reads_75 : cX3_reads.data.toList.drop 75 = sX3_reads_75 := dn3 hX3_reads_72
theorem dX3_reads_75 : decode cX3_reads 75 = .ok (.istore_n 2, 1) := dk61 hX3_reads_75
theorem hX3_reads_76 : cX3_reads.data.toList.drop 76 = sX3_reads_76 := dn1 hX3_reads_75
theorem dX3_reads_76 : decode cX3_reads 76 = .ok (.iinc 3 1, 3) := dk132 hX3_reads_76 rfl (by decide)
theorem hX3_reads_79 : cX3_reads.data.toList.drop 79 = sX3_reads_79 := dn3 hX3_reads_76
theorem dX3_reads_79 : decode cX3_reads 79 = .ok (.goto (-31), 3) := dk167 hX3_reads_79 (by decide)
theorem hX3_reads_82 : cX3_reads.data.toList.drop 82 = sX3_reads_82 := dn3 hX3_reads_79
theorem dX3_reads_82 : decode cX3_reads 82 = .ok (.iload_n 2, 1) := dk28 hX3_reads_82
theorem hX3_reads_83 : cX3_reads.data.toList.drop 83 = sX3_reads_83 := dn1 hX3_reads_82
theorem dX3_reads_83 : decode cX3_reads 83 = .ok (.ifCond .eq 14, 3) := dk153 hX3_reads_83 (by decide)
theorem hX3_reads_86 : cX3_reads.data.toList.drop 86 = sX3_reads_86 := dn3 hX3_reads_83
theorem dX3_reads_86 : decode cX3_reads 86 = .ok (.aload_n 0, 1) := dk42 hX3_reads_86
theorem hX3_reads_87 : cX3_reads.data.toList.drop 87 = sX3_reads_87 := dn1 hX3_reads_86
theorem dX3_reads_87 : decode cX3_reads 87 = .ok (.invokevirtual 85, 3) := dk182 hX3_reads_87 rfl
theorem hX3_reads_90 : cX3_reads.data.toList.drop 90 = sX3_reads_90 := dn3 hX3_reads_87
theorem dX3_reads_90 : decode cX3_reads 90 = .ok (.ifCond .eq 7, 3) := dk153 hX3_reads_90 (by decide)
theorem hX3_reads_93 : cX3_reads.data.toList.drop 93 = sX3_reads_93 := dn3 hX3_reads_90
theorem dX3_reads_93 : decode cX3_reads 93 = .ok (.iconst 1, 1) := dk4 hX3_reads_93
theorem hX3_reads_94 : cX3_reads.data.toList.drop 94 = sX3_reads_94 := dn1 hX3_reads_93
theorem dX3_reads_94 : decode cX3_reads 94 = .ok (.goto 4, 3) := dk167 hX3_reads_94 (by decide)
theorem hX3_reads_97 : cX3_reads.data.toList.drop 97 = sX3_reads_97 := dn3 hX3_reads_94
theorem dX3_reads_97 : decode cX3_reads 97 = .ok (.iconst 0, 1) := dk3 hX3_reads_97
theorem hX3_reads_98 : cX3_reads.data.toList.drop 98 = sX3_reads_98 := dn1 hX3_reads_97
theorem dX3_reads_98 : decode cX3_reads 98 = .ok (.ireturn, 1) := dk172 hX3_reads_98
noncomputable def sX3_takeDigits_79 : List UInt8 := 177 :: []
noncomputable def sX3_takeDigits_76 : List UInt8 := 181 :: 0 :: 82 :: sX3_takeDigits_79
noncomputable def sX3_takeDigits_75 : List UInt8 := 8 :: sX3_takeDigits_76
noncomputable def sX3_takeDigits_72 : List UInt8 := 167 :: 0 :: 4 :: sX3_takeDigits_75
noncomputable def sX3_takeDigits_71 : List UInt8 := 5 :: sX3_takeDigits_72
noncomputable def sX3_takeDigits_68 : List UInt8 := 163 :: 0 :: 7 :: sX3_takeDigits_71
noncomputable def sX3_takeDigits_67 : List UInt8 := 6 :: sX3_takeDigits_68
noncomputable def sX3_takeDigits_66 : List UInt8 := 100 :: sX3_takeDigits_67
noncomputable def sX3_takeDigits_63 : List UInt8 := 180 :: 0 :: 101 :: sX3_takeDigits_66
noncomputable def sX3_takeDigits_62 : List UInt8 := 42 :: sX3_takeDigits_63
noncomputable def sX3_takeDigits_61 : List UInt8 := 27 :: sX3_takeDigits_62
noncomputable def sX3_takeDigits_60 : List UInt8 := 42 :: sX3_takeDigits_61
noncomputable def sX3_takeDigits_57 : List UInt8 := 181 :: 0 :: 72 :: sX3_takeDigits_60
noncomputable def sX3_takeDigits_56 : List UInt8 := 27 :: sX3_takeDigits_57
noncomputable def sX3_takeDigits_55 : List UInt8 := 42 :: sX3_takeDigits_56
noncomputable def sX3_takeDigits_52 : List UInt8 := 167 :: 255 :: 214 :: sX3_takeDigits_55
noncomputable def sX3_takeDigits_49 : List UInt8 := 132 :: 1 :: 1 :: sX3_takeDigits_52
noncomputable def sX3_takeDigits_46 : List UInt8 := 181 :: 0 :: 132 :: sX3_takeDigits_49
noncomputable def sX3_takeDigits_45 : List UInt8 := 96 :: sX3_takeDigits_46
noncomputable def sX3_takeDigits_44 : List UInt8 := 100 :: sX3_takeDigits_45
noncomputable def sX3_takeDigits_42 : List UInt8 := 16 :: 48 :: sX3_takeDigits_44
noncomputable def sX3_takeDigits_39 : List UInt8 := 182 :: 0 :: 193 :: sX3_takeDigits_42
noncomputable def sX3_takeDigits_38 : List UInt8 := 27 :: sX3_takeDigits_39
noncomputable def sX3_takeDigits_37 : List UInt8 := 42 :: sX3_takeDigits_38
noncomputable def sX3_takeDigits_36 : List UInt8 := 104 :: sX3_takeDigits_37
noncomputable def sX3_takeDigits_34 : List UInt8 := 16 :: 10 :: sX3_takeDigits_36
noncomputable def sX3_takeDigits_31 : List UInt8 := 180 :: 0 :: 132 :: sX3_takeDigits_34
noncomputable def sX3_takeDigits_30 : List UInt8 := 42 :: sX3_takeDigits_31
noncomputable def sX3_takeDigits_29 : List UInt8 := 42 :: sX3_takeDigits_30
noncomputable def sX3_takeDigits_26 : List UInt8 := 153 :: 0 :: 29 :: sX3_takeDigits_29
noncomputable def sX3_takeDigits_23 : List UInt8 := 184 :: 0 :: 203 :: sX3_takeDigits_26
noncomputable def sX3_takeDigits_20 : List UInt8 := 182 :: 0 :: 193 :: sX3_takeDigits_23
noncomputable def sX3_takeDigits_19 : List UInt8 := 27 :: sX3_takeDigits_20
noncomputable def sX3_takeDigits_18 : List UInt8 := 42 :: sX3_takeDigits_19
noncomputable def sX3_takeDigits_15 : List UInt8 := 162 :: 0 :: 40 :: sX3_takeDigits_18
noncomputable def sX3_takeDigits_12 : List UInt8 := 180 :: 0 :: 56 :: sX3_takeDigits_15
noncomputable def sX3_takeDigits_11 : List UInt8 := 42 :: sX3_takeDigits_12
noncomputable def sX3_takeDigits_10 : List UInt8 := 27 :: sX3_takeDigits_11
noncomputable def sX3_takeDigits_7 : List UInt8 := 181 :: 0 :: 132 :: sX3_takeDigits_10
noncomputable def sX3_takeDigits_6 : List UInt8 := 3 :: sX3_takeDigits_7
noncomputable def sX3_takeDigits_5 : List UInt8 := 42 :: sX3_takeDigits_6
noncomputable def sX3_takeDigits_4 : List UInt8 := 60 :: sX3_takeDigits_5
noncomputable def sX3_takeDigits_1 : List UInt8 := 180 :: 0 :: 101 :: sX3_takeDigits_4
noncomputable def sX3_takeDigits_0 : List UInt8 := 42 :: sX3_takeDigits_1
set_option maxRecDepth 100000 in
theorem hX3_takeDigits_0 : cX3_takeDigits.data.toList.drop 0 = sX3_takeDigits_0 := by decide +kernel
theorem dX3_takeDigits_0 : decode cX3_takeDigits 0 = .ok (.aload_n 0, 1) := dk42 hX3_takeDigits_0
theorem hX3_takeDigits_1 : cX3_takeDigits.data.toList.drop 1 = sX3_takeDigits_1 := dn1 hX3_takeDigits_0
theorem dX3_takeDigits_1 : decode cX3_takeDigits 1 = .ok (.getfield 101, 3) := dk180 hX3_takeDigits_1 rfl
theorem hX3_takeDigits_4 : cX3_takeDigits.data.toList.drop 4 = sX3_takeDigits_4 := dn3 hX3_takeDigits_1
theorem dX3_takeDigits_4 : decode cX3_takeDigits 4 = .ok (.istore_n 1, 1) := dk60 hX3_takeDigits_4
theorem hX3_takeDigits_5 : cX3_takeDigits.data.toList.drop 5 = sX3_takeDigits_5 := dn1 hX3_takeDigits_4
theorem dX3_takeDigits_5 : decode cX3_takeDigits 5 = .ok (.aload_n 0, 1) := dk42 hX3_takeDigits_5
theorem hX3_takeDigits_6 : cX3_takeDigits.data.toList.drop 6 = sX3_takeDigits_6 := dn1 hX3_takeDigits_5
theorem dX3_takeDigits_6 : decode cX3_takeDigits 6 = .ok (.iconst 0, 1) := dk3 hX3_takeDigits_6
theorem hX3_takeDigits_7 : cX3_takeDigits.data.toList.drop 7 = sX3_takeDigits_7 := dn1 hX3_takeDigits_6
theorem dX3_takeDigits_7 : decode cX3_takeDigits 7 = .ok (.putfield 132, 3) := dk181 hX3_takeDigits_7 rfl
theorem hX3_takeDigits_10 : cX3_takeDigits.data.toList.drop 10 = sX3_takeDigits_10 := dn3 hX3_takeDigits_7
theorem dX3_takeDigits_10 : decode cX3_takeDigits 10 = .ok (.iload_n 1, 1) := dk27 hX3_takeDigits_10
theorem hX3_takeDigits_11 : cX3_takeDigits.data.toList.drop 11 = sX3_takeDigits_11 := dn1 hX3_takeDigits_10
theorem dX3_takeDigits_11 : decode cX3_takeDigits 11 = .ok (.aload_n 0, 1) := dk42 hX3_takeDigits_11
theorem hX3_takeDigits_12 : cX3_takeDigits.data.toList.drop 12 = sX3_takeDigits_12 := dn1 hX3_takeDigits_11
theorem dX3_takeDigits_12 : decode cX3_takeDigits 12 = .ok (.getfield 56, 3) := dk180 hX3_takeDigits_12 rfl
theorem hX3_takeDigits_15 : cX3_takeDigits.data.toList.drop 15 = sX3_takeDigits_15 := dn3 hX3_takeDigits_12
theorem dX3_takeDigits_15 : decode cX3_takeDigits 15 = .ok (.if_icmp .ge 40, 3) := dk162 hX3_takeDigits_15 (by decide)
theorem hX3_takeDigits_18 : cX3_takeDigits.data.toList.drop 18 = sX3_takeDigits_18 := dn3 hX3_takeDigits_15
theorem dX3_takeDigits_18 : decode cX3_takeDigits 18 = .ok (.aload_n 0, 1) := dk42 hX3_takeDigits_18
theorem hX3_takeDigits_19 : cX3_takeDigits.data.toList.drop 19 = sX3_takeDigits_19 := dn1 hX3_takeDigits_18
theorem dX3_takeDigits_19 : decode cX3_takeDigits 19 = .ok (.iload_n 1, 1) := dk27 hX3_takeDigits_19
theorem hX3_takeDigits_20 : cX3_takeDigits.data.toList.drop 20 = sX3_takeDigits_20 := dn1 hX3_takeDigits_19
theorem dX3_takeDigits_20 : decode cX3_takeDigits 20 = .ok (.invokevirtual 193, 3) := dk182 hX3_takeDigits_20 rfl
theorem hX3_takeDigits_23 : cX3_takeDigits.data.toList.drop 23 = sX3_takeDigits_23 := dn3 hX3_takeDigits_20
theorem dX3_takeDigits_23 : decode cX3_takeDigits 23 = .ok (.invokestatic 203, 3) := dk184 hX3_takeDigits_23 rfl
theorem hX3_takeDigits_26 : cX3_takeDigits.data.toList.drop 26 = sX3_takeDigits_26 := dn3 hX3_takeDigits_23
theorem dX3_takeDigits_26 : decode cX3_takeDigits 26 = .ok (.ifCond .eq 29, 3) := dk153 hX3_takeDigits_26 (by decide)
theorem hX3_takeDigits_29 : cX3_takeDigits.data.toList.drop 29 = sX3_takeDigits_29 := dn3 hX3_takeDigits_26
theorem dX3_takeDigits_29 : decode cX3_takeDigits 29 = .ok (.aload_n 0, 1) := dk42 hX3_takeDigits_29
theorem hX3_takeDigits_30 : cX3_takeDigits.data.toList.drop 30 = sX3_takeDigits_30 := dn1 hX3_takeDigits_29
theorem dX3_takeDigits_30 : decode cX3_takeDigits 30 = .ok (.aload_n 0, 1) := dk42 hX3_takeDigits_30
theorem hX3_takeDigits_31 : cX3_takeDigits.data.toList.drop 31 = sX3_takeDigits_31 := dn1 hX3_takeDigits_30
theorem dX3_takeDigits_31 : decode cX3_takeDigits 31 = .ok (.getfield 132, 3) := dk180 hX3_takeDigits_31 rfl
theorem hX3_takeDigits_34 : cX3_takeDigits.data.toList.drop 34 = sX3_takeDigits_34 := dn3 hX3_takeDigits_31
theorem dX3_takeDigits_34 : decode cX3_takeDigits 34 = .ok (.bipush 10, 2) := dk16 hX3_takeDigits_34 (by decide)
theorem hX3_takeDigits_36 : cX3_takeDigits.data.toList.drop 36 = sX3_takeDigits_36 := dn2 hX3_takeDigits_34
theorem dX3_takeDigits_36 : decode cX3_takeDigits 36 = .ok (.imul, 1) := dk104 hX3_takeDigits_36
theorem hX3_takeDigits_37 : cX3_takeDigits.data.toList.drop 37 = sX3_takeDigits_37 := dn1 hX3_takeDigits_36
theorem dX3_takeDigits_37 : decode cX3_takeDigits 37 = .ok (.aload_n 0, 1) := dk42 hX3_takeDigits_37
theorem hX3_takeDigits_38 : cX3_takeDigits.data.toList.drop 38 = sX3_takeDigits_38 := dn1 hX3_takeDigits_37
theorem dX3_takeDigits_38 : decode cX3_takeDigits 38 = .ok (.iload_n 1, 1) := dk27 hX3_takeDigits_38
theorem hX3_takeDigits_39 : cX3_takeDigits.data.toList.drop 39 = sX3_takeDigits_39 := dn1 hX3_takeDigits_38
theorem dX3_takeDigits_39 : decode cX3_takeDigits 39 = .ok (.invokevirtual 193, 3) := dk182 hX3_takeDigits_39 rfl
theorem hX3_takeDigits_42 : cX3_takeDigits.data.toList.drop 42 = sX3_takeDigits_42 := dn3 hX3_takeDigits_39
theorem dX3_takeDigits_42 : decode cX3_takeDigits 42 = .ok (.bipush 48, 2) := dk16 hX3_takeDigits_42 (by decide)
theorem hX3_takeDigits_44 : cX3_takeDigits.data.toList.drop 44 = sX3_takeDigits_44 := dn2 hX3_takeDigits_42
theorem dX3_takeDigits_44 : decode cX3_takeDigits 44 = .ok (.isub, 1) := dk100 hX3_takeDigits_44
theorem hX3_takeDigits_45 : cX3_takeDigits.data.toList.drop 45 = sX3_takeDigits_45 := dn1 hX3_takeDigits_44
theorem dX3_takeDigits_45 : decode cX3_takeDigits 45 = .ok (.iadd, 1) := dk96 hX3_takeDigits_45
theorem hX3_takeDigits_46 : cX3_takeDigits.data.toList.drop 46 = sX3_takeDigits_46 := dn1 hX3_takeDigits_45
theorem dX3_takeDigits_46 : decode cX3_takeDigits 46 = .ok (.putfield 132, 3) := dk181 hX3_takeDigits_46 rfl
theorem hX3_takeDigits_49 : cX3_takeDigits.data.toList.drop 49 = sX3_takeDigits_49 := dn3 hX3_takeDigits_46
theorem dX3_takeDigits_49 : decode cX3_takeDigits 49 = .ok (.iinc 1 1, 3) := dk132 hX3_takeDigits_49 rfl (by decide)
theorem hX3_takeDigits_52 : cX3_takeDigits.data.toList.drop 52 = sX3_takeDigits_52 := dn3 hX3_takeDigits_49
theorem dX3_takeDigits_52 : decode cX3_takeDigits 52 = .ok (.goto (-42), 3) := dk167 hX3_takeDigits_52 (by decide)
theorem hX3_takeDigits_55 : cX3_takeDigits.data.toList.drop 55 = sX3_takeDigits_55 := dn3 hX3_takeDigits_52
theorem dX3_takeDigits_55 : decode cX3_takeDigits 55 = .ok (.aload_n 0, 1) := dk42 hX3_takeDigits_55
theorem hX3_takeDigits_56 : cX3_takeDigits.data.toList.drop 56 = sX3_takeDigits_56 := dn1 hX3_takeDigits_55
theorem dX3_takeDigits_56 : decode cX3_takeDigits 56 = .ok (.iload_n 1, 1) := dk27 hX3_takeDigits_56
theorem hX3_takeDigits_57 : cX3_takeDigits.data.toList.drop 57 = sX3_takeDigits_57 := dn1 hX3_takeDigits_56
theorem dX3_takeDigits_57 : decode cX3_takeDigits 57 = .ok (.putfield 72, 3) := dk181 hX3_takeDigits_57 rfl
theorem hX3_takeDigits_60 : cX3_takeDigits.data.toList.drop 60 = sX3_takeDigits_60 := dn3 hX3_takeDigits_57
theorem dX3_takeDigits_60 : decode cX3_takeDigits 60 = .ok (.aload_n 0, 1) := dk42 hX3_takeDigits_60
theorem hX3_takeDigits_61 : cX3_takeDigits.data.toList.drop 61 = sX3_takeDigits_61 := dn1 hX3_takeDigits_60
theorem dX3_takeDigits_61 : decode cX3_takeDigits 61 = .ok (.iload_n 1, 1) := dk27 hX3_takeDigits_61
theorem hX3_takeDigits_62 : cX3_takeDigits.data.toList.drop 62 = sX3_takeDigits_62 := dn1 hX3_takeDigits_61
theorem dX3_takeDigits_62 : decode cX3_takeDigits 62 = .ok (.aload_n 0, 1) := dk42 hX3_takeDigits_62
theorem hX3_takeDigits_63 : cX3_takeDigits.data.toList.drop 63 = sX3_takeDigits_63 := dn1 hX3_takeDigits_62
theorem dX3_takeDigits_63 : decode cX3_takeDigits 63 = .ok (.getfield 101, 3) := dk180 hX3_takeDigits_63 rfl
theorem hX3_takeDigits_66 : cX3_takeDigits.data.toList.drop 66 = sX3_takeDigits_66 := dn3 hX3_takeDigits_63
theorem dX3_takeDigits_66 : decode cX3_takeDigits 66 = .ok (.isub, 1) := dk100 hX3_takeDigits_66
theorem hX3_takeDigits_67 : cX3_takeDigits.data.toList.drop 67 = sX3_takeDigits_67 := dn1 hX3_takeDigits_66
theorem dX3_takeDigits_67 : decode cX3_takeDigits 67 = .ok (.iconst 3, 1) := dk6 hX3_takeDigits_67
theorem hX3_takeDigits_68 : cX3_takeDigits.data.toList.drop 68 = sX3_takeDigits_68 := dn1 hX3_takeDigits_67
theorem dX3_takeDigits_68 : decode cX3_takeDigits 68 = .ok (.if_icmp .gt 7, 3) := dk163 hX3_takeDigits_68 (by decide)
theorem hX3_takeDigits_71 : cX3_takeDigits.data.toList.drop 71 = sX3_takeDigits_71 := dn3 hX3_takeDigits_68
theorem dX3_takeDigits_71 : decode cX3_takeDigits 71 = .ok (.iconst 2, 1) := dk5 hX3_takeDigits_71
theorem hX3_takeDigits_72 : cX3_takeDigits.data.toList.drop 72 = sX3_takeDigits_72 := dn1 hX3_takeDigits_71
theorem dX3_takeDigits_72 : decode cX3_takeDigits 72 = .ok (.goto 4, 3) := dk167 hX3_takeDigits_72 (by decide)
theorem hX3_takeDigits_75 : cX3_takeDigits.data.toList.drop 75 = sX3_takeDigits_75 := dn3 hX3_takeDigits_72
theorem dX3_takeDigits_75 : decode cX3_takeDigits 75 = .ok (.iconst 5, 1) := dk8 hX3_takeDigits_75
theorem hX3_takeDigits_76 : cX3_takeDigits.data.toList.drop 76 = sX3_takeDigits_76 := dn1 hX3_takeDigits_75
theorem dX3_takeDigits_76 : decode cX3_takeDigits 76 = .ok (.putfield 82, 3) := dk181 hX3_takeDigits_76 rfl
theorem hX3_takeDigits_79 : cX3_takeDigits.data.toList.drop 79 = sX3_takeDigits_79 := dn3 hX3_takeDigits_76
theorem dX3_takeDigits_79 : decode cX3_takeDigits 79 = .ok (.return_, 1) := dk177 hX3_takeDigits_79
noncomputable def sX3_takeLetters_117 : List UInt8 := 177 :: []
noncomputable def sX3_takeLetters_114 : List UInt8 := 167 :: 255 :: 220 :: sX3_takeLetters_117
noncomputable def sX3_takeLetters_111 : List UInt8 := 132 :: 2 :: 1 :: sX3_takeLetters_114
noncomputable def sX3_takeLetters_108 : List UInt8 := 181 :: 0 :: 107 :: sX3_takeLetters_111
noncomputable def sX3_takeLetters_107 : List UInt8 := 28 :: sX3_takeLetters_108
noncomputable def sX3_takeLetters_106 : List UInt8 := 42 :: sX3_takeLetters_107
noncomputable def sX3_takeLetters_103 : List UInt8 := 154 :: 0 :: 8 :: sX3_takeLetters_106
noncomputable def sX3_takeLetters_102 : List UInt8 := 148 :: sX3_takeLetters_103
noncomputable def sX3_takeLetters_99 : List UInt8 := 180 :: 0 :: 147 :: sX3_takeLetters_102
noncomputable def sX3_takeLetters_98 : List UInt8 := 42 :: sX3_takeLetters_99
noncomputable def sX3_takeLetters_97 : List UInt8 := 47 :: sX3_takeLetters_98
noncomputable def sX3_takeLetters_96 : List UInt8 := 28 :: sX3_takeLetters_97
noncomputable def sX3_takeLetters_93 : List UInt8 := 180 :: 0 :: 26 :: sX3_takeLetters_96
noncomputable def sX3_takeLetters_92 : List UInt8 := 42 :: sX3_takeLetters_93
noncomputable def sX3_takeLetters_89 : List UInt8 := 160 :: 0 :: 28 :: sX3_takeLetters_92
noncomputable def sX3_takeLetters_88 : List UInt8 := 4 :: sX3_takeLetters_89
noncomputable def sX3_takeLetters_85 : List UInt8 := 180 :: 0 :: 82 :: sX3_takeLetters_88
noncomputable def sX3_takeLetters_84 : List UInt8 := 42 :: sX3_takeLetters_85
noncomputable def sX3_takeLetters_81 : List UInt8 := 162 :: 0 :: 36 :: sX3_takeLetters_84
noncomputable def sX3_takeLetters_79 : List UInt8 := 16 :: 10 :: sX3_takeLetters_81
noncomputable def sX3_takeLetters_78 : List UInt8 := 28 :: sX3_takeLetters_79
noncomputable def sX3_takeLetters_77 : List UInt8 := 61 :: sX3_takeLetters_78
noncomputable def sX3_takeLetters_76 : List UInt8 := 3 :: sX3_takeLetters_77
noncomputable def sX3_takeLetters_73 : List UInt8 := 181 :: 0 :: 82 :: sX3_takeLetters_76
noncomputable def sX3_takeLetters_72 : List UInt8 := 8 :: sX3_takeLetters_73
noncomputable def sX3_takeLetters_69 : List UInt8 := 167 :: 0 :: 4 :: sX3_takeLetters_72
noncomputable def sX3_takeLetters_68 : List UInt8 := 4 :: sX3_takeLetters_69
noncomputable def sX3_takeLetters_65 : List UInt8 := 163 :: 0 :: 7 :: sX3_takeLetters_68
noncomputable def sX3_takeLetters_63 : List UInt8 := 16 :: 8 :: sX3_takeLetters_65
noncomputable def sX3_takeLetters_62 : List UInt8 := 100 :: sX3_takeLetters_63
noncomputable def sX3_takeLetters_59 : List UInt8 := 180 :: 0 :: 101 :: sX3_takeLetters_62
noncomputable def sX3_takeLetters_58 : List UInt8 := 42 :: sX3_takeLetters_59
noncomputable def sX3_takeLetters_57 : List UInt8 := 27 :: sX3_takeLetters_58
noncomputable def sX3_takeLetters_56 : List UInt8 := 42 :: sX3_takeLetters_57
noncomputable def sX3_takeLetters_53 : List UInt8 := 181 :: 0 :: 72 :: sX3_takeLetters_56
noncomputable def sX3_takeLetters_52 : List UInt8 := 27 :: sX3_takeLetters_53
noncomputable def sX3_takeLetters_51 : List UInt8 := 42 :: sX3_takeLetters_52
noncomputable def sX3_takeLetters_48 : List UInt8 := 167 :: 255 :: 218 :: sX3_takeLetters_51
noncomputable def sX3_takeLetters_45 : List UInt8 := 132 :: 1 :: 1 :: sX3_takeLetters_48
noncomputable def sX3_takeLetters_42 : List UInt8 := 181 :: 0 :: 147 :: sX3_takeLetters_45
noncomputable def sX3_takeLetters_39 : List UInt8 := 184 :: 0 :: 209 :: sX3_takeLetters_42
noncomputable def sX3_takeLetters_36 : List UInt8 := 182 :: 0 :: 193 :: sX3_takeLetters_39
noncomputable def sX3_takeLetters_35 : List UInt8 := 27 :: sX3_takeLetters_36
noncomputable def sX3_takeLetters_34 : List UInt8 := 42 :: sX3_takeLetters_35
noncomputable def sX3_takeLetters_31 : List UInt8 := 180 :: 0 :: 147 :: sX3_takeLetters_34
noncomputable def sX3_takeLetters_30 : List UInt8 := 42 :: sX3_takeLetters_31
noncomputable def sX3_takeLetters_29 : List UInt8 := 42 :: sX3_takeLetters_30
noncomputable def sX3_takeLetters_26 : List UInt8 := 153 :: 0 :: 25 :: sX3_takeLetters_29
noncomputable def sX3_takeLetters_23 : List UInt8 := 184 :: 0 :: 197 :: sX3_takeLetters_26
noncomputable def sX3_takeLetters_20 : List UInt8 := 182 :: 0 :: 193 :: sX3_takeLetters_23
noncomputable def sX3_takeLetters_19 : List UInt8 := 27 :: sX3_takeLetters_20
noncomputable def sX3_takeLetters_18 : List UInt8 := 42 :: sX3_takeLetters_19
noncomputable def sX3_takeLetters_15 : List UInt8 := 162 :: 0 :: 36 :: sX3_takeLetters_18
noncomputable def sX3_takeLetters_12 : List UInt8 := 180 :: 0 :: 56 :: sX3_takeLetters_15
noncomputable def sX3_takeLetters_11 : List UInt8 := 42 :: sX3_takeLetters_12
noncomputable def sX3_takeLetters_10 : List UInt8 := 27 :: sX3_takeLetters_11
noncomputable def sX3_takeLetters_7 : List UInt8 := 181 :: 0 :: 147 :: sX3_takeLetters_10
noncomputable def sX3_takeLetters_6 : List UInt8 := 9 :: sX3_takeLetters_7
noncomputable def sX3_takeLetters_5 : List UInt8 := 42 :: sX3_takeLetters_6
noncomputable def sX3_takeLetters_4 : List UInt8 := 60 :: sX3_takeLetters_5
noncomputable def sX3_takeLetters_1 : List UInt8 := 180 :: 0 :: 101 :: sX3_takeLetters_4
noncomputable def sX3_takeLetters_0 : List UInt8 := 42 :: sX3_takeLetters_1
set_option maxRecDepth 100000 in
theorem hX3_takeLetters_0 : cX3_takeLetters.data.toList.drop 0 = sX3_takeLetters_0 := by decide +kernel
theorem dX3_takeLetters_0 : decode cX3_takeLetters 0 = .ok (.aload_n 0, 1) := dk42 hX3_takeLetters_0
theorem hX3_takeLetters_1 : cX3_takeLetters.data.toList.drop 1 = sX3_takeLetters_1 := dn1 hX3_takeLetters_0
theorem dX3_takeLetters_1 : decode cX3_takeLetters 1 = .ok (.getfield 101, 3) := dk180 hX3_takeLetters_1 rfl
theorem hX3_takeLetters_4 : cX3_takeLetters.data.toList.drop 4 = sX3_takeLetters_4 := dn3 hX3_takeLetters_1
theorem dX3_takeLetters_4 : decode cX3_takeLetters 4 = .ok (.istore_n 1, 1) := dk60 hX3_takeLetters_4
theorem hX3_takeLetters_5 : cX3_takeLetters.data.toList.drop 5 = sX3_takeLetters_5 := dn1 hX3_takeLetters_4
theorem dX3_takeLetters_5 : decode cX3_takeLetters 5 = .ok (.aload_n 0, 1) := dk42 hX3_takeLetters_5
theorem hX3_takeLetters_6 : cX3_takeLetters.data.toList.drop 6 = sX3_takeLetters_6 := dn1 hX3_takeLetters_5
theorem dX3_takeLetters_6 : decode cX3_takeLetters 6 = .ok (.lconst 0, 1) := dk9 hX3_takeLetters_6
theorem hX3_takeLetters_7 : cX3_takeLetters.data.toList.drop 7 = sX3_takeLetters_7 := dn1 hX3_takeLetters_6
theorem dX3_takeLetters_7 : decode cX3_takeLetters 7 = .ok (.putfield 147, 3) := dk181 hX3_takeLetters_7 rfl
theorem hX3_takeLetters_10 : cX3_takeLetters.data.toList.drop 10 = sX3_takeLetters_10 := dn3 hX3_takeLetters_7
theorem dX3_takeLetters_10 : decode cX3_takeLetters 10 = .ok (.iload_n 1, 1) := dk27 hX3_takeLetters_10
theorem hX3_takeLetters_11 : cX3_takeLetters.data.toList.drop 11 = sX3_takeLetters_11 := dn1 hX3_takeLetters_10
theorem dX3_takeLetters_11 : decode cX3_takeLetters 11 = .ok (.aload_n 0, 1) := dk42 hX3_takeLetters_11
theorem hX3_takeLetters_12 : cX3_takeLetters.data.toList.drop 12 = sX3_takeLetters_12 := dn1 hX3_takeLetters_11
theorem dX3_takeLetters_12 : decode cX3_takeLetters 12 = .ok (.getfield 56, 3) := dk180 hX3_takeLetters_12 rfl
theorem hX3_takeLetters_15 : cX3_takeLetters.data.toList.drop 15 = sX3_takeLetters_15 := dn3 hX3_takeLetters_12
theorem dX3_takeLetters_15 : decode cX3_takeLetters 15 = .ok (.if_icmp .ge 36, 3) := dk162 hX3_takeLetters_15 (by decide)
theorem hX3_takeLetters_18 : cX3_takeLetters.data.toList.drop 18 = sX3_takeLetters_18 := dn3 hX3_takeLetters_15
theorem dX3_takeLetters_18 : decode cX3_takeLetters 18 = .ok (.aload_n 0, 1) := dk42 hX3_takeLetters_18
theorem hX3_takeLetters_19 : cX3_takeLetters.data.toList.drop 19 = sX3_takeLetters_19 := dn1 hX3_takeLetters_18
theorem dX3_takeLetters_19 : decode cX3_takeLetters 19 = .ok (.iload_n 1, 1) := dk27 hX3_takeLetters_19
theorem hX3_takeLetters_20 : cX3_takeLetters.data.toList.drop 20 = sX3_takeLetters_20 := dn1 hX3_takeLetters_19
theorem dX3_takeLetters_20 : decode cX3_takeLetters 20 = .ok (.invokevirtual 193, 3) := dk182 hX3_takeLetters_20 rfl
theorem hX3_takeLetters_23 : cX3_takeLetters.data.toList.drop 23 = sX3_takeLetters_23 := dn3 hX3_takeLetters_20
theorem dX3_takeLetters_23 : decode cX3_takeLetters 23 = .ok (.invokestatic 197, 3) := dk184 hX3_takeLetters_23 rfl
theorem hX3_takeLetters_26 : cX3_takeLetters.data.toList.drop 26 = sX3_takeLetters_26 := dn3 hX3_takeLetters_23
theorem dX3_takeLetters_26 : decode cX3_takeLetters 26 = .ok (.ifCond .eq 25, 3) := dk153 hX3_takeLetters_26 (by decide)
theorem hX3_takeLetters_29 : cX3_takeLetters.data.toList.drop 29 = sX3_takeLetters_29 := dn3 hX3_takeLetters_26
theorem dX3_takeLetters_29 : decode cX3_takeLetters 29 = .ok (.aload_n 0, 1) := dk42 hX3_takeLetters_29
theorem hX3_takeLetters_30 : cX3_takeLetters.data.toList.drop 30 = sX3_takeLetters_30 := dn1 hX3_takeLetters_29
theorem dX3_takeLetters_30 : decode cX3_takeLetters 30 = .ok (.aload_n 0, 1) := dk42 hX3_takeLetters_30
theorem hX3_takeLetters_31 : cX3_takeLetters.data.toList.drop 31 = sX3_takeLetters_31 := dn1 hX3_takeLetters_30
theorem dX3_takeLetters_31 : decode cX3_takeLetters 31 = .ok (.getfield 147, 3) := dk180 hX3_takeLetters_31 rfl
theorem hX3_takeLetters_34 : cX3_takeLetters.data.toList.drop 34 = sX3_takeLetters_34 := dn3 hX3_takeLetters_31
theorem dX3_takeLetters_34 : decode cX3_takeLetters 34 = .ok (.aload_n 0, 1) := dk42 hX3_takeLetters_34
theorem hX3_takeLetters_35 : cX3_takeLetters.data.toList.drop 35 = sX3_takeLetters_35 := dn1 hX3_takeLetters_34
theorem dX3_takeLetters_35 : decode cX3_takeLetters 35 = .ok (.iload_n 1, 1) := dk27 hX3_takeLetters_35
theorem hX3_takeLetters_36 : cX3_takeLetters.data.toList.drop 36 = sX3_takeLetters_36 := dn1 hX3_takeLetters_35
theorem dX3_takeLetters_36 : decode cX3_takeLetters 36 = .ok (.invokevirtual 193, 3) := dk182 hX3_takeLetters_36 rfl
theorem hX3_takeLetters_39 : cX3_takeLetters.data.toList.drop 39 = sX3_takeLetters_39 := dn3 hX3_takeLetters_36
theorem dX3_takeLetters_39 : decode cX3_takeLetters 39 = .ok (.invokestatic 209, 3) := dk184 hX3_takeLetters_39 rfl
theorem hX3_takeLetters_42 : cX3_takeLetters.data.toList.drop 42 = sX3_takeLetters_42 := dn3 hX3_takeLetters_39
theorem dX3_takeLetters_42 : decode cX3_takeLetters 42 = .ok (.putfield 147, 3) := dk181 hX3_takeLetters_42 rfl
theorem hX3_takeLetters_45 : cX3_takeLetters.data.toList.drop 45 = sX3_takeLetters_45 := dn3 hX3_takeLetters_42
theorem dX3_takeLetters_45 : decode cX3_takeLetters 45 = .ok (.iinc 1 1, 3) := dk132 hX3_takeLetters_45 rfl (by decide)
theorem hX3_takeLetters_48 : cX3_takeLetters.data.toList.drop 48 = sX3_takeLetters_48 := dn3 hX3_takeLetters_45
theorem dX3_takeLetters_48 : decode cX3_takeLetters 48 = .ok (.goto (-38), 3) := dk167 hX3_takeLetters_48 (by decide)
theorem hX3_takeLetters_51 : cX3_takeLetters.data.toList.drop 51 = sX3_takeLetters_51 := dn3 hX3_takeLetters_48
theorem dX3_takeLetters_51 : decode cX3_takeLetters 51 = .ok (.aload_n 0, 1) := dk42 hX3_takeLetters_51
theorem hX3_takeLetters_52 : cX3_takeLetters.data.toList.drop 52 = sX3_takeLetters_52 := dn1 hX3_takeLetters_51
theorem dX3_takeLetters_52 : decode cX3_takeLetters 52 = .ok (.iload_n 1, 1) := dk27 hX3_takeLetters_52
theorem hX3_takeLetters_53 : cX3_takeLetters.data.toList.drop 53 = sX3_takeLetters_53 := dn1 hX3_takeLetters_52
theorem dX3_takeLetters_53 : decode cX3_takeLetters 53 = .ok (.putfield 72, 3) := dk181 hX3_takeLetters_53 rfl
theorem hX3_takeLetters_56 : cX3_takeLetters.data.toList.drop 56 = sX3_takeLetters_56 := dn3 hX3_takeLetters_53
theorem dX3_takeLetters_56 : decode cX3_takeLetters 56 = .ok (.aload_n 0, 1) := dk42 hX3_takeLetters_56
theorem hX3_takeLetters_57 : cX3_takeLetters.data.toList.drop 57 = sX3_takeLetters_57 := dn1 hX3_takeLetters_56
theorem dX3_takeLetters_57 : decode cX3_takeLetters 57 = .ok (.iload_n 1, 1) := dk27 hX3_takeLetters_57
theorem hX3_takeLetters_58 : cX3_takeLetters.data.toList.drop 58 = sX3_takeLetters_58 := dn1 hX3_takeLetters_57
theorem dX3_takeLetters_58 : decode cX3_takeLetters 58 = .ok (.aload_n 0, 1) := dk42 hX3_takeLetters_58
theorem hX3_takeLetters_59 : cX3_takeLetters.data.toList.drop 59 = sX3_takeLetters_59 := dn1 hX3_takeLetters_58
theorem dX3_takeLetters_59 : decode cX3_takeLetters 59 = .ok (.getfield 101, 3) := dk180 hX3_takeLetters_59 rfl
theorem hX3_takeLetters_62 : cX3_takeLetters.data.toList.drop 62 = sX3_takeLetters_62 := dn3 hX3_takeLetters_59
theorem dX3_takeLetters_62 : decode cX3_takeLetters 62 = .ok (.isub, 1) := dk100 hX3_takeLetters_62
theorem hX3_takeLetters_63 : cX3_takeLetters.data.toList.drop 63 = sX3_takeLetters_63 := dn1 hX3_takeLetters_62
theorem dX3_takeLetters_63 : decode cX3_takeLetters 63 = .ok (.bipush 8, 2) := dk16 hX3_takeLetters_63 (by decide)
theorem hX3_takeLetters_65 : cX3_takeLetters.data.toList.drop 65 = sX3_takeLetters_65 := dn2 hX3_takeLetters_63
theorem dX3_takeLetters_65 : decode cX3_takeLetters 65 = .ok (.if_icmp .gt 7, 3) := dk163 hX3_takeLetters_65 (by decide)
theorem hX3_takeLetters_68 : cX3_takeLetters.data.toList.drop 68 = sX3_takeLetters_68 := dn3 hX3_takeLetters_65
theorem dX3_takeLetters_68 : decode cX3_takeLetters 68 = .ok (.iconst 1, 1) := dk4 hX3_takeLetters_68
theorem hX3_takeLetters_69 : cX3_takeLetters.data.toList.drop 69 = sX3_takeLetters_69 := dn1 hX3_takeLetters_68
theorem dX3_takeLetters_69 : decode cX3_takeLetters 69 = .ok (.goto 4, 3) := dk167 hX3_takeLetters_69 (by decide)
theorem hX3_takeLetters_72 : cX3_takeLetters.data.toList.drop 72 = sX3_takeLetters_72 := dn3 hX3_takeLetters_69
theorem dX3_takeLetters_72 : decode cX3_takeLetters 72 = .ok (.iconst 5, 1) := dk8 hX3_takeLetters_72
theorem hX3_takeLetters_73 : cX3_takeLetters.data.toList.drop 73 = sX3_takeLetters_73 := dn1 hX3_takeLetters_72
theorem dX3_takeLetters_73 : decode cX3_takeLetters 73 = .ok (.putfield 82, 3) := dk181 hX3_takeLetters_73 rfl
theorem hX3_takeLetters_76 : cX3_takeLetters.data.toList.drop 76 = sX3_takeLetters_76 := dn3 hX3_takeLetters_73
theorem dX3_takeLetters_76 : decode cX3_takeLetters 76 = .ok (.iconst 0, 1) := dk3 hX3_takeLetters_76
theorem hX3_takeLetters_77 : cX3_takeLetters.data.toList.drop 77 = sX3_takeLetters_77 := dn1 hX3_takeLetters_76
theorem dX3_takeLetters_77 : decode cX3_takeLetters 77 = .ok (.istore_n 2, 1) := dk61 hX3_takeLetters_77
theorem hX3_takeLetters_78 : cX3_takeLetters.data.toList.drop 78 = sX3_takeLetters_78 := dn1 hX3_takeLetters_77
theorem dX3_takeLetters_78 : decode cX3_takeLetters 78 = .ok (.iload_n 2, 1) := dk28 hX3_takeLetters_78
theorem hX3_takeLetters_79 : cX3_takeLetters.data.toList.drop 79 = sX3_takeLetters_79 := dn1 hX3_takeLetters_78
theorem dX3_takeLetters_79 : decode cX3_takeLetters 79 = .ok (.bipush 10, 2) := dk16 hX3_takeLetters_79 (by decide)
theorem hX3_takeLetters_81 : cX3_takeLetters.data.toList.drop 81 = sX3_takeLetters_81 := dn2 hX3_takeLetters_79
theorem dX3_takeLetters_81 : decode cX3_takeLetters 81 = .ok (.if_icmp .ge 36, 3) := dk162 hX3_takeLetters_81 (by decide)
theorem hX3_takeLetters_84 : cX3_takeLetters.data.toList.drop 84 = sX3_takeLetters_84 := dn3 hX3_takeLetters_81
theorem dX3_takeLetters_84 : decode cX3_takeLetters 84 = .ok (.aload_n 0, 1) := dk42 hX3_takeLetters_84
theorem hX3_takeLetters_85 : cX3_takeLetters.data.toList.drop 85 = sX3_takeLetters_85 := dn1 hX3_takeLetters_84
theorem dX3_takeLetters_85 : decode cX3_takeLetters 85 = .ok (.getfield 82, 3) := dk180 hX3_takeLetters_85 rfl
theorem hX3_takeLetters_88 : cX3_takeLetters.data.toList.drop 88 = sX3_takeLetters_88 := dn3 hX3_takeLetters_85
theorem dX3_takeLetters_88 : decode cX3_takeLetters 88 = .ok (.iconst 1, 1) := dk4 hX3_takeLetters_88
theorem hX3_takeLetters_89 : cX3_takeLetters.data.toList.drop 89 = sX3_takeLetters_89 := dn1 hX3_takeLetters_88
theorem dX3_takeLetters_89 : decode cX3_takeLetters 89 = .ok (.if_icmp .ne 28, 3) := dk160 hX3_takeLetters_89 (by decide)
theorem hX3_takeLetters_92 : cX3_takeLetters.data.toList.drop 92 = sX3_takeLetters_92 := dn3 hX3_takeLetters_89
theorem dX3_takeLetters_92 : decode cX3_takeLetters 92 = .ok (.aload_n 0, 1) := dk42 hX3_takeLetters_92
theorem hX3_takeLetters_93 : cX3_takeLetters.data.toList.drop 93 = sX3_takeLetters_93 := dn1 hX3_takeLetters_92
theorem dX3_takeLetters_93 : decode cX3_takeLetters 93 = .ok (.getfield 26, 3) := dk180 hX3_takeLetters_93 rfl
theorem hX3_takeLetters_96 : cX3_takeLetters.data.toList.drop 96 = sX3_takeLetters_96 := dn3 hX3_takeLetters_93
theorem dX3_takeLetters_96 : decode cX3_takeLetters 96 = .ok (.iload_n 2, 1) := dk28 hX3_takeLetters_96
theorem hX3_takeLetters_97 : cX3_takeLetters.data.toList.drop 97 = sX3_takeLetters_97 := dn1 hX3_takeLetters_96
theorem dX3_takeLetters_97 : decode cX3_takeLetters 97 = .ok (.laload, 1) := dk47 hX3_takeLetters_97
theorem hX3_takeLetters_98 : cX3_takeLetters.data.toList.drop 98 = sX3_takeLetters_98 := dn1 hX3_takeLetters_97
theorem dX3_takeLetters_98 : decode cX3_takeLetters 98 = .ok (.aload_n 0, 1) := dk42 hX3_takeLetters_98
theorem hX3_takeLetters_99 : cX3_takeLetters.data.toList.drop 99 = sX3_takeLetters_99 := dn1 hX3_takeLetters_98
theorem dX3_takeLetters_99 : decode cX3_takeLetters 99 = .ok (.getfield 147, 3) := dk180 hX3_takeLetters_99 rfl
theorem hX3_takeLetters_102 : cX3_takeLetters.data.toList.drop 102 = sX3_takeLetters_102 := dn3 hX3_takeLetters_99
theorem dX3_takeLetters_102 : decode cX3_takeLetters 102 = .ok (.lcmp, 1) := dk148 hX3_takeLetters_102
theorem hX3_takeLetters_103 : cX3_takeLetters.data.toList.drop 103 = sX3_takeLetters_103 := dn1 hX3_takeLetters_102
theorem dX3_takeLetters_103 : decode cX3_takeLetters 103 = .ok (.ifCond .ne 8, 3) := dk154 hX3_takeLetters_103 (by decide)
theorem hX3_takeLetters_106 : cX3_takeLetters.data.toList.drop 106 = sX3_takeLetters_106 := dn3 hX3_takeLetters_103
theorem dX3_takeLetters_106 : decode cX3_takeLetters 106 = .ok (.aload_n 0, 1) := dk42 hX3_takeLetters_106
theorem hX3_takeLetters_107 : cX3_takeLetters.data.toList.drop 107 = sX3_takeLetters_107 := dn1 hX3_takeLetters_106
theorem dX3_takeLetters_107 : decode cX3_takeLetters 107 = .ok (.iload_n 2, 1) := dk28 hX3_takeLetters_107
theorem hX3_takeLetters_108 : cX3_takeLetters.data.toList.drop 108 = sX3_takeLetters_108 := dn1 hX3_takeLetters_107
theorem dX3_takeLetters_108 : decode cX3_takeLetters 108 = .ok (.putfield 107, 3) := dk181 hX3_takeLetters_108 rfl
theorem hX3_takeLetters_111 : cX3_takeLetters.data.toList.drop 111 = sX3_takeLetters_111 := dn3 hX3_takeLetters_108
theorem dX3_takeLetters_111 : decode cX3_takeLetters 111 = .ok (.iinc 2 1, 3) := dk132 hX3_takeLetters_111 rfl (by decide)
theorem hX3_takeLetters_114 : cX3_takeLetters.data.toList.drop 114 = sX3_takeLetters_114 := dn3 hX3_takeLetters_111
theorem dX3_takeLetters_114 : decode cX3_takeLetters 114 = .ok (.goto (-36), 3) := dk167 hX3_takeLetters_114 (by decide)
theorem hX3_takeLetters_117 : cX3_takeLetters.data.toList.drop 117 = sX3_takeLetters_117 := dn3 hX3_takeLetters_114
theorem dX3_takeLetters_117 : decode cX3_takeLetters 117 = .ok (.return_, 1) := dk177 hX3_takeLetters_117
noncomputable def sX3_toldNode_36 : List UInt8 := 172 :: []
noncomputable def sX3_toldNode_35 : List UInt8 := 2 :: sX3_toldNode_36
noncomputable def sX3_toldNode_32 : List UInt8 := 167 :: 255 :: 226 :: sX3_toldNode_35
noncomputable def sX3_toldNode_29 : List UInt8 := 132 :: 1 :: 1 :: sX3_toldNode_32
noncomputable def sX3_toldNode_28 : List UInt8 := 172 :: sX3_toldNode_29
noncomputable def sX3_toldNode_27 : List UInt8 := 27 :: sX3_toldNode_28
noncomputable def sX3_toldNode_24 : List UInt8 := 154 :: 0 :: 5 :: sX3_toldNode_27
noncomputable def sX3_toldNode_23 : List UInt8 := 148 :: sX3_toldNode_24
noncomputable def sX3_toldNode_20 : List UInt8 := 180 :: 0 :: 147 :: sX3_toldNode_23
noncomputable def sX3_toldNode_19 : List UInt8 := 42 :: sX3_toldNode_20
noncomputable def sX3_toldNode_18 : List UInt8 := 47 :: sX3_toldNode_19
noncomputable def sX3_toldNode_17 : List UInt8 := 27 :: sX3_toldNode_18
noncomputable def sX3_toldNode_14 : List UInt8 := 180 :: 0 :: 22 :: sX3_toldNode_17
noncomputable def sX3_toldNode_13 : List UInt8 := 42 :: sX3_toldNode_14
noncomputable def sX3_toldNode_10 : List UInt8 := 162 :: 0 :: 25 :: sX3_toldNode_13
noncomputable def sX3_toldNode_7 : List UInt8 := 180 :: 0 :: 98 :: sX3_toldNode_10
noncomputable def sX3_toldNode_4 : List UInt8 := 180 :: 0 :: 18 :: sX3_toldNode_7
noncomputable def sX3_toldNode_3 : List UInt8 := 42 :: sX3_toldNode_4
noncomputable def sX3_toldNode_2 : List UInt8 := 27 :: sX3_toldNode_3
noncomputable def sX3_toldNode_1 : List UInt8 := 60 :: sX3_toldNode_2
noncomputable def sX3_toldNode_0 : List UInt8 := 3 :: sX3_toldNode_1
set_option maxRecDepth 100000 in
theorem hX3_toldNode_0 : cX3_toldNode.data.toList.drop 0 = sX3_toldNode_0 := by decide +kernel
theorem dX3_toldNode_0 : decode cX3_toldNode 0 = .ok (.iconst 0, 1) := dk3 hX3_toldNode_0
theorem hX3_toldNode_1 : cX3_toldNode.data.toList.drop 1 = sX3_toldNode_1 := dn1 hX3_toldNode_0
theorem dX3_toldNode_1 : decode cX3_toldNode 1 = .ok (.istore_n 1, 1) := dk60 hX3_toldNode_1
theorem hX3_toldNode_2 : cX3_toldNode.data.toList.drop 2 = sX3_toldNode_2 := dn1 hX3_toldNode_1
theorem dX3_toldNode_2 : decode cX3_toldNode 2 = .ok (.iload_n 1, 1) := dk27 hX3_toldNode_2
theorem hX3_toldNode_3 : cX3_toldNode.data.toList.drop 3 = sX3_toldNode_3 := dn1 hX3_toldNode_2
theorem dX3_toldNode_3 : decode cX3_toldNode 3 = .ok (.aload_n 0, 1) := dk42 hX3_toldNode_3
theorem hX3_toldNode_4 : cX3_toldNode.data.toList.drop 4 = sX3_toldNode_4 := dn1 hX3_toldNode_3
theorem dX3_toldNode_4 : decode cX3_toldNode 4 = .ok (.getfield 18, 3) := dk180 hX3_toldNode_4 rfl
theorem hX3_toldNode_7 : cX3_toldNode.data.toList.drop 7 = sX3_toldNode_7 := dn3 hX3_toldNode_4
theorem dX3_toldNode_7 : decode cX3_toldNode 7 = .ok (.getfield 98, 3) := dk180 hX3_toldNode_7 rfl
theorem hX3_toldNode_10 : cX3_toldNode.data.toList.drop 10 = sX3_toldNode_10 := dn3 hX3_toldNode_7
theorem dX3_toldNode_10 : decode cX3_toldNode 10 = .ok (.if_icmp .ge 25, 3) := dk162 hX3_toldNode_10 (by decide)
theorem hX3_toldNode_13 : cX3_toldNode.data.toList.drop 13 = sX3_toldNode_13 := dn3 hX3_toldNode_10
theorem dX3_toldNode_13 : decode cX3_toldNode 13 = .ok (.aload_n 0, 1) := dk42 hX3_toldNode_13
theorem hX3_toldNode_14 : cX3_toldNode.data.toList.drop 14 = sX3_toldNode_14 := dn1 hX3_toldNode_13
theorem dX3_toldNode_14 : decode cX3_toldNode 14 = .ok (.getfield 22, 3) := dk180 hX3_toldNode_14 rfl
theorem hX3_toldNode_17 : cX3_toldNode.data.toList.drop 17 = sX3_toldNode_17 := dn3 hX3_toldNode_14
theorem dX3_toldNode_17 : decode cX3_toldNode 17 = .ok (.iload_n 1, 1) := dk27 hX3_toldNode_17
theorem hX3_toldNode_18 : cX3_toldNode.data.toList.drop 18 = sX3_toldNode_18 := dn1 hX3_toldNode_17
theorem dX3_toldNode_18 : decode cX3_toldNode 18 = .ok (.laload, 1) := dk47 hX3_toldNode_18
theorem hX3_toldNode_19 : cX3_toldNode.data.toList.drop 19 = sX3_toldNode_19 := dn1 hX3_toldNode_18
theorem dX3_toldNode_19 : decode cX3_toldNode 19 = .ok (.aload_n 0, 1) := dk42 hX3_toldNode_19
theorem hX3_toldNode_20 : cX3_toldNode.data.toList.drop 20 = sX3_toldNode_20 := dn1 hX3_toldNode_19
theorem dX3_toldNode_20 : decode cX3_toldNode 20 = .ok (.getfield 147, 3) := dk180 hX3_toldNode_20 rfl
theorem hX3_toldNode_23 : cX3_toldNode.data.toList.drop 23 = sX3_toldNode_23 := dn3 hX3_toldNode_20
theorem dX3_toldNode_23 : decode cX3_toldNode 23 = .ok (.lcmp, 1) := dk148 hX3_toldNode_23
theorem hX3_toldNode_24 : cX3_toldNode.data.toList.drop 24 = sX3_toldNode_24 := dn1 hX3_toldNode_23
theorem dX3_toldNode_24 : decode cX3_toldNode 24 = .ok (.ifCond .ne 5, 3) := dk154 hX3_toldNode_24 (by decide)
theorem hX3_toldNode_27 : cX3_toldNode.data.toList.drop 27 = sX3_toldNode_27 := dn3 hX3_toldNode_24
theorem dX3_toldNode_27 : decode cX3_toldNode 27 = .ok (.iload_n 1, 1) := dk27 hX3_toldNode_27
theorem hX3_toldNode_28 : cX3_toldNode.data.toList.drop 28 = sX3_toldNode_28 := dn1 hX3_toldNode_27
theorem dX3_toldNode_28 : decode cX3_toldNode 28 = .ok (.ireturn, 1) := dk172 hX3_toldNode_28
theorem hX3_toldNode_29 : cX3_toldNode.data.toList.drop 29 = sX3_toldNode_29 := dn1 hX3_toldNode_28
theorem dX3_toldNode_29 : decode cX3_toldNode 29 = .ok (.iinc 1 1, 3) := dk132 hX3_toldNode_29 rfl (by decide)
theorem hX3_toldNode_32 : cX3_toldNode.data.toList.drop 32 = sX3_toldNode_32 := dn3 hX3_toldNode_29
theorem dX3_toldNode_32 : decode cX3_toldNode 32 = .ok (.goto (-30), 3) := dk167 hX3_toldNode_32 (by decide)
theorem hX3_toldNode_35 : cX3_toldNode.data.toList.drop 35 = sX3_toldNode_35 := dn3 hX3_toldNode_32
theorem dX3_toldNode_35 : decode cX3_toldNode 35 = .ok (.iconst (-1), 1) := dk2 hX3_toldNode_35
theorem hX3_toldNode_36 : cX3_toldNode.data.toList.drop 36 = sX3_toldNode_36 := dn1 hX3_toldNode_35
theorem dX3_toldNode_36 : decode cX3_toldNode 36 = .ok (.ireturn, 1) := dk172 hX3_toldNode_36
noncomputable def sX3_withLetter_13 : List UInt8 := 173 :: []
noncomputable def sX3_withLetter_12 : List UInt8 := 97 :: sX3_withLetter_13
noncomputable def sX3_withLetter_11 : List UInt8 := 133 :: sX3_withLetter_12
noncomputable def sX3_withLetter_10 : List UInt8 := 96 :: sX3_withLetter_11
noncomputable def sX3_withLetter_9 : List UInt8 := 4 :: sX3_withLetter_10
noncomputable def sX3_withLetter_8 : List UInt8 := 100 :: sX3_withLetter_9
noncomputable def sX3_withLetter_6 : List UInt8 := 16 :: 97 :: sX3_withLetter_8
noncomputable def sX3_withLetter_5 : List UInt8 := 28 :: sX3_withLetter_6
noncomputable def sX3_withLetter_4 : List UInt8 := 105 :: sX3_withLetter_5
noncomputable def sX3_withLetter_1 : List UInt8 := 20 :: 0 :: 213 :: sX3_withLetter_4
noncomputable def sX3_withLetter_0 : List UInt8 := 30 :: sX3_withLetter_1
set_option maxRecDepth 100000 in
theorem hX3_withLetter_0 : cX3_withLetter.data.toList.drop 0 = sX3_withLetter_0 := by decide +kernel
theorem dX3_withLetter_0 : decode cX3_withLetter 0 = .ok (.lload_n 0, 1) := dk30 hX3_withLetter_0
theorem hX3_withLetter_1 : cX3_withLetter.data.toList.drop 1 = sX3_withLetter_1 := dn1 hX3_withLetter_0
theorem dX3_withLetter_1 : decode cX3_withLetter 1 = .ok (.ldc2_w 213, 3) := dk20 hX3_withLetter_1 rfl
theorem hX3_withLetter_4 : cX3_withLetter.data.toList.drop 4 = sX3_withLetter_4 := dn3 hX3_withLetter_1
theorem dX3_withLetter_4 : decode cX3_withLetter 4 = .ok (.lmul, 1) := dk105 hX3_withLetter_4
theorem hX3_withLetter_5 : cX3_withLetter.data.toList.drop 5 = sX3_withLetter_5 := dn1 hX3_withLetter_4
theorem dX3_withLetter_5 : decode cX3_withLetter 5 = .ok (.iload_n 2, 1) := dk28 hX3_withLetter_5
theorem hX3_withLetter_6 : cX3_withLetter.data.toList.drop 6 = sX3_withLetter_6 := dn1 hX3_withLetter_5
theorem dX3_withLetter_6 : decode cX3_withLetter 6 = .ok (.bipush 97, 2) := dk16 hX3_withLetter_6 (by decide)
theorem hX3_withLetter_8 : cX3_withLetter.data.toList.drop 8 = sX3_withLetter_8 := dn2 hX3_withLetter_6
theorem dX3_withLetter_8 : decode cX3_withLetter 8 = .ok (.isub, 1) := dk100 hX3_withLetter_8
theorem hX3_withLetter_9 : cX3_withLetter.data.toList.drop 9 = sX3_withLetter_9 := dn1 hX3_withLetter_8
theorem dX3_withLetter_9 : decode cX3_withLetter 9 = .ok (.iconst 1, 1) := dk4 hX3_withLetter_9
theorem hX3_withLetter_10 : cX3_withLetter.data.toList.drop 10 = sX3_withLetter_10 := dn1 hX3_withLetter_9
theorem dX3_withLetter_10 : decode cX3_withLetter 10 = .ok (.iadd, 1) := dk96 hX3_withLetter_10
theorem hX3_withLetter_11 : cX3_withLetter.data.toList.drop 11 = sX3_withLetter_11 := dn1 hX3_withLetter_10
theorem dX3_withLetter_11 : decode cX3_withLetter 11 = .ok (.i2l, 1) := dk133 hX3_withLetter_11
theorem hX3_withLetter_12 : cX3_withLetter.data.toList.drop 12 = sX3_withLetter_12 := dn1 hX3_withLetter_11
theorem dX3_withLetter_12 : decode cX3_withLetter 12 = .ok (.ladd, 1) := dk97 hX3_withLetter_12
theorem hX3_withLetter_13 : cX3_withLetter.data.toList.drop 13 = sX3_withLetter_13 := dn1 hX3_withLetter_12
theorem dX3_withLetter_13 : decode cX3_withLetter 13 = .ok (.lreturn, 1) := dk173 hX3_withLetter_13
