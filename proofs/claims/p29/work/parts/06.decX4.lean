noncomputable def sX4_init_20 : List UInt8 := 177 :: []
noncomputable def sX4_init_17 : List UInt8 := 181 :: 0 :: 15 :: sX4_init_20
noncomputable def sX4_init_15 : List UInt8 := 188 :: 10 :: sX4_init_17
noncomputable def sX4_init_13 : List UInt8 := 16 :: 18 :: sX4_init_15
noncomputable def sX4_init_12 : List UInt8 := 42 :: sX4_init_13
noncomputable def sX4_init_9 : List UInt8 := 181 :: 0 :: 9 :: sX4_init_12
noncomputable def sX4_init_7 : List UInt8 := 188 :: 10 :: sX4_init_9
noncomputable def sX4_init_5 : List UInt8 := 16 :: 18 :: sX4_init_7
noncomputable def sX4_init_4 : List UInt8 := 42 :: sX4_init_5
noncomputable def sX4_init_1 : List UInt8 := 183 :: 0 :: 3 :: sX4_init_4
noncomputable def sX4_init_0 : List UInt8 := 42 :: sX4_init_1
set_option maxRecDepth 100000 in
theorem hX4_init_0 : cX4_init.data.toList.drop 0 = sX4_init_0 := by decide +kernel
theorem dX4_init_0 : decode cX4_init 0 = .ok (.aload_n 0, 1) := dk42 hX4_init_0
theorem hX4_init_1 : cX4_init.data.toList.drop 1 = sX4_init_1 := dn1 hX4_init_0
theorem dX4_init_1 : decode cX4_init 1 = .ok (.invokespecial 3, 3) := dk183 hX4_init_1 rfl
theorem hX4_init_4 : cX4_init.data.toList.drop 4 = sX4_init_4 := dn3 hX4_init_1
theorem dX4_init_4 : decode cX4_init 4 = .ok (.aload_n 0, 1) := dk42 hX4_init_4
theorem hX4_init_5 : cX4_init.data.toList.drop 5 = sX4_init_5 := dn1 hX4_init_4
theorem dX4_init_5 : decode cX4_init 5 = .ok (.bipush 18, 2) := dk16 hX4_init_5 (by decide)
theorem hX4_init_7 : cX4_init.data.toList.drop 7 = sX4_init_7 := dn2 hX4_init_5
set_option maxRecDepth 100000 in
theorem dX4_init_7 : decode cX4_init 7 = .ok (.newarray .int, 2) := by decide +kernel
theorem hX4_init_9 : cX4_init.data.toList.drop 9 = sX4_init_9 := dn2 hX4_init_7
theorem dX4_init_9 : decode cX4_init 9 = .ok (.putfield 9, 3) := dk181 hX4_init_9 rfl
theorem hX4_init_12 : cX4_init.data.toList.drop 12 = sX4_init_12 := dn3 hX4_init_9
theorem dX4_init_12 : decode cX4_init 12 = .ok (.aload_n 0, 1) := dk42 hX4_init_12
theorem hX4_init_13 : cX4_init.data.toList.drop 13 = sX4_init_13 := dn1 hX4_init_12
theorem dX4_init_13 : decode cX4_init 13 = .ok (.bipush 18, 2) := dk16 hX4_init_13 (by decide)
theorem hX4_init_15 : cX4_init.data.toList.drop 15 = sX4_init_15 := dn2 hX4_init_13
set_option maxRecDepth 100000 in
theorem dX4_init_15 : decode cX4_init 15 = .ok (.newarray .int, 2) := by decide +kernel
theorem hX4_init_17 : cX4_init.data.toList.drop 17 = sX4_init_17 := dn2 hX4_init_15
theorem dX4_init_17 : decode cX4_init 17 = .ok (.putfield 15, 3) := dk181 hX4_init_17 rfl
theorem hX4_init_20 : cX4_init.data.toList.drop 20 = sX4_init_20 := dn3 hX4_init_17
theorem dX4_init_20 : decode cX4_init 20 = .ok (.return_, 1) := dk177 hX4_init_20
noncomputable def sX4_joined_127 : List UInt8 := 172 :: []
noncomputable def sX4_joined_125 : List UInt8 := 21 :: 4 :: sX4_joined_127
noncomputable def sX4_joined_122 : List UInt8 := 167 :: 0 :: 5 :: sX4_joined_125
noncomputable def sX4_joined_119 : List UInt8 := 184 :: 0 :: 57 :: sX4_joined_122
noncomputable def sX4_joined_118 : List UInt8 := 46 :: sX4_joined_119
noncomputable def sX4_joined_117 : List UInt8 := 28 :: sX4_joined_118
noncomputable def sX4_joined_114 : List UInt8 := 180 :: 0 :: 54 :: sX4_joined_117
noncomputable def sX4_joined_113 : List UInt8 := 43 :: sX4_joined_114
noncomputable def sX4_joined_111 : List UInt8 := 21 :: 4 :: sX4_joined_113
noncomputable def sX4_joined_108 : List UInt8 := 160 :: 0 :: 17 :: sX4_joined_111
noncomputable def sX4_joined_107 : List UInt8 := 6 :: sX4_joined_108
noncomputable def sX4_joined_106 : List UInt8 := 29 :: sX4_joined_107
noncomputable def sX4_joined_103 : List UInt8 := 167 :: 255 :: 166 :: sX4_joined_106
noncomputable def sX4_joined_100 : List UInt8 := 132 :: 5 :: 1 :: sX4_joined_103
noncomputable def sX4_joined_98 : List UInt8 := 54 :: 4 :: sX4_joined_100
noncomputable def sX4_joined_96 : List UInt8 := 21 :: 7 :: sX4_joined_98
noncomputable def sX4_joined_93 : List UInt8 := 162 :: 0 :: 7 :: sX4_joined_96
noncomputable def sX4_joined_91 : List UInt8 := 21 :: 4 :: sX4_joined_93
noncomputable def sX4_joined_89 : List UInt8 := 21 :: 7 :: sX4_joined_91
noncomputable def sX4_joined_86 : List UInt8 := 167 :: 0 :: 10 :: sX4_joined_89
noncomputable def sX4_joined_83 : List UInt8 := 164 :: 0 :: 17 :: sX4_joined_86
noncomputable def sX4_joined_81 : List UInt8 := 21 :: 4 :: sX4_joined_83
noncomputable def sX4_joined_79 : List UInt8 := 21 :: 7 :: sX4_joined_81
noncomputable def sX4_joined_76 : List UInt8 := 160 :: 0 :: 13 :: sX4_joined_79
noncomputable def sX4_joined_75 : List UInt8 := 4 :: sX4_joined_76
noncomputable def sX4_joined_74 : List UInt8 := 29 :: sX4_joined_75
noncomputable def sX4_joined_71 : List UInt8 := 153 :: 0 :: 25 :: sX4_joined_74
noncomputable def sX4_joined_69 : List UInt8 := 21 :: 5 :: sX4_joined_71
noncomputable def sX4_joined_66 : List UInt8 := 167 :: 0 :: 34 :: sX4_joined_69
noncomputable def sX4_joined_64 : List UInt8 := 54 :: 4 :: sX4_joined_66
noncomputable def sX4_joined_63 : List UInt8 := 96 :: sX4_joined_64
noncomputable def sX4_joined_62 : List UInt8 := 104 :: sX4_joined_63
noncomputable def sX4_joined_61 : List UInt8 := 46 :: sX4_joined_62
noncomputable def sX4_joined_59 : List UInt8 := 21 :: 6 :: sX4_joined_61
noncomputable def sX4_joined_56 : List UInt8 := 180 :: 0 :: 51 :: sX4_joined_59
noncomputable def sX4_joined_55 : List UInt8 := 43 :: sX4_joined_56
noncomputable def sX4_joined_53 : List UInt8 := 21 :: 7 :: sX4_joined_55
noncomputable def sX4_joined_51 : List UInt8 := 21 :: 4 :: sX4_joined_53
noncomputable def sX4_joined_48 : List UInt8 := 160 :: 0 :: 21 :: sX4_joined_51
noncomputable def sX4_joined_47 : List UInt8 := 6 :: sX4_joined_48
noncomputable def sX4_joined_46 : List UInt8 := 29 :: sX4_joined_47
noncomputable def sX4_joined_44 : List UInt8 := 54 :: 7 :: sX4_joined_46
noncomputable def sX4_joined_43 : List UInt8 := 46 :: sX4_joined_44
noncomputable def sX4_joined_42 : List UInt8 := 46 :: sX4_joined_43
noncomputable def sX4_joined_40 : List UInt8 := 21 :: 6 :: sX4_joined_42
noncomputable def sX4_joined_37 : List UInt8 := 180 :: 0 :: 48 :: sX4_joined_40
noncomputable def sX4_joined_36 : List UInt8 := 43 :: sX4_joined_37
noncomputable def sX4_joined_33 : List UInt8 := 180 :: 0 :: 9 :: sX4_joined_36
noncomputable def sX4_joined_32 : List UInt8 := 42 :: sX4_joined_33
noncomputable def sX4_joined_30 : List UInt8 := 54 :: 6 :: sX4_joined_32
noncomputable def sX4_joined_29 : List UInt8 := 96 :: sX4_joined_30
noncomputable def sX4_joined_27 : List UInt8 := 21 :: 5 :: sX4_joined_29
noncomputable def sX4_joined_26 : List UInt8 := 104 :: sX4_joined_27
noncomputable def sX4_joined_25 : List UInt8 := 7 :: sX4_joined_26
noncomputable def sX4_joined_24 : List UInt8 := 28 :: sX4_joined_25
noncomputable def sX4_joined_21 : List UInt8 := 162 :: 0 :: 85 :: sX4_joined_24
noncomputable def sX4_joined_20 : List UInt8 := 46 :: sX4_joined_21
noncomputable def sX4_joined_19 : List UInt8 := 28 :: sX4_joined_20
noncomputable def sX4_joined_16 : List UInt8 := 180 :: 0 :: 45 :: sX4_joined_19
noncomputable def sX4_joined_15 : List UInt8 := 43 :: sX4_joined_16
noncomputable def sX4_joined_13 : List UInt8 := 21 :: 5 :: sX4_joined_15
noncomputable def sX4_joined_11 : List UInt8 := 54 :: 5 :: sX4_joined_13
noncomputable def sX4_joined_10 : List UInt8 := 3 :: sX4_joined_11
noncomputable def sX4_joined_8 : List UInt8 := 54 :: 4 :: sX4_joined_10
noncomputable def sX4_joined_7 : List UInt8 := 3 :: sX4_joined_8
noncomputable def sX4_joined_6 : List UInt8 := 62 :: sX4_joined_7
noncomputable def sX4_joined_5 : List UInt8 := 46 :: sX4_joined_6
noncomputable def sX4_joined_4 : List UInt8 := 28 :: sX4_joined_5
noncomputable def sX4_joined_1 : List UInt8 := 180 :: 0 :: 24 :: sX4_joined_4
noncomputable def sX4_joined_0 : List UInt8 := 43 :: sX4_joined_1
set_option maxRecDepth 100000 in
theorem hX4_joined_0 : cX4_joined.data.toList.drop 0 = sX4_joined_0 := by decide +kernel
theorem dX4_joined_0 : decode cX4_joined 0 = .ok (.aload_n 1, 1) := dk43 hX4_joined_0
theorem hX4_joined_1 : cX4_joined.data.toList.drop 1 = sX4_joined_1 := dn1 hX4_joined_0
theorem dX4_joined_1 : decode cX4_joined 1 = .ok (.getfield 24, 3) := dk180 hX4_joined_1 rfl
theorem hX4_joined_4 : cX4_joined.data.toList.drop 4 = sX4_joined_4 := dn3 hX4_joined_1
theorem dX4_joined_4 : decode cX4_joined 4 = .ok (.iload_n 2, 1) := dk28 hX4_joined_4
theorem hX4_joined_5 : cX4_joined.data.toList.drop 5 = sX4_joined_5 := dn1 hX4_joined_4
theorem dX4_joined_5 : decode cX4_joined 5 = .ok (.iaload, 1) := dk46 hX4_joined_5
theorem hX4_joined_6 : cX4_joined.data.toList.drop 6 = sX4_joined_6 := dn1 hX4_joined_5
theorem dX4_joined_6 : decode cX4_joined 6 = .ok (.istore_n 3, 1) := dk62 hX4_joined_6
theorem hX4_joined_7 : cX4_joined.data.toList.drop 7 = sX4_joined_7 := dn1 hX4_joined_6
theorem dX4_joined_7 : decode cX4_joined 7 = .ok (.iconst 0, 1) := dk3 hX4_joined_7
theorem hX4_joined_8 : cX4_joined.data.toList.drop 8 = sX4_joined_8 := dn1 hX4_joined_7
theorem dX4_joined_8 : decode cX4_joined 8 = .ok (.istore 4, 2) := dk54 hX4_joined_8 rfl
theorem hX4_joined_10 : cX4_joined.data.toList.drop 10 = sX4_joined_10 := dn2 hX4_joined_8
theorem dX4_joined_10 : decode cX4_joined 10 = .ok (.iconst 0, 1) := dk3 hX4_joined_10
theorem hX4_joined_11 : cX4_joined.data.toList.drop 11 = sX4_joined_11 := dn1 hX4_joined_10
theorem dX4_joined_11 : decode cX4_joined 11 = .ok (.istore 5, 2) := dk54 hX4_joined_11 rfl
theorem hX4_joined_13 : cX4_joined.data.toList.drop 13 = sX4_joined_13 := dn2 hX4_joined_11
theorem dX4_joined_13 : decode cX4_joined 13 = .ok (.iload 5, 2) := dk21 hX4_joined_13 rfl
theorem hX4_joined_15 : cX4_joined.data.toList.drop 15 = sX4_joined_15 := dn2 hX4_joined_13
theorem dX4_joined_15 : decode cX4_joined 15 = .ok (.aload_n 1, 1) := dk43 hX4_joined_15
theorem hX4_joined_16 : cX4_joined.data.toList.drop 16 = sX4_joined_16 := dn1 hX4_joined_15
theorem dX4_joined_16 : decode cX4_joined 16 = .ok (.getfield 45, 3) := dk180 hX4_joined_16 rfl
theorem hX4_joined_19 : cX4_joined.data.toList.drop 19 = sX4_joined_19 := dn3 hX4_joined_16
theorem dX4_joined_19 : decode cX4_joined 19 = .ok (.iload_n 2, 1) := dk28 hX4_joined_19
theorem hX4_joined_20 : cX4_joined.data.toList.drop 20 = sX4_joined_20 := dn1 hX4_joined_19
theorem dX4_joined_20 : decode cX4_joined 20 = .ok (.iaload, 1) := dk46 hX4_joined_20
theorem hX4_joined_21 : cX4_joined.data.toList.drop 21 = sX4_joined_21 := dn1 hX4_joined_20
theorem dX4_joined_21 : decode cX4_joined 21 = .ok (.if_icmp .ge 85, 3) := dk162 hX4_joined_21 (by decide)
theorem hX4_joined_24 : cX4_joined.data.toList.drop 24 = sX4_joined_24 := dn3 hX4_joined_21
theorem dX4_joined_24 : decode cX4_joined 24 = .ok (.iload_n 2, 1) := dk28 hX4_joined_24
theorem hX4_joined_25 : cX4_joined.data.toList.drop 25 = sX4_joined_25 := dn1 hX4_joined_24
theorem dX4_joined_25 : decode cX4_joined 25 = .ok (.iconst 4, 1) := dk7 hX4_joined_25
theorem hX4_joined_26 : cX4_joined.data.toList.drop 26 = sX4_joined_26 := dn1 hX4_joined_25
theorem dX4_joined_26 : decode cX4_joined 26 = .ok (.imul, 1) := dk104 hX4_joined_26
theorem hX4_joined_27 : cX4_joined.data.toList.drop 27 = sX4_joined_27 := dn1 hX4_joined_26
theorem dX4_joined_27 : decode cX4_joined 27 = .ok (.iload 5, 2) := dk21 hX4_joined_27 rfl
theorem hX4_joined_29 : cX4_joined.data.toList.drop 29 = sX4_joined_29 := dn2 hX4_joined_27
theorem dX4_joined_29 : decode cX4_joined 29 = .ok (.iadd, 1) := dk96 hX4_joined_29
theorem hX4_joined_30 : cX4_joined.data.toList.drop 30 = sX4_joined_30 := dn1 hX4_joined_29
theorem dX4_joined_30 : decode cX4_joined 30 = .ok (.istore 6, 2) := dk54 hX4_joined_30 rfl
theorem hX4_joined_32 : cX4_joined.data.toList.drop 32 = sX4_joined_32 := dn2 hX4_joined_30
theorem dX4_joined_32 : decode cX4_joined 32 = .ok (.aload_n 0, 1) := dk42 hX4_joined_32
theorem hX4_joined_33 : cX4_joined.data.toList.drop 33 = sX4_joined_33 := dn1 hX4_joined_32
theorem dX4_joined_33 : decode cX4_joined 33 = .ok (.getfield 9, 3) := dk180 hX4_joined_33 rfl
theorem hX4_joined_36 : cX4_joined.data.toList.drop 36 = sX4_joined_36 := dn3 hX4_joined_33
theorem dX4_joined_36 : decode cX4_joined 36 = .ok (.aload_n 1, 1) := dk43 hX4_joined_36
theorem hX4_joined_37 : cX4_joined.data.toList.drop 37 = sX4_joined_37 := dn1 hX4_joined_36
theorem dX4_joined_37 : decode cX4_joined 37 = .ok (.getfield 48, 3) := dk180 hX4_joined_37 rfl
theorem hX4_joined_40 : cX4_joined.data.toList.drop 40 = sX4_joined_40 := dn3 hX4_joined_37
theorem dX4_joined_40 : decode cX4_joined 40 = .ok (.iload 6, 2) := dk21 hX4_joined_40 rfl
theorem hX4_joined_42 : cX4_joined.data.toList.drop 42 = sX4_joined_42 := dn2 hX4_joined_40
theorem dX4_joined_42 : decode cX4_joined 42 = .ok (.iaload, 1) := dk46 hX4_joined_42
theorem hX4_joined_43 : cX4_joined.data.toList.drop 43 = sX4_joined_43 := dn1 hX4_joined_42
theorem dX4_joined_43 : decode cX4_joined 43 = .ok (.iaload, 1) := dk46 hX4_joined_43
theorem hX4_joined_44 : cX4_joined.data.toList.drop 44 = sX4_joined_44 := dn1 hX4_joined_43
theorem dX4_joined_44 : decode cX4_joined 44 = .ok (.istore 7, 2) := dk54 hX4_joined_44 rfl
theorem hX4_joined_46 : cX4_joined.data.toList.drop 46 = sX4_joined_46 := dn2 hX4_joined_44
theorem dX4_joined_46 : decode cX4_joined 46 = .ok (.iload_n 3, 1) := dk29 hX4_joined_46
theorem hX4_joined_47 : cX4_joined.data.toList.drop 47 = sX4_joined_47 := dn1 hX4_joined_46
theorem dX4_joined_47 : decode cX4_joined 47 = .ok (.iconst 3, 1) := dk6 hX4_joined_47
theorem hX4_joined_48 : cX4_joined.data.toList.drop 48 = sX4_joined_48 := dn1 hX4_joined_47
theorem dX4_joined_48 : decode cX4_joined 48 = .ok (.if_icmp .ne 21, 3) := dk160 hX4_joined_48 (by decide)
theorem hX4_joined_51 : cX4_joined.data.toList.drop 51 = sX4_joined_51 := dn3 hX4_joined_48
theorem dX4_joined_51 : decode cX4_joined 51 = .ok (.iload 4, 2) := dk21 hX4_joined_51 rfl
theorem hX4_joined_53 : cX4_joined.data.toList.drop 53 = sX4_joined_53 := dn2 hX4_joined_51
theorem dX4_joined_53 : decode cX4_joined 53 = .ok (.iload 7, 2) := dk21 hX4_joined_53 rfl
theorem hX4_joined_55 : cX4_joined.data.toList.drop 55 = sX4_joined_55 := dn2 hX4_joined_53
theorem dX4_joined_55 : decode cX4_joined 55 = .ok (.aload_n 1, 1) := dk43 hX4_joined_55
theorem hX4_joined_56 : cX4_joined.data.toList.drop 56 = sX4_joined_56 := dn1 hX4_joined_55
theorem dX4_joined_56 : decode cX4_joined 56 = .ok (.getfield 51, 3) := dk180 hX4_joined_56 rfl
theorem hX4_joined_59 : cX4_joined.data.toList.drop 59 = sX4_joined_59 := dn3 hX4_joined_56
theorem dX4_joined_59 : decode cX4_joined 59 = .ok (.iload 6, 2) := dk21 hX4_joined_59 rfl
theorem hX4_joined_61 : cX4_joined.data.toList.drop 61 = sX4_joined_61 := dn2 hX4_joined_59
theorem dX4_joined_61 : decode cX4_joined 61 = .ok (.iaload, 1) := dk46 hX4_joined_61
theorem hX4_joined_62 : cX4_joined.data.toList.drop 62 = sX4_joined_62 := dn1 hX4_joined_61
theorem dX4_joined_62 : decode cX4_joined 62 = .ok (.imul, 1) := dk104 hX4_joined_62
theorem hX4_joined_63 : cX4_joined.data.toList.drop 63 = sX4_joined_63 := dn1 hX4_joined_62
theorem dX4_joined_63 : decode cX4_joined 63 = .ok (.iadd, 1) := dk96 hX4_joined_63
theorem hX4_joined_64 : cX4_joined.data.toList.drop 64 = sX4_joined_64 := dn1 hX4_joined_63
theorem dX4_joined_64 : decode cX4_joined 64 = .ok (.istore 4, 2) := dk54 hX4_joined_64 rfl
theorem hX4_joined_66 : cX4_joined.data.toList.drop 66 = sX4_joined_66 := dn2 hX4_joined_64
theorem dX4_joined_66 : decode cX4_joined 66 = .ok (.goto 34, 3) := dk167 hX4_joined_66 (by decide)
theorem hX4_joined_69 : cX4_joined.data.toList.drop 69 = sX4_joined_69 := dn3 hX4_joined_66
theorem dX4_joined_69 : decode cX4_joined 69 = .ok (.iload 5, 2) := dk21 hX4_joined_69 rfl
theorem hX4_joined_71 : cX4_joined.data.toList.drop 71 = sX4_joined_71 := dn2 hX4_joined_69
theorem dX4_joined_71 : decode cX4_joined 71 = .ok (.ifCond .eq 25, 3) := dk153 hX4_joined_71 (by decide)
theorem hX4_joined_74 : cX4_joined.data.toList.drop 74 = sX4_joined_74 := dn3 hX4_joined_71
theorem dX4_joined_74 : decode cX4_joined 74 = .ok (.iload_n 3, 1) := dk29 hX4_joined_74
theorem hX4_joined_75 : cX4_joined.data.toList.drop 75 = sX4_joined_75 := dn1 hX4_joined_74
theorem dX4_joined_75 : decode cX4_joined 75 = .ok (.iconst 1, 1) := dk4 hX4_joined_75
theorem hX4_joined_76 : cX4_joined.data.toList.drop 76 = sX4_joined_76 := dn1 hX4_joined_75
theorem dX4_joined_76 : decode cX4_joined 76 = .ok (.if_icmp .ne 13, 3) := dk160 hX4_joined_76 (by decide)
theorem hX4_joined_79 : cX4_joined.data.toList.drop 79 = sX4_joined_79 := dn3 hX4_joined_76
theorem dX4_joined_79 : decode cX4_joined 79 = .ok (.iload 7, 2) := dk21 hX4_joined_79 rfl
theorem hX4_joined_81 : cX4_joined.data.toList.drop 81 = sX4_joined_81 := dn2 hX4_joined_79
theorem dX4_joined_81 : decode cX4_joined 81 = .ok (.iload 4, 2) := dk21 hX4_joined_81 rfl
theorem hX4_joined_83 : cX4_joined.data.toList.drop 83 = sX4_joined_83 := dn2 hX4_joined_81
theorem dX4_joined_83 : decode cX4_joined 83 = .ok (.if_icmp .le 17, 3) := dk164 hX4_joined_83 (by decide)
theorem hX4_joined_86 : cX4_joined.data.toList.drop 86 = sX4_joined_86 := dn3 hX4_joined_83
theorem dX4_joined_86 : decode cX4_joined 86 = .ok (.goto 10, 3) := dk167 hX4_joined_86 (by decide)
theorem hX4_joined_89 : cX4_joined.data.toList.drop 89 = sX4_joined_89 := dn3 hX4_joined_86
theorem dX4_joined_89 : decode cX4_joined 89 = .ok (.iload 7, 2) := dk21 hX4_joined_89 rfl
theorem hX4_joined_91 : cX4_joined.data.toList.drop 91 = sX4_joined_91 := dn2 hX4_joined_89
theorem dX4_joined_91 : decode cX4_joined 91 = .ok (.iload 4, 2) := dk21 hX4_joined_91 rfl
theorem hX4_joined_93 : cX4_joined.data.toList.drop 93 = sX4_joined_93 := dn2 hX4_joined_91
theorem dX4_joined_93 : decode cX4_joined 93 = .ok (.if_icmp .ge 7, 3) := dk162 hX4_joined_93 (by decide)
theorem hX4_joined_96 : cX4_joined.data.toList.drop 96 = sX4_joined_96 := dn3 hX4_joined_93
theorem dX4_joined_96 : decode cX4_joined 96 = .ok (.iload 7, 2) := dk21 hX4_joined_96 rfl
theorem hX4_joined_98 : cX4_joined.data.toList.drop 98 = sX4_joined_98 := dn2 hX4_joined_96
theorem dX4_joined_98 : decode cX4_joined 98 = .ok (.istore 4, 2) := dk54 hX4_joined_98 rfl
theorem hX4_joined_100 : cX4_joined.data.toList.drop 100 = sX4_joined_100 := dn2 hX4_joined_98
theorem dX4_joined_100 : decode cX4_joined 100 = .ok (.iinc 5 1, 3) := dk132 hX4_joined_100 rfl (by decide)
theorem hX4_joined_103 : cX4_joined.data.toList.drop 103 = sX4_joined_103 := dn3 hX4_joined_100
theorem dX4_joined_103 : decode cX4_joined 103 = .ok (.goto (-90), 3) := dk167 hX4_joined_103 (by decide)
theorem hX4_joined_106 : cX4_joined.data.toList.drop 106 = sX4_joined_106 := dn3 hX4_joined_103
theorem dX4_joined_106 : decode cX4_joined 106 = .ok (.iload_n 3, 1) := dk29 hX4_joined_106
theorem hX4_joined_107 : cX4_joined.data.toList.drop 107 = sX4_joined_107 := dn1 hX4_joined_106
theorem dX4_joined_107 : decode cX4_joined 107 = .ok (.iconst 3, 1) := dk6 hX4_joined_107
theorem hX4_joined_108 : cX4_joined.data.toList.drop 108 = sX4_joined_108 := dn1 hX4_joined_107
theorem dX4_joined_108 : decode cX4_joined 108 = .ok (.if_icmp .ne 17, 3) := dk160 hX4_joined_108 (by decide)
theorem hX4_joined_111 : cX4_joined.data.toList.drop 111 = sX4_joined_111 := dn3 hX4_joined_108
theorem dX4_joined_111 : decode cX4_joined 111 = .ok (.iload 4, 2) := dk21 hX4_joined_111 rfl
theorem hX4_joined_113 : cX4_joined.data.toList.drop 113 = sX4_joined_113 := dn2 hX4_joined_111
theorem dX4_joined_113 : decode cX4_joined 113 = .ok (.aload_n 1, 1) := dk43 hX4_joined_113
theorem hX4_joined_114 : cX4_joined.data.toList.drop 114 = sX4_joined_114 := dn1 hX4_joined_113
theorem dX4_joined_114 : decode cX4_joined 114 = .ok (.getfield 54, 3) := dk180 hX4_joined_114 rfl
theorem hX4_joined_117 : cX4_joined.data.toList.drop 117 = sX4_joined_117 := dn3 hX4_joined_114
theorem dX4_joined_117 : decode cX4_joined 117 = .ok (.iload_n 2, 1) := dk28 hX4_joined_117
theorem hX4_joined_118 : cX4_joined.data.toList.drop 118 = sX4_joined_118 := dn1 hX4_joined_117
theorem dX4_joined_118 : decode cX4_joined 118 = .ok (.iaload, 1) := dk46 hX4_joined_118
theorem hX4_joined_119 : cX4_joined.data.toList.drop 119 = sX4_joined_119 := dn1 hX4_joined_118
theorem dX4_joined_119 : decode cX4_joined 119 = .ok (.invokestatic 57, 3) := dk184 hX4_joined_119 rfl
theorem hX4_joined_122 : cX4_joined.data.toList.drop 122 = sX4_joined_122 := dn3 hX4_joined_119
theorem dX4_joined_122 : decode cX4_joined 122 = .ok (.goto 5, 3) := dk167 hX4_joined_122 (by decide)
theorem hX4_joined_125 : cX4_joined.data.toList.drop 125 = sX4_joined_125 := dn3 hX4_joined_122
theorem dX4_joined_125 : decode cX4_joined 125 = .ok (.iload 4, 2) := dk21 hX4_joined_125 rfl
theorem hX4_joined_127 : cX4_joined.data.toList.drop 127 = sX4_joined_127 := dn2 hX4_joined_125
theorem dX4_joined_127 : decode cX4_joined 127 = .ok (.ireturn, 1) := dk172 hX4_joined_127
noncomputable def sX4_throneBySet_56 : List UInt8 := 172 :: []
noncomputable def sX4_throneBySet_53 : List UInt8 := 182 :: 0 :: 72 :: sX4_throneBySet_56
noncomputable def sX4_throneBySet_50 : List UInt8 := 180 :: 0 :: 15 :: sX4_throneBySet_53
noncomputable def sX4_throneBySet_49 : List UInt8 := 42 :: sX4_throneBySet_50
noncomputable def sX4_throneBySet_48 : List UInt8 := 43 :: sX4_throneBySet_49
noncomputable def sX4_throneBySet_47 : List UInt8 := 42 :: sX4_throneBySet_48
noncomputable def sX4_throneBySet_44 : List UInt8 := 167 :: 255 :: 215 :: sX4_throneBySet_47
noncomputable def sX4_throneBySet_41 : List UInt8 := 132 :: 5 :: 1 :: sX4_throneBySet_44
noncomputable def sX4_throneBySet_40 : List UInt8 := 79 :: sX4_throneBySet_41
noncomputable def sX4_throneBySet_38 : List UInt8 := 21 :: 4 :: sX4_throneBySet_40
noncomputable def sX4_throneBySet_35 : List UInt8 := 167 :: 0 :: 5 :: sX4_throneBySet_38
noncomputable def sX4_throneBySet_34 : List UInt8 := 46 :: sX4_throneBySet_35
noncomputable def sX4_throneBySet_32 : List UInt8 := 21 :: 5 :: sX4_throneBySet_34
noncomputable def sX4_throneBySet_29 : List UInt8 := 180 :: 0 :: 61 :: sX4_throneBySet_32
noncomputable def sX4_throneBySet_28 : List UInt8 := 44 :: sX4_throneBySet_29
noncomputable def sX4_throneBySet_25 : List UInt8 := 160 :: 0 :: 13 :: sX4_throneBySet_28
noncomputable def sX4_throneBySet_24 : List UInt8 := 4 :: sX4_throneBySet_25
noncomputable def sX4_throneBySet_23 : List UInt8 := 126 :: sX4_throneBySet_24
noncomputable def sX4_throneBySet_22 : List UInt8 := 4 :: sX4_throneBySet_23
noncomputable def sX4_throneBySet_21 : List UInt8 := 122 :: sX4_throneBySet_22
noncomputable def sX4_throneBySet_19 : List UInt8 := 21 :: 5 :: sX4_throneBySet_21
noncomputable def sX4_throneBySet_18 : List UInt8 := 29 :: sX4_throneBySet_19
noncomputable def sX4_throneBySet_16 : List UInt8 := 21 :: 5 :: sX4_throneBySet_18
noncomputable def sX4_throneBySet_13 : List UInt8 := 180 :: 0 :: 15 :: sX4_throneBySet_16
noncomputable def sX4_throneBySet_12 : List UInt8 := 42 :: sX4_throneBySet_13
noncomputable def sX4_throneBySet_9 : List UInt8 := 162 :: 0 :: 38 :: sX4_throneBySet_12
noncomputable def sX4_throneBySet_6 : List UInt8 := 180 :: 0 :: 18 :: sX4_throneBySet_9
noncomputable def sX4_throneBySet_5 : List UInt8 := 43 :: sX4_throneBySet_6
noncomputable def sX4_throneBySet_3 : List UInt8 := 21 :: 5 :: sX4_throneBySet_5
noncomputable def sX4_throneBySet_1 : List UInt8 := 54 :: 5 :: sX4_throneBySet_3
noncomputable def sX4_throneBySet_0 : List UInt8 := 3 :: sX4_throneBySet_1
set_option maxRecDepth 100000 in
theorem hX4_throneBySet_0 : cX4_throneBySet.data.toList.drop 0 = sX4_throneBySet_0 := by decide +kernel
theorem dX4_throneBySet_0 : decode cX4_throneBySet 0 = .ok (.iconst 0, 1) := dk3 hX4_throneBySet_0
theorem hX4_throneBySet_1 : cX4_throneBySet.data.toList.drop 1 = sX4_throneBySet_1 := dn1 hX4_throneBySet_0
theorem dX4_throneBySet_1 : decode cX4_throneBySet 1 = .ok (.istore 5, 2) := dk54 hX4_throneBySet_1 rfl
theorem hX4_throneBySet_3 : cX4_throneBySet.data.toList.drop 3 = sX4_throneBySet_3 := dn2 hX4_throneBySet_1
theorem dX4_throneBySet_3 : decode cX4_throneBySet 3 = .ok (.iload 5, 2) := dk21 hX4_throneBySet_3 rfl
theorem hX4_throneBySet_5 : cX4_throneBySet.data.toList.drop 5 = sX4_throneBySet_5 := dn2 hX4_throneBySet_3
theorem dX4_throneBySet_5 : decode cX4_throneBySet 5 = .ok (.aload_n 1, 1) := dk43 hX4_throneBySet_5
theorem hX4_throneBySet_6 : cX4_throneBySet.data.toList.drop 6 = sX4_throneBySet_6 := dn1 hX4_throneBySet_5
theorem dX4_throneBySet_6 : decode cX4_throneBySet 6 = .ok (.getfield 18, 3) := dk180 hX4_throneBySet_6 rfl
theorem hX4_throneBySet_9 : cX4_throneBySet.data.toList.drop 9 = sX4_throneBySet_9 := dn3 hX4_throneBySet_6
theorem dX4_throneBySet_9 : decode cX4_throneBySet 9 = .ok (.if_icmp .ge 38, 3) := dk162 hX4_throneBySet_9 (by decide)
theorem hX4_throneBySet_12 : cX4_throneBySet.data.toList.drop 12 = sX4_throneBySet_12 := dn3 hX4_throneBySet_9
theorem dX4_throneBySet_12 : decode cX4_throneBySet 12 = .ok (.aload_n 0, 1) := dk42 hX4_throneBySet_12
theorem hX4_throneBySet_13 : cX4_throneBySet.data.toList.drop 13 = sX4_throneBySet_13 := dn1 hX4_throneBySet_12
theorem dX4_throneBySet_13 : decode cX4_throneBySet 13 = .ok (.getfield 15, 3) := dk180 hX4_throneBySet_13 rfl
theorem hX4_throneBySet_16 : cX4_throneBySet.data.toList.drop 16 = sX4_throneBySet_16 := dn3 hX4_throneBySet_13
theorem dX4_throneBySet_16 : decode cX4_throneBySet 16 = .ok (.iload 5, 2) := dk21 hX4_throneBySet_16 rfl
theorem hX4_throneBySet_18 : cX4_throneBySet.data.toList.drop 18 = sX4_throneBySet_18 := dn2 hX4_throneBySet_16
theorem dX4_throneBySet_18 : decode cX4_throneBySet 18 = .ok (.iload_n 3, 1) := dk29 hX4_throneBySet_18
theorem hX4_throneBySet_19 : cX4_throneBySet.data.toList.drop 19 = sX4_throneBySet_19 := dn1 hX4_throneBySet_18
theorem dX4_throneBySet_19 : decode cX4_throneBySet 19 = .ok (.iload 5, 2) := dk21 hX4_throneBySet_19 rfl
theorem hX4_throneBySet_21 : cX4_throneBySet.data.toList.drop 21 = sX4_throneBySet_21 := dn2 hX4_throneBySet_19
theorem dX4_throneBySet_21 : decode cX4_throneBySet 21 = .ok (.ishr, 1) := dk122 hX4_throneBySet_21
theorem hX4_throneBySet_22 : cX4_throneBySet.data.toList.drop 22 = sX4_throneBySet_22 := dn1 hX4_throneBySet_21
theorem dX4_throneBySet_22 : decode cX4_throneBySet 22 = .ok (.iconst 1, 1) := dk4 hX4_throneBySet_22
theorem hX4_throneBySet_23 : cX4_throneBySet.data.toList.drop 23 = sX4_throneBySet_23 := dn1 hX4_throneBySet_22
theorem dX4_throneBySet_23 : decode cX4_throneBySet 23 = .ok (.iand, 1) := dk126 hX4_throneBySet_23
theorem hX4_throneBySet_24 : cX4_throneBySet.data.toList.drop 24 = sX4_throneBySet_24 := dn1 hX4_throneBySet_23
theorem dX4_throneBySet_24 : decode cX4_throneBySet 24 = .ok (.iconst 1, 1) := dk4 hX4_throneBySet_24
theorem hX4_throneBySet_25 : cX4_throneBySet.data.toList.drop 25 = sX4_throneBySet_25 := dn1 hX4_throneBySet_24
theorem dX4_throneBySet_25 : decode cX4_throneBySet 25 = .ok (.if_icmp .ne 13, 3) := dk160 hX4_throneBySet_25 (by decide)
theorem hX4_throneBySet_28 : cX4_throneBySet.data.toList.drop 28 = sX4_throneBySet_28 := dn3 hX4_throneBySet_25
theorem dX4_throneBySet_28 : decode cX4_throneBySet 28 = .ok (.aload_n 2, 1) := dk44 hX4_throneBySet_28
theorem hX4_throneBySet_29 : cX4_throneBySet.data.toList.drop 29 = sX4_throneBySet_29 := dn1 hX4_throneBySet_28
theorem dX4_throneBySet_29 : decode cX4_throneBySet 29 = .ok (.getfield 61, 3) := dk180 hX4_throneBySet_29 rfl
theorem hX4_throneBySet_32 : cX4_throneBySet.data.toList.drop 32 = sX4_throneBySet_32 := dn3 hX4_throneBySet_29
theorem dX4_throneBySet_32 : decode cX4_throneBySet 32 = .ok (.iload 5, 2) := dk21 hX4_throneBySet_32 rfl
theorem hX4_throneBySet_34 : cX4_throneBySet.data.toList.drop 34 = sX4_throneBySet_34 := dn2 hX4_throneBySet_32
theorem dX4_throneBySet_34 : decode cX4_throneBySet 34 = .ok (.iaload, 1) := dk46 hX4_throneBySet_34
theorem hX4_throneBySet_35 : cX4_throneBySet.data.toList.drop 35 = sX4_throneBySet_35 := dn1 hX4_throneBySet_34
theorem dX4_throneBySet_35 : decode cX4_throneBySet 35 = .ok (.goto 5, 3) := dk167 hX4_throneBySet_35 (by decide)
theorem hX4_throneBySet_38 : cX4_throneBySet.data.toList.drop 38 = sX4_throneBySet_38 := dn3 hX4_throneBySet_35
theorem dX4_throneBySet_38 : decode cX4_throneBySet 38 = .ok (.iload 4, 2) := dk21 hX4_throneBySet_38 rfl
theorem hX4_throneBySet_40 : cX4_throneBySet.data.toList.drop 40 = sX4_throneBySet_40 := dn2 hX4_throneBySet_38
theorem dX4_throneBySet_40 : decode cX4_throneBySet 40 = .ok (.iastore, 1) := dk79 hX4_throneBySet_40
theorem hX4_throneBySet_41 : cX4_throneBySet.data.toList.drop 41 = sX4_throneBySet_41 := dn1 hX4_throneBySet_40
theorem dX4_throneBySet_41 : decode cX4_throneBySet 41 = .ok (.iinc 5 1, 3) := dk132 hX4_throneBySet_41 rfl (by decide)
theorem hX4_throneBySet_44 : cX4_throneBySet.data.toList.drop 44 = sX4_throneBySet_44 := dn3 hX4_throneBySet_41
theorem dX4_throneBySet_44 : decode cX4_throneBySet 44 = .ok (.goto (-41), 3) := dk167 hX4_throneBySet_44 (by decide)
theorem hX4_throneBySet_47 : cX4_throneBySet.data.toList.drop 47 = sX4_throneBySet_47 := dn3 hX4_throneBySet_44
theorem dX4_throneBySet_47 : decode cX4_throneBySet 47 = .ok (.aload_n 0, 1) := dk42 hX4_throneBySet_47
theorem hX4_throneBySet_48 : cX4_throneBySet.data.toList.drop 48 = sX4_throneBySet_48 := dn1 hX4_throneBySet_47
theorem dX4_throneBySet_48 : decode cX4_throneBySet 48 = .ok (.aload_n 1, 1) := dk43 hX4_throneBySet_48
theorem hX4_throneBySet_49 : cX4_throneBySet.data.toList.drop 49 = sX4_throneBySet_49 := dn1 hX4_throneBySet_48
theorem dX4_throneBySet_49 : decode cX4_throneBySet 49 = .ok (.aload_n 0, 1) := dk42 hX4_throneBySet_49
theorem hX4_throneBySet_50 : cX4_throneBySet.data.toList.drop 50 = sX4_throneBySet_50 := dn1 hX4_throneBySet_49
theorem dX4_throneBySet_50 : decode cX4_throneBySet 50 = .ok (.getfield 15, 3) := dk180 hX4_throneBySet_50 rfl
theorem hX4_throneBySet_53 : cX4_throneBySet.data.toList.drop 53 = sX4_throneBySet_53 := dn3 hX4_throneBySet_50
theorem dX4_throneBySet_53 : decode cX4_throneBySet 53 = .ok (.invokevirtual 72, 3) := dk182 hX4_throneBySet_53 rfl
theorem hX4_throneBySet_56 : cX4_throneBySet.data.toList.drop 56 = sX4_throneBySet_56 := dn3 hX4_throneBySet_53
theorem dX4_throneBySet_56 : decode cX4_throneBySet 56 = .ok (.ireturn, 1) := dk172 hX4_throneBySet_56
noncomputable def sX4_throneByUnsure_68 : List UInt8 := 172 :: []
noncomputable def sX4_throneByUnsure_65 : List UInt8 := 182 :: 0 :: 72 :: sX4_throneByUnsure_68
noncomputable def sX4_throneByUnsure_62 : List UInt8 := 180 :: 0 :: 15 :: sX4_throneByUnsure_65
noncomputable def sX4_throneByUnsure_61 : List UInt8 := 42 :: sX4_throneByUnsure_62
noncomputable def sX4_throneByUnsure_60 : List UInt8 := 43 :: sX4_throneByUnsure_61
noncomputable def sX4_throneByUnsure_59 : List UInt8 := 42 :: sX4_throneByUnsure_60
noncomputable def sX4_throneByUnsure_56 : List UInt8 := 167 :: 255 :: 215 :: sX4_throneByUnsure_59
noncomputable def sX4_throneByUnsure_53 : List UInt8 := 132 :: 4 :: 1 :: sX4_throneByUnsure_56
noncomputable def sX4_throneByUnsure_52 : List UInt8 := 79 :: sX4_throneByUnsure_53
noncomputable def sX4_throneByUnsure_51 : List UInt8 := 46 :: sX4_throneByUnsure_52
noncomputable def sX4_throneByUnsure_49 : List UInt8 := 21 :: 4 :: sX4_throneByUnsure_51
noncomputable def sX4_throneByUnsure_46 : List UInt8 := 180 :: 0 :: 82 :: sX4_throneByUnsure_49
noncomputable def sX4_throneByUnsure_45 : List UInt8 := 43 :: sX4_throneByUnsure_46
noncomputable def sX4_throneByUnsure_44 : List UInt8 := 46 :: sX4_throneByUnsure_45
noncomputable def sX4_throneByUnsure_42 : List UInt8 := 21 :: 4 :: sX4_throneByUnsure_44
noncomputable def sX4_throneByUnsure_39 : List UInt8 := 180 :: 0 :: 79 :: sX4_throneByUnsure_42
noncomputable def sX4_throneByUnsure_38 : List UInt8 := 43 :: sX4_throneByUnsure_39
noncomputable def sX4_throneByUnsure_35 : List UInt8 := 180 :: 0 :: 15 :: sX4_throneByUnsure_38
noncomputable def sX4_throneByUnsure_34 : List UInt8 := 42 :: sX4_throneByUnsure_35
noncomputable def sX4_throneByUnsure_31 : List UInt8 := 160 :: 0 :: 22 :: sX4_throneByUnsure_34
noncomputable def sX4_throneByUnsure_30 : List UInt8 := 4 :: sX4_throneByUnsure_31
noncomputable def sX4_throneByUnsure_29 : List UInt8 := 126 :: sX4_throneByUnsure_30
noncomputable def sX4_throneByUnsure_28 : List UInt8 := 4 :: sX4_throneByUnsure_29
noncomputable def sX4_throneByUnsure_27 : List UInt8 := 122 :: sX4_throneByUnsure_28
noncomputable def sX4_throneByUnsure_25 : List UInt8 := 21 :: 4 :: sX4_throneByUnsure_27
noncomputable def sX4_throneByUnsure_24 : List UInt8 := 29 :: sX4_throneByUnsure_25
noncomputable def sX4_throneByUnsure_21 : List UInt8 := 162 :: 0 :: 38 :: sX4_throneByUnsure_24
noncomputable def sX4_throneByUnsure_18 : List UInt8 := 180 :: 0 :: 76 :: sX4_throneByUnsure_21
noncomputable def sX4_throneByUnsure_17 : List UInt8 := 43 :: sX4_throneByUnsure_18
noncomputable def sX4_throneByUnsure_15 : List UInt8 := 21 :: 4 :: sX4_throneByUnsure_17
noncomputable def sX4_throneByUnsure_13 : List UInt8 := 54 :: 4 :: sX4_throneByUnsure_15
noncomputable def sX4_throneByUnsure_12 : List UInt8 := 3 :: sX4_throneByUnsure_13
noncomputable def sX4_throneByUnsure_9 : List UInt8 := 184 :: 0 :: 66 :: sX4_throneByUnsure_12
noncomputable def sX4_throneByUnsure_7 : List UInt8 := 16 :: 18 :: sX4_throneByUnsure_9
noncomputable def sX4_throneByUnsure_6 : List UInt8 := 3 :: sX4_throneByUnsure_7
noncomputable def sX4_throneByUnsure_3 : List UInt8 := 180 :: 0 :: 15 :: sX4_throneByUnsure_6
noncomputable def sX4_throneByUnsure_2 : List UInt8 := 42 :: sX4_throneByUnsure_3
noncomputable def sX4_throneByUnsure_1 : List UInt8 := 3 :: sX4_throneByUnsure_2
noncomputable def sX4_throneByUnsure_0 : List UInt8 := 44 :: sX4_throneByUnsure_1
set_option maxRecDepth 100000 in
theorem hX4_throneByUnsure_0 : cX4_throneByUnsure.data.toList.drop 0 = sX4_throneByUnsure_0 := by decide +kernel
theorem dX4_throneByUnsure_0 : decode cX4_throneByUnsure 0 = .ok (.aload_n 2, 1) := dk44 hX4_throneByUnsure_0
theorem hX4_throneByUnsure_1 : cX4_throneByUnsure.data.toList.drop 1 = sX4_throneByUnsure_1 := dn1 hX4_throneByUnsure_0
theorem dX4_throneByUnsure_1 : decode cX4_throneByUnsure 1 = .ok (.iconst 0, 1) := dk3 hX4_throneByUnsure_1
theorem hX4_throneByUnsure_2 : cX4_throneByUnsure.data.toList.drop 2 = sX4_throneByUnsure_2 := dn1 hX4_throneByUnsure_1
theorem dX4_throneByUnsure_2 : decode cX4_throneByUnsure 2 = .ok (.aload_n 0, 1) := dk42 hX4_throneByUnsure_2
theorem hX4_throneByUnsure_3 : cX4_throneByUnsure.data.toList.drop 3 = sX4_throneByUnsure_3 := dn1 hX4_throneByUnsure_2
theorem dX4_throneByUnsure_3 : decode cX4_throneByUnsure 3 = .ok (.getfield 15, 3) := dk180 hX4_throneByUnsure_3 rfl
theorem hX4_throneByUnsure_6 : cX4_throneByUnsure.data.toList.drop 6 = sX4_throneByUnsure_6 := dn3 hX4_throneByUnsure_3
theorem dX4_throneByUnsure_6 : decode cX4_throneByUnsure 6 = .ok (.iconst 0, 1) := dk3 hX4_throneByUnsure_6
theorem hX4_throneByUnsure_7 : cX4_throneByUnsure.data.toList.drop 7 = sX4_throneByUnsure_7 := dn1 hX4_throneByUnsure_6
theorem dX4_throneByUnsure_7 : decode cX4_throneByUnsure 7 = .ok (.bipush 18, 2) := dk16 hX4_throneByUnsure_7 (by decide)
theorem hX4_throneByUnsure_9 : cX4_throneByUnsure.data.toList.drop 9 = sX4_throneByUnsure_9 := dn2 hX4_throneByUnsure_7
theorem dX4_throneByUnsure_9 : decode cX4_throneByUnsure 9 = .ok (.invokestatic 66, 3) := dk184 hX4_throneByUnsure_9 rfl
theorem hX4_throneByUnsure_12 : cX4_throneByUnsure.data.toList.drop 12 = sX4_throneByUnsure_12 := dn3 hX4_throneByUnsure_9
theorem dX4_throneByUnsure_12 : decode cX4_throneByUnsure 12 = .ok (.iconst 0, 1) := dk3 hX4_throneByUnsure_12
theorem hX4_throneByUnsure_13 : cX4_throneByUnsure.data.toList.drop 13 = sX4_throneByUnsure_13 := dn1 hX4_throneByUnsure_12
theorem dX4_throneByUnsure_13 : decode cX4_throneByUnsure 13 = .ok (.istore 4, 2) := dk54 hX4_throneByUnsure_13 rfl
theorem hX4_throneByUnsure_15 : cX4_throneByUnsure.data.toList.drop 15 = sX4_throneByUnsure_15 := dn2 hX4_throneByUnsure_13
theorem dX4_throneByUnsure_15 : decode cX4_throneByUnsure 15 = .ok (.iload 4, 2) := dk21 hX4_throneByUnsure_15 rfl
theorem hX4_throneByUnsure_17 : cX4_throneByUnsure.data.toList.drop 17 = sX4_throneByUnsure_17 := dn2 hX4_throneByUnsure_15
theorem dX4_throneByUnsure_17 : decode cX4_throneByUnsure 17 = .ok (.aload_n 1, 1) := dk43 hX4_throneByUnsure_17
theorem hX4_throneByUnsure_18 : cX4_throneByUnsure.data.toList.drop 18 = sX4_throneByUnsure_18 := dn1 hX4_throneByUnsure_17
theorem dX4_throneByUnsure_18 : decode cX4_throneByUnsure 18 = .ok (.getfield 76, 3) := dk180 hX4_throneByUnsure_18 rfl
theorem hX4_throneByUnsure_21 : cX4_throneByUnsure.data.toList.drop 21 = sX4_throneByUnsure_21 := dn3 hX4_throneByUnsure_18
theorem dX4_throneByUnsure_21 : decode cX4_throneByUnsure 21 = .ok (.if_icmp .ge 38, 3) := dk162 hX4_throneByUnsure_21 (by decide)
theorem hX4_throneByUnsure_24 : cX4_throneByUnsure.data.toList.drop 24 = sX4_throneByUnsure_24 := dn3 hX4_throneByUnsure_21
theorem dX4_throneByUnsure_24 : decode cX4_throneByUnsure 24 = .ok (.iload_n 3, 1) := dk29 hX4_throneByUnsure_24
theorem hX4_throneByUnsure_25 : cX4_throneByUnsure.data.toList.drop 25 = sX4_throneByUnsure_25 := dn1 hX4_throneByUnsure_24
theorem dX4_throneByUnsure_25 : decode cX4_throneByUnsure 25 = .ok (.iload 4, 2) := dk21 hX4_throneByUnsure_25 rfl
theorem hX4_throneByUnsure_27 : cX4_throneByUnsure.data.toList.drop 27 = sX4_throneByUnsure_27 := dn2 hX4_throneByUnsure_25
theorem dX4_throneByUnsure_27 : decode cX4_throneByUnsure 27 = .ok (.ishr, 1) := dk122 hX4_throneByUnsure_27
theorem hX4_throneByUnsure_28 : cX4_throneByUnsure.data.toList.drop 28 = sX4_throneByUnsure_28 := dn1 hX4_throneByUnsure_27
theorem dX4_throneByUnsure_28 : decode cX4_throneByUnsure 28 = .ok (.iconst 1, 1) := dk4 hX4_throneByUnsure_28
theorem hX4_throneByUnsure_29 : cX4_throneByUnsure.data.toList.drop 29 = sX4_throneByUnsure_29 := dn1 hX4_throneByUnsure_28
theorem dX4_throneByUnsure_29 : decode cX4_throneByUnsure 29 = .ok (.iand, 1) := dk126 hX4_throneByUnsure_29
theorem hX4_throneByUnsure_30 : cX4_throneByUnsure.data.toList.drop 30 = sX4_throneByUnsure_30 := dn1 hX4_throneByUnsure_29
theorem dX4_throneByUnsure_30 : decode cX4_throneByUnsure 30 = .ok (.iconst 1, 1) := dk4 hX4_throneByUnsure_30
theorem hX4_throneByUnsure_31 : cX4_throneByUnsure.data.toList.drop 31 = sX4_throneByUnsure_31 := dn1 hX4_throneByUnsure_30
theorem dX4_throneByUnsure_31 : decode cX4_throneByUnsure 31 = .ok (.if_icmp .ne 22, 3) := dk160 hX4_throneByUnsure_31 (by decide)
theorem hX4_throneByUnsure_34 : cX4_throneByUnsure.data.toList.drop 34 = sX4_throneByUnsure_34 := dn3 hX4_throneByUnsure_31
theorem dX4_throneByUnsure_34 : decode cX4_throneByUnsure 34 = .ok (.aload_n 0, 1) := dk42 hX4_throneByUnsure_34
theorem hX4_throneByUnsure_35 : cX4_throneByUnsure.data.toList.drop 35 = sX4_throneByUnsure_35 := dn1 hX4_throneByUnsure_34
theorem dX4_throneByUnsure_35 : decode cX4_throneByUnsure 35 = .ok (.getfield 15, 3) := dk180 hX4_throneByUnsure_35 rfl
theorem hX4_throneByUnsure_38 : cX4_throneByUnsure.data.toList.drop 38 = sX4_throneByUnsure_38 := dn3 hX4_throneByUnsure_35
theorem dX4_throneByUnsure_38 : decode cX4_throneByUnsure 38 = .ok (.aload_n 1, 1) := dk43 hX4_throneByUnsure_38
theorem hX4_throneByUnsure_39 : cX4_throneByUnsure.data.toList.drop 39 = sX4_throneByUnsure_39 := dn1 hX4_throneByUnsure_38
theorem dX4_throneByUnsure_39 : decode cX4_throneByUnsure 39 = .ok (.getfield 79, 3) := dk180 hX4_throneByUnsure_39 rfl
theorem hX4_throneByUnsure_42 : cX4_throneByUnsure.data.toList.drop 42 = sX4_throneByUnsure_42 := dn3 hX4_throneByUnsure_39
theorem dX4_throneByUnsure_42 : decode cX4_throneByUnsure 42 = .ok (.iload 4, 2) := dk21 hX4_throneByUnsure_42 rfl
theorem hX4_throneByUnsure_44 : cX4_throneByUnsure.data.toList.drop 44 = sX4_throneByUnsure_44 := dn2 hX4_throneByUnsure_42
theorem dX4_throneByUnsure_44 : decode cX4_throneByUnsure 44 = .ok (.iaload, 1) := dk46 hX4_throneByUnsure_44
theorem hX4_throneByUnsure_45 : cX4_throneByUnsure.data.toList.drop 45 = sX4_throneByUnsure_45 := dn1 hX4_throneByUnsure_44
theorem dX4_throneByUnsure_45 : decode cX4_throneByUnsure 45 = .ok (.aload_n 1, 1) := dk43 hX4_throneByUnsure_45
theorem hX4_throneByUnsure_46 : cX4_throneByUnsure.data.toList.drop 46 = sX4_throneByUnsure_46 := dn1 hX4_throneByUnsure_45
theorem dX4_throneByUnsure_46 : decode cX4_throneByUnsure 46 = .ok (.getfield 82, 3) := dk180 hX4_throneByUnsure_46 rfl
theorem hX4_throneByUnsure_49 : cX4_throneByUnsure.data.toList.drop 49 = sX4_throneByUnsure_49 := dn3 hX4_throneByUnsure_46
theorem dX4_throneByUnsure_49 : decode cX4_throneByUnsure 49 = .ok (.iload 4, 2) := dk21 hX4_throneByUnsure_49 rfl
theorem hX4_throneByUnsure_51 : cX4_throneByUnsure.data.toList.drop 51 = sX4_throneByUnsure_51 := dn2 hX4_throneByUnsure_49
theorem dX4_throneByUnsure_51 : decode cX4_throneByUnsure 51 = .ok (.iaload, 1) := dk46 hX4_throneByUnsure_51
theorem hX4_throneByUnsure_52 : cX4_throneByUnsure.data.toList.drop 52 = sX4_throneByUnsure_52 := dn1 hX4_throneByUnsure_51
theorem dX4_throneByUnsure_52 : decode cX4_throneByUnsure 52 = .ok (.iastore, 1) := dk79 hX4_throneByUnsure_52
theorem hX4_throneByUnsure_53 : cX4_throneByUnsure.data.toList.drop 53 = sX4_throneByUnsure_53 := dn1 hX4_throneByUnsure_52
theorem dX4_throneByUnsure_53 : decode cX4_throneByUnsure 53 = .ok (.iinc 4 1, 3) := dk132 hX4_throneByUnsure_53 rfl (by decide)
theorem hX4_throneByUnsure_56 : cX4_throneByUnsure.data.toList.drop 56 = sX4_throneByUnsure_56 := dn3 hX4_throneByUnsure_53
theorem dX4_throneByUnsure_56 : decode cX4_throneByUnsure 56 = .ok (.goto (-41), 3) := dk167 hX4_throneByUnsure_56 (by decide)
theorem hX4_throneByUnsure_59 : cX4_throneByUnsure.data.toList.drop 59 = sX4_throneByUnsure_59 := dn3 hX4_throneByUnsure_56
theorem dX4_throneByUnsure_59 : decode cX4_throneByUnsure 59 = .ok (.aload_n 0, 1) := dk42 hX4_throneByUnsure_59
theorem hX4_throneByUnsure_60 : cX4_throneByUnsure.data.toList.drop 60 = sX4_throneByUnsure_60 := dn1 hX4_throneByUnsure_59
theorem dX4_throneByUnsure_60 : decode cX4_throneByUnsure 60 = .ok (.aload_n 1, 1) := dk43 hX4_throneByUnsure_60
theorem hX4_throneByUnsure_61 : cX4_throneByUnsure.data.toList.drop 61 = sX4_throneByUnsure_61 := dn1 hX4_throneByUnsure_60
theorem dX4_throneByUnsure_61 : decode cX4_throneByUnsure 61 = .ok (.aload_n 0, 1) := dk42 hX4_throneByUnsure_61
theorem hX4_throneByUnsure_62 : cX4_throneByUnsure.data.toList.drop 62 = sX4_throneByUnsure_62 := dn1 hX4_throneByUnsure_61
theorem dX4_throneByUnsure_62 : decode cX4_throneByUnsure 62 = .ok (.getfield 15, 3) := dk180 hX4_throneByUnsure_62 rfl
theorem hX4_throneByUnsure_65 : cX4_throneByUnsure.data.toList.drop 65 = sX4_throneByUnsure_65 := dn3 hX4_throneByUnsure_62
theorem dX4_throneByUnsure_65 : decode cX4_throneByUnsure 65 = .ok (.invokevirtual 72, 3) := dk182 hX4_throneByUnsure_65 rfl
theorem hX4_throneByUnsure_68 : cX4_throneByUnsure.data.toList.drop 68 = sX4_throneByUnsure_68 := dn3 hX4_throneByUnsure_65
theorem dX4_throneByUnsure_68 : decode cX4_throneByUnsure 68 = .ok (.ireturn, 1) := dk172 hX4_throneByUnsure_68
noncomputable def sX4_throneByWord_40 : List UInt8 := 172 :: []
noncomputable def sX4_throneByWord_37 : List UInt8 := 182 :: 0 :: 72 :: sX4_throneByWord_40
noncomputable def sX4_throneByWord_34 : List UInt8 := 180 :: 0 :: 15 :: sX4_throneByWord_37
noncomputable def sX4_throneByWord_33 : List UInt8 := 42 :: sX4_throneByWord_34
noncomputable def sX4_throneByWord_32 : List UInt8 := 43 :: sX4_throneByWord_33
noncomputable def sX4_throneByWord_31 : List UInt8 := 42 :: sX4_throneByWord_32
noncomputable def sX4_throneByWord_30 : List UInt8 := 79 :: sX4_throneByWord_31
noncomputable def sX4_throneByWord_28 : List UInt8 := 21 :: 4 :: sX4_throneByWord_30
noncomputable def sX4_throneByWord_27 : List UInt8 := 29 :: sX4_throneByWord_28
noncomputable def sX4_throneByWord_24 : List UInt8 := 180 :: 0 :: 15 :: sX4_throneByWord_27
noncomputable def sX4_throneByWord_23 : List UInt8 := 42 :: sX4_throneByWord_24
noncomputable def sX4_throneByWord_20 : List UInt8 := 153 :: 0 :: 11 :: sX4_throneByWord_23
noncomputable def sX4_throneByWord_17 : List UInt8 := 182 :: 0 :: 41 :: sX4_throneByWord_20
noncomputable def sX4_throneByWord_16 : List UInt8 := 29 :: sX4_throneByWord_17
noncomputable def sX4_throneByWord_15 : List UInt8 := 43 :: sX4_throneByWord_16
noncomputable def sX4_throneByWord_12 : List UInt8 := 184 :: 0 :: 66 :: sX4_throneByWord_15
noncomputable def sX4_throneByWord_10 : List UInt8 := 16 :: 18 :: sX4_throneByWord_12
noncomputable def sX4_throneByWord_9 : List UInt8 := 3 :: sX4_throneByWord_10
noncomputable def sX4_throneByWord_6 : List UInt8 := 180 :: 0 :: 15 :: sX4_throneByWord_9
noncomputable def sX4_throneByWord_5 : List UInt8 := 42 :: sX4_throneByWord_6
noncomputable def sX4_throneByWord_4 : List UInt8 := 3 :: sX4_throneByWord_5
noncomputable def sX4_throneByWord_1 : List UInt8 := 180 :: 0 :: 61 :: sX4_throneByWord_4
noncomputable def sX4_throneByWord_0 : List UInt8 := 44 :: sX4_throneByWord_1
set_option maxRecDepth 100000 in
theorem hX4_throneByWord_0 : cX4_throneByWord.data.toList.drop 0 = sX4_throneByWord_0 := by decide +kernel
theorem dX4_throneByWord_0 : decode cX4_throneByWord 0 = .ok (.aload_n 2, 1) := dk44 hX4_throneByWord_0
theorem hX4_throneByWord_1 : cX4_throneByWord.data.toList.drop 1 = sX4_throneByWord_1 := dn1 hX4_throneByWord_0
theorem dX4_throneByWord_1 : decode cX4_throneByWord 1 = .ok (.getfield 61, 3) := dk180 hX4_throneByWord_1 rfl
theorem hX4_throneByWord_4 : cX4_throneByWord.data.toList.drop 4 = sX4_throneByWord_4 := dn3 hX4_throneByWord_1
theorem dX4_throneByWord_4 : decode cX4_throneByWord 4 = .ok (.iconst 0, 1) := dk3 hX4_throneByWord_4
theorem hX4_throneByWord_5 : cX4_throneByWord.data.toList.drop 5 = sX4_throneByWord_5 := dn1 hX4_throneByWord_4
theorem dX4_throneByWord_5 : decode cX4_throneByWord 5 = .ok (.aload_n 0, 1) := dk42 hX4_throneByWord_5
theorem hX4_throneByWord_6 : cX4_throneByWord.data.toList.drop 6 = sX4_throneByWord_6 := dn1 hX4_throneByWord_5
theorem dX4_throneByWord_6 : decode cX4_throneByWord 6 = .ok (.getfield 15, 3) := dk180 hX4_throneByWord_6 rfl
theorem hX4_throneByWord_9 : cX4_throneByWord.data.toList.drop 9 = sX4_throneByWord_9 := dn3 hX4_throneByWord_6
theorem dX4_throneByWord_9 : decode cX4_throneByWord 9 = .ok (.iconst 0, 1) := dk3 hX4_throneByWord_9
theorem hX4_throneByWord_10 : cX4_throneByWord.data.toList.drop 10 = sX4_throneByWord_10 := dn1 hX4_throneByWord_9
theorem dX4_throneByWord_10 : decode cX4_throneByWord 10 = .ok (.bipush 18, 2) := dk16 hX4_throneByWord_10 (by decide)
theorem hX4_throneByWord_12 : cX4_throneByWord.data.toList.drop 12 = sX4_throneByWord_12 := dn2 hX4_throneByWord_10
theorem dX4_throneByWord_12 : decode cX4_throneByWord 12 = .ok (.invokestatic 66, 3) := dk184 hX4_throneByWord_12 rfl
theorem hX4_throneByWord_15 : cX4_throneByWord.data.toList.drop 15 = sX4_throneByWord_15 := dn3 hX4_throneByWord_12
theorem dX4_throneByWord_15 : decode cX4_throneByWord 15 = .ok (.aload_n 1, 1) := dk43 hX4_throneByWord_15
theorem hX4_throneByWord_16 : cX4_throneByWord.data.toList.drop 16 = sX4_throneByWord_16 := dn1 hX4_throneByWord_15
theorem dX4_throneByWord_16 : decode cX4_throneByWord 16 = .ok (.iload_n 3, 1) := dk29 hX4_throneByWord_16
theorem hX4_throneByWord_17 : cX4_throneByWord.data.toList.drop 17 = sX4_throneByWord_17 := dn1 hX4_throneByWord_16
theorem dX4_throneByWord_17 : decode cX4_throneByWord 17 = .ok (.invokevirtual 41, 3) := dk182 hX4_throneByWord_17 rfl
theorem hX4_throneByWord_20 : cX4_throneByWord.data.toList.drop 20 = sX4_throneByWord_20 := dn3 hX4_throneByWord_17
theorem dX4_throneByWord_20 : decode cX4_throneByWord 20 = .ok (.ifCond .eq 11, 3) := dk153 hX4_throneByWord_20 (by decide)
theorem hX4_throneByWord_23 : cX4_throneByWord.data.toList.drop 23 = sX4_throneByWord_23 := dn3 hX4_throneByWord_20
theorem dX4_throneByWord_23 : decode cX4_throneByWord 23 = .ok (.aload_n 0, 1) := dk42 hX4_throneByWord_23
theorem hX4_throneByWord_24 : cX4_throneByWord.data.toList.drop 24 = sX4_throneByWord_24 := dn1 hX4_throneByWord_23
theorem dX4_throneByWord_24 : decode cX4_throneByWord 24 = .ok (.getfield 15, 3) := dk180 hX4_throneByWord_24 rfl
theorem hX4_throneByWord_27 : cX4_throneByWord.data.toList.drop 27 = sX4_throneByWord_27 := dn3 hX4_throneByWord_24
theorem dX4_throneByWord_27 : decode cX4_throneByWord 27 = .ok (.iload_n 3, 1) := dk29 hX4_throneByWord_27
theorem hX4_throneByWord_28 : cX4_throneByWord.data.toList.drop 28 = sX4_throneByWord_28 := dn1 hX4_throneByWord_27
theorem dX4_throneByWord_28 : decode cX4_throneByWord 28 = .ok (.iload 4, 2) := dk21 hX4_throneByWord_28 rfl
theorem hX4_throneByWord_30 : cX4_throneByWord.data.toList.drop 30 = sX4_throneByWord_30 := dn2 hX4_throneByWord_28
theorem dX4_throneByWord_30 : decode cX4_throneByWord 30 = .ok (.iastore, 1) := dk79 hX4_throneByWord_30
theorem hX4_throneByWord_31 : cX4_throneByWord.data.toList.drop 31 = sX4_throneByWord_31 := dn1 hX4_throneByWord_30
theorem dX4_throneByWord_31 : decode cX4_throneByWord 31 = .ok (.aload_n 0, 1) := dk42 hX4_throneByWord_31
theorem hX4_throneByWord_32 : cX4_throneByWord.data.toList.drop 32 = sX4_throneByWord_32 := dn1 hX4_throneByWord_31
theorem dX4_throneByWord_32 : decode cX4_throneByWord 32 = .ok (.aload_n 1, 1) := dk43 hX4_throneByWord_32
theorem hX4_throneByWord_33 : cX4_throneByWord.data.toList.drop 33 = sX4_throneByWord_33 := dn1 hX4_throneByWord_32
theorem dX4_throneByWord_33 : decode cX4_throneByWord 33 = .ok (.aload_n 0, 1) := dk42 hX4_throneByWord_33
theorem hX4_throneByWord_34 : cX4_throneByWord.data.toList.drop 34 = sX4_throneByWord_34 := dn1 hX4_throneByWord_33
theorem dX4_throneByWord_34 : decode cX4_throneByWord 34 = .ok (.getfield 15, 3) := dk180 hX4_throneByWord_34 rfl
theorem hX4_throneByWord_37 : cX4_throneByWord.data.toList.drop 37 = sX4_throneByWord_37 := dn3 hX4_throneByWord_34
theorem dX4_throneByWord_37 : decode cX4_throneByWord 37 = .ok (.invokevirtual 72, 3) := dk182 hX4_throneByWord_37 rfl
theorem hX4_throneByWord_40 : cX4_throneByWord.data.toList.drop 40 = sX4_throneByWord_40 := dn3 hX4_throneByWord_37
theorem dX4_throneByWord_40 : decode cX4_throneByWord 40 = .ok (.ireturn, 1) := dk172 hX4_throneByWord_40
noncomputable def sX4_throneValue_24 : List UInt8 := 172 :: []
noncomputable def sX4_throneValue_23 : List UInt8 := 3 :: sX4_throneValue_24
noncomputable def sX4_throneValue_20 : List UInt8 := 167 :: 0 :: 4 :: sX4_throneValue_23
noncomputable def sX4_throneValue_19 : List UInt8 := 46 :: sX4_throneValue_20
noncomputable def sX4_throneValue_16 : List UInt8 := 180 :: 0 :: 38 :: sX4_throneValue_19
noncomputable def sX4_throneValue_15 : List UInt8 := 43 :: sX4_throneValue_16
noncomputable def sX4_throneValue_12 : List UInt8 := 180 :: 0 :: 9 :: sX4_throneValue_15
noncomputable def sX4_throneValue_11 : List UInt8 := 42 :: sX4_throneValue_12
noncomputable def sX4_throneValue_8 : List UInt8 := 153 :: 0 :: 15 :: sX4_throneValue_11
noncomputable def sX4_throneValue_5 : List UInt8 := 182 :: 0 :: 41 :: sX4_throneValue_8
noncomputable def sX4_throneValue_2 : List UInt8 := 180 :: 0 :: 38 :: sX4_throneValue_5
noncomputable def sX4_throneValue_1 : List UInt8 := 43 :: sX4_throneValue_2
noncomputable def sX4_throneValue_0 : List UInt8 := 43 :: sX4_throneValue_1
set_option maxRecDepth 100000 in
theorem hX4_throneValue_0 : cX4_throneValue.data.toList.drop 0 = sX4_throneValue_0 := by decide +kernel
theorem dX4_throneValue_0 : decode cX4_throneValue 0 = .ok (.aload_n 1, 1) := dk43 hX4_throneValue_0
theorem hX4_throneValue_1 : cX4_throneValue.data.toList.drop 1 = sX4_throneValue_1 := dn1 hX4_throneValue_0
theorem dX4_throneValue_1 : decode cX4_throneValue 1 = .ok (.aload_n 1, 1) := dk43 hX4_throneValue_1
theorem hX4_throneValue_2 : cX4_throneValue.data.toList.drop 2 = sX4_throneValue_2 := dn1 hX4_throneValue_1
theorem dX4_throneValue_2 : decode cX4_throneValue 2 = .ok (.getfield 38, 3) := dk180 hX4_throneValue_2 rfl
theorem hX4_throneValue_5 : cX4_throneValue.data.toList.drop 5 = sX4_throneValue_5 := dn3 hX4_throneValue_2
theorem dX4_throneValue_5 : decode cX4_throneValue 5 = .ok (.invokevirtual 41, 3) := dk182 hX4_throneValue_5 rfl
theorem hX4_throneValue_8 : cX4_throneValue.data.toList.drop 8 = sX4_throneValue_8 := dn3 hX4_throneValue_5
theorem dX4_throneValue_8 : decode cX4_throneValue 8 = .ok (.ifCond .eq 15, 3) := dk153 hX4_throneValue_8 (by decide)
theorem hX4_throneValue_11 : cX4_throneValue.data.toList.drop 11 = sX4_throneValue_11 := dn3 hX4_throneValue_8
theorem dX4_throneValue_11 : decode cX4_throneValue 11 = .ok (.aload_n 0, 1) := dk42 hX4_throneValue_11
theorem hX4_throneValue_12 : cX4_throneValue.data.toList.drop 12 = sX4_throneValue_12 := dn1 hX4_throneValue_11
theorem dX4_throneValue_12 : decode cX4_throneValue 12 = .ok (.getfield 9, 3) := dk180 hX4_throneValue_12 rfl
theorem hX4_throneValue_15 : cX4_throneValue.data.toList.drop 15 = sX4_throneValue_15 := dn3 hX4_throneValue_12
theorem dX4_throneValue_15 : decode cX4_throneValue 15 = .ok (.aload_n 1, 1) := dk43 hX4_throneValue_15
theorem hX4_throneValue_16 : cX4_throneValue.data.toList.drop 16 = sX4_throneValue_16 := dn1 hX4_throneValue_15
theorem dX4_throneValue_16 : decode cX4_throneValue 16 = .ok (.getfield 38, 3) := dk180 hX4_throneValue_16 rfl
theorem hX4_throneValue_19 : cX4_throneValue.data.toList.drop 19 = sX4_throneValue_19 := dn3 hX4_throneValue_16
theorem dX4_throneValue_19 : decode cX4_throneValue 19 = .ok (.iaload, 1) := dk46 hX4_throneValue_19
theorem hX4_throneValue_20 : cX4_throneValue.data.toList.drop 20 = sX4_throneValue_20 := dn1 hX4_throneValue_19
theorem dX4_throneValue_20 : decode cX4_throneValue 20 = .ok (.goto 4, 3) := dk167 hX4_throneValue_20 (by decide)
theorem hX4_throneValue_23 : cX4_throneValue.data.toList.drop 23 = sX4_throneValue_23 := dn3 hX4_throneValue_20
theorem dX4_throneValue_23 : decode cX4_throneValue 23 = .ok (.iconst 0, 1) := dk3 hX4_throneValue_23
theorem hX4_throneValue_24 : cX4_throneValue.data.toList.drop 24 = sX4_throneValue_24 := dn1 hX4_throneValue_23
theorem dX4_throneValue_24 : decode cX4_throneValue 24 = .ok (.ireturn, 1) := dk172 hX4_throneValue_24
noncomputable def sX4_waysDown_83 : List UInt8 := 172 :: []
noncomputable def sX4_waysDown_80 : List UInt8 := 182 :: 0 :: 34 :: sX4_waysDown_83
noncomputable def sX4_waysDown_79 : List UInt8 := 43 :: sX4_waysDown_80
noncomputable def sX4_waysDown_78 : List UInt8 := 42 :: sX4_waysDown_79
noncomputable def sX4_waysDown_75 : List UInt8 := 167 :: 255 :: 183 :: sX4_waysDown_78
noncomputable def sX4_waysDown_72 : List UInt8 := 132 :: 2 :: 1 :: sX4_waysDown_75
noncomputable def sX4_waysDown_69 : List UInt8 := 167 :: 255 :: 219 :: sX4_waysDown_72
noncomputable def sX4_waysDown_66 : List UInt8 := 132 :: 3 :: 1 :: sX4_waysDown_69
noncomputable def sX4_waysDown_65 : List UInt8 := 79 :: sX4_waysDown_66
noncomputable def sX4_waysDown_64 : List UInt8 := 96 :: sX4_waysDown_65
noncomputable def sX4_waysDown_63 : List UInt8 := 46 :: sX4_waysDown_64
noncomputable def sX4_waysDown_62 : List UInt8 := 46 :: sX4_waysDown_63
noncomputable def sX4_waysDown_61 : List UInt8 := 96 :: sX4_waysDown_62
noncomputable def sX4_waysDown_60 : List UInt8 := 29 :: sX4_waysDown_61
noncomputable def sX4_waysDown_59 : List UInt8 := 104 :: sX4_waysDown_60
noncomputable def sX4_waysDown_58 : List UInt8 := 7 :: sX4_waysDown_59
noncomputable def sX4_waysDown_57 : List UInt8 := 28 :: sX4_waysDown_58
noncomputable def sX4_waysDown_54 : List UInt8 := 180 :: 0 :: 48 :: sX4_waysDown_57
noncomputable def sX4_waysDown_53 : List UInt8 := 43 :: sX4_waysDown_54
noncomputable def sX4_waysDown_50 : List UInt8 := 180 :: 0 :: 9 :: sX4_waysDown_53
noncomputable def sX4_waysDown_49 : List UInt8 := 42 :: sX4_waysDown_50
noncomputable def sX4_waysDown_48 : List UInt8 := 46 :: sX4_waysDown_49
noncomputable def sX4_waysDown_47 : List UInt8 := 92 :: sX4_waysDown_48
noncomputable def sX4_waysDown_46 : List UInt8 := 28 :: sX4_waysDown_47
noncomputable def sX4_waysDown_43 : List UInt8 := 180 :: 0 :: 9 :: sX4_waysDown_46
noncomputable def sX4_waysDown_42 : List UInt8 := 42 :: sX4_waysDown_43
noncomputable def sX4_waysDown_39 : List UInt8 := 162 :: 0 :: 33 :: sX4_waysDown_42
noncomputable def sX4_waysDown_38 : List UInt8 := 46 :: sX4_waysDown_39
noncomputable def sX4_waysDown_37 : List UInt8 := 28 :: sX4_waysDown_38
noncomputable def sX4_waysDown_34 : List UInt8 := 180 :: 0 :: 45 :: sX4_waysDown_37
noncomputable def sX4_waysDown_33 : List UInt8 := 43 :: sX4_waysDown_34
noncomputable def sX4_waysDown_32 : List UInt8 := 29 :: sX4_waysDown_33
noncomputable def sX4_waysDown_31 : List UInt8 := 62 :: sX4_waysDown_32
noncomputable def sX4_waysDown_30 : List UInt8 := 3 :: sX4_waysDown_31
noncomputable def sX4_waysDown_29 : List UInt8 := 79 :: sX4_waysDown_30
noncomputable def sX4_waysDown_28 : List UInt8 := 3 :: sX4_waysDown_29
noncomputable def sX4_waysDown_25 : List UInt8 := 167 :: 0 :: 4 :: sX4_waysDown_28
noncomputable def sX4_waysDown_24 : List UInt8 := 4 :: sX4_waysDown_25
noncomputable def sX4_waysDown_21 : List UInt8 := 154 :: 0 :: 7 :: sX4_waysDown_24
noncomputable def sX4_waysDown_20 : List UInt8 := 46 :: sX4_waysDown_21
noncomputable def sX4_waysDown_19 : List UInt8 := 28 :: sX4_waysDown_20
noncomputable def sX4_waysDown_16 : List UInt8 := 180 :: 0 :: 24 :: sX4_waysDown_19
noncomputable def sX4_waysDown_15 : List UInt8 := 43 :: sX4_waysDown_16
noncomputable def sX4_waysDown_14 : List UInt8 := 28 :: sX4_waysDown_15
noncomputable def sX4_waysDown_11 : List UInt8 := 180 :: 0 :: 9 :: sX4_waysDown_14
noncomputable def sX4_waysDown_10 : List UInt8 := 42 :: sX4_waysDown_11
noncomputable def sX4_waysDown_7 : List UInt8 := 162 :: 0 :: 71 :: sX4_waysDown_10
noncomputable def sX4_waysDown_4 : List UInt8 := 180 :: 0 :: 18 :: sX4_waysDown_7
noncomputable def sX4_waysDown_3 : List UInt8 := 43 :: sX4_waysDown_4
noncomputable def sX4_waysDown_2 : List UInt8 := 28 :: sX4_waysDown_3
noncomputable def sX4_waysDown_1 : List UInt8 := 61 :: sX4_waysDown_2
noncomputable def sX4_waysDown_0 : List UInt8 := 3 :: sX4_waysDown_1
set_option maxRecDepth 100000 in
theorem hX4_waysDown_0 : cX4_waysDown.data.toList.drop 0 = sX4_waysDown_0 := by decide +kernel
theorem dX4_waysDown_0 : decode cX4_waysDown 0 = .ok (.iconst 0, 1) := dk3 hX4_waysDown_0
theorem hX4_waysDown_1 : cX4_waysDown.data.toList.drop 1 = sX4_waysDown_1 := dn1 hX4_waysDown_0
theorem dX4_waysDown_1 : decode cX4_waysDown 1 = .ok (.istore_n 2, 1) := dk61 hX4_waysDown_1
theorem hX4_waysDown_2 : cX4_waysDown.data.toList.drop 2 = sX4_waysDown_2 := dn1 hX4_waysDown_1
theorem dX4_waysDown_2 : decode cX4_waysDown 2 = .ok (.iload_n 2, 1) := dk28 hX4_waysDown_2
theorem hX4_waysDown_3 : cX4_waysDown.data.toList.drop 3 = sX4_waysDown_3 := dn1 hX4_waysDown_2
theorem dX4_waysDown_3 : decode cX4_waysDown 3 = .ok (.aload_n 1, 1) := dk43 hX4_waysDown_3
theorem hX4_waysDown_4 : cX4_waysDown.data.toList.drop 4 = sX4_waysDown_4 := dn1 hX4_waysDown_3
theorem dX4_waysDown_4 : decode cX4_waysDown 4 = .ok (.getfield 18, 3) := dk180 hX4_waysDown_4 rfl
theorem hX4_waysDown_7 : cX4_waysDown.data.toList.drop 7 = sX4_waysDown_7 := dn3 hX4_waysDown_4
theorem dX4_waysDown_7 : decode cX4_waysDown 7 = .ok (.if_icmp .ge 71, 3) := dk162 hX4_waysDown_7 (by decide)
theorem hX4_waysDown_10 : cX4_waysDown.data.toList.drop 10 = sX4_waysDown_10 := dn3 hX4_waysDown_7
theorem dX4_waysDown_10 : decode cX4_waysDown 10 = .ok (.aload_n 0, 1) := dk42 hX4_waysDown_10
theorem hX4_waysDown_11 : cX4_waysDown.data.toList.drop 11 = sX4_waysDown_11 := dn1 hX4_waysDown_10
theorem dX4_waysDown_11 : decode cX4_waysDown 11 = .ok (.getfield 9, 3) := dk180 hX4_waysDown_11 rfl
theorem hX4_waysDown_14 : cX4_waysDown.data.toList.drop 14 = sX4_waysDown_14 := dn3 hX4_waysDown_11
theorem dX4_waysDown_14 : decode cX4_waysDown 14 = .ok (.iload_n 2, 1) := dk28 hX4_waysDown_14
theorem hX4_waysDown_15 : cX4_waysDown.data.toList.drop 15 = sX4_waysDown_15 := dn1 hX4_waysDown_14
theorem dX4_waysDown_15 : decode cX4_waysDown 15 = .ok (.aload_n 1, 1) := dk43 hX4_waysDown_15
theorem hX4_waysDown_16 : cX4_waysDown.data.toList.drop 16 = sX4_waysDown_16 := dn1 hX4_waysDown_15
theorem dX4_waysDown_16 : decode cX4_waysDown 16 = .ok (.getfield 24, 3) := dk180 hX4_waysDown_16 rfl
theorem hX4_waysDown_19 : cX4_waysDown.data.toList.drop 19 = sX4_waysDown_19 := dn3 hX4_waysDown_16
theorem dX4_waysDown_19 : decode cX4_waysDown 19 = .ok (.iload_n 2, 1) := dk28 hX4_waysDown_19
theorem hX4_waysDown_20 : cX4_waysDown.data.toList.drop 20 = sX4_waysDown_20 := dn1 hX4_waysDown_19
theorem dX4_waysDown_20 : decode cX4_waysDown 20 = .ok (.iaload, 1) := dk46 hX4_waysDown_20
theorem hX4_waysDown_21 : cX4_waysDown.data.toList.drop 21 = sX4_waysDown_21 := dn1 hX4_waysDown_20
theorem dX4_waysDown_21 : decode cX4_waysDown 21 = .ok (.ifCond .ne 7, 3) := dk154 hX4_waysDown_21 (by decide)
theorem hX4_waysDown_24 : cX4_waysDown.data.toList.drop 24 = sX4_waysDown_24 := dn3 hX4_waysDown_21
theorem dX4_waysDown_24 : decode cX4_waysDown 24 = .ok (.iconst 1, 1) := dk4 hX4_waysDown_24
theorem hX4_waysDown_25 : cX4_waysDown.data.toList.drop 25 = sX4_waysDown_25 := dn1 hX4_waysDown_24
theorem dX4_waysDown_25 : decode cX4_waysDown 25 = .ok (.goto 4, 3) := dk167 hX4_waysDown_25 (by decide)
theorem hX4_waysDown_28 : cX4_waysDown.data.toList.drop 28 = sX4_waysDown_28 := dn3 hX4_waysDown_25
theorem dX4_waysDown_28 : decode cX4_waysDown 28 = .ok (.iconst 0, 1) := dk3 hX4_waysDown_28
theorem hX4_waysDown_29 : cX4_waysDown.data.toList.drop 29 = sX4_waysDown_29 := dn1 hX4_waysDown_28
theorem dX4_waysDown_29 : decode cX4_waysDown 29 = .ok (.iastore, 1) := dk79 hX4_waysDown_29
theorem hX4_waysDown_30 : cX4_waysDown.data.toList.drop 30 = sX4_waysDown_30 := dn1 hX4_waysDown_29
theorem dX4_waysDown_30 : decode cX4_waysDown 30 = .ok (.iconst 0, 1) := dk3 hX4_waysDown_30
theorem hX4_waysDown_31 : cX4_waysDown.data.toList.drop 31 = sX4_waysDown_31 := dn1 hX4_waysDown_30
theorem dX4_waysDown_31 : decode cX4_waysDown 31 = .ok (.istore_n 3, 1) := dk62 hX4_waysDown_31
theorem hX4_waysDown_32 : cX4_waysDown.data.toList.drop 32 = sX4_waysDown_32 := dn1 hX4_waysDown_31
theorem dX4_waysDown_32 : decode cX4_waysDown 32 = .ok (.iload_n 3, 1) := dk29 hX4_waysDown_32
theorem hX4_waysDown_33 : cX4_waysDown.data.toList.drop 33 = sX4_waysDown_33 := dn1 hX4_waysDown_32
theorem dX4_waysDown_33 : decode cX4_waysDown 33 = .ok (.aload_n 1, 1) := dk43 hX4_waysDown_33
theorem hX4_waysDown_34 : cX4_waysDown.data.toList.drop 34 = sX4_waysDown_34 := dn1 hX4_waysDown_33
theorem dX4_waysDown_34 : decode cX4_waysDown 34 = .ok (.getfield 45, 3) := dk180 hX4_waysDown_34 rfl
theorem hX4_waysDown_37 : cX4_waysDown.data.toList.drop 37 = sX4_waysDown_37 := dn3 hX4_waysDown_34
theorem dX4_waysDown_37 : decode cX4_waysDown 37 = .ok (.iload_n 2, 1) := dk28 hX4_waysDown_37
theorem hX4_waysDown_38 : cX4_waysDown.data.toList.drop 38 = sX4_waysDown_38 := dn1 hX4_waysDown_37
theorem dX4_waysDown_38 : decode cX4_waysDown 38 = .ok (.iaload, 1) := dk46 hX4_waysDown_38
theorem hX4_waysDown_39 : cX4_waysDown.data.toList.drop 39 = sX4_waysDown_39 := dn1 hX4_waysDown_38
theorem dX4_waysDown_39 : decode cX4_waysDown 39 = .ok (.if_icmp .ge 33, 3) := dk162 hX4_waysDown_39 (by decide)
theorem hX4_waysDown_42 : cX4_waysDown.data.toList.drop 42 = sX4_waysDown_42 := dn3 hX4_waysDown_39
theorem dX4_waysDown_42 : decode cX4_waysDown 42 = .ok (.aload_n 0, 1) := dk42 hX4_waysDown_42
theorem hX4_waysDown_43 : cX4_waysDown.data.toList.drop 43 = sX4_waysDown_43 := dn1 hX4_waysDown_42
theorem dX4_waysDown_43 : decode cX4_waysDown 43 = .ok (.getfield 9, 3) := dk180 hX4_waysDown_43 rfl
theorem hX4_waysDown_46 : cX4_waysDown.data.toList.drop 46 = sX4_waysDown_46 := dn3 hX4_waysDown_43
theorem dX4_waysDown_46 : decode cX4_waysDown 46 = .ok (.iload_n 2, 1) := dk28 hX4_waysDown_46
theorem hX4_waysDown_47 : cX4_waysDown.data.toList.drop 47 = sX4_waysDown_47 := dn1 hX4_waysDown_46
theorem dX4_waysDown_47 : decode cX4_waysDown 47 = .ok (.dup2, 1) := dk92 hX4_waysDown_47
theorem hX4_waysDown_48 : cX4_waysDown.data.toList.drop 48 = sX4_waysDown_48 := dn1 hX4_waysDown_47
theorem dX4_waysDown_48 : decode cX4_waysDown 48 = .ok (.iaload, 1) := dk46 hX4_waysDown_48
theorem hX4_waysDown_49 : cX4_waysDown.data.toList.drop 49 = sX4_waysDown_49 := dn1 hX4_waysDown_48
theorem dX4_waysDown_49 : decode cX4_waysDown 49 = .ok (.aload_n 0, 1) := dk42 hX4_waysDown_49
theorem hX4_waysDown_50 : cX4_waysDown.data.toList.drop 50 = sX4_waysDown_50 := dn1 hX4_waysDown_49
theorem dX4_waysDown_50 : decode cX4_waysDown 50 = .ok (.getfield 9, 3) := dk180 hX4_waysDown_50 rfl
theorem hX4_waysDown_53 : cX4_waysDown.data.toList.drop 53 = sX4_waysDown_53 := dn3 hX4_waysDown_50
theorem dX4_waysDown_53 : decode cX4_waysDown 53 = .ok (.aload_n 1, 1) := dk43 hX4_waysDown_53
theorem hX4_waysDown_54 : cX4_waysDown.data.toList.drop 54 = sX4_waysDown_54 := dn1 hX4_waysDown_53
theorem dX4_waysDown_54 : decode cX4_waysDown 54 = .ok (.getfield 48, 3) := dk180 hX4_waysDown_54 rfl
theorem hX4_waysDown_57 : cX4_waysDown.data.toList.drop 57 = sX4_waysDown_57 := dn3 hX4_waysDown_54
theorem dX4_waysDown_57 : decode cX4_waysDown 57 = .ok (.iload_n 2, 1) := dk28 hX4_waysDown_57
theorem hX4_waysDown_58 : cX4_waysDown.data.toList.drop 58 = sX4_waysDown_58 := dn1 hX4_waysDown_57
theorem dX4_waysDown_58 : decode cX4_waysDown 58 = .ok (.iconst 4, 1) := dk7 hX4_waysDown_58
theorem hX4_waysDown_59 : cX4_waysDown.data.toList.drop 59 = sX4_waysDown_59 := dn1 hX4_waysDown_58
theorem dX4_waysDown_59 : decode cX4_waysDown 59 = .ok (.imul, 1) := dk104 hX4_waysDown_59
theorem hX4_waysDown_60 : cX4_waysDown.data.toList.drop 60 = sX4_waysDown_60 := dn1 hX4_waysDown_59
theorem dX4_waysDown_60 : decode cX4_waysDown 60 = .ok (.iload_n 3, 1) := dk29 hX4_waysDown_60
theorem hX4_waysDown_61 : cX4_waysDown.data.toList.drop 61 = sX4_waysDown_61 := dn1 hX4_waysDown_60
theorem dX4_waysDown_61 : decode cX4_waysDown 61 = .ok (.iadd, 1) := dk96 hX4_waysDown_61
theorem hX4_waysDown_62 : cX4_waysDown.data.toList.drop 62 = sX4_waysDown_62 := dn1 hX4_waysDown_61
theorem dX4_waysDown_62 : decode cX4_waysDown 62 = .ok (.iaload, 1) := dk46 hX4_waysDown_62
theorem hX4_waysDown_63 : cX4_waysDown.data.toList.drop 63 = sX4_waysDown_63 := dn1 hX4_waysDown_62
theorem dX4_waysDown_63 : decode cX4_waysDown 63 = .ok (.iaload, 1) := dk46 hX4_waysDown_63
theorem hX4_waysDown_64 : cX4_waysDown.data.toList.drop 64 = sX4_waysDown_64 := dn1 hX4_waysDown_63
theorem dX4_waysDown_64 : decode cX4_waysDown 64 = .ok (.iadd, 1) := dk96 hX4_waysDown_64
theorem hX4_waysDown_65 : cX4_waysDown.data.toList.drop 65 = sX4_waysDown_65 := dn1 hX4_waysDown_64
theorem dX4_waysDown_65 : decode cX4_waysDown 65 = .ok (.iastore, 1) := dk79 hX4_waysDown_65
theorem hX4_waysDown_66 : cX4_waysDown.data.toList.drop 66 = sX4_waysDown_66 := dn1 hX4_waysDown_65
theorem dX4_waysDown_66 : decode cX4_waysDown 66 = .ok (.iinc 3 1, 3) := dk132 hX4_waysDown_66 rfl (by decide)
theorem hX4_waysDown_69 : cX4_waysDown.data.toList.drop 69 = sX4_waysDown_69 := dn3 hX4_waysDown_66
theorem dX4_waysDown_69 : decode cX4_waysDown 69 = .ok (.goto (-37), 3) := dk167 hX4_waysDown_69 (by decide)
theorem hX4_waysDown_72 : cX4_waysDown.data.toList.drop 72 = sX4_waysDown_72 := dn3 hX4_waysDown_69
theorem dX4_waysDown_72 : decode cX4_waysDown 72 = .ok (.iinc 2 1, 3) := dk132 hX4_waysDown_72 rfl (by decide)
theorem hX4_waysDown_75 : cX4_waysDown.data.toList.drop 75 = sX4_waysDown_75 := dn3 hX4_waysDown_72
theorem dX4_waysDown_75 : decode cX4_waysDown 75 = .ok (.goto (-73), 3) := dk167 hX4_waysDown_75 (by decide)
theorem hX4_waysDown_78 : cX4_waysDown.data.toList.drop 78 = sX4_waysDown_78 := dn3 hX4_waysDown_75
theorem dX4_waysDown_78 : decode cX4_waysDown 78 = .ok (.aload_n 0, 1) := dk42 hX4_waysDown_78
theorem hX4_waysDown_79 : cX4_waysDown.data.toList.drop 79 = sX4_waysDown_79 := dn1 hX4_waysDown_78
theorem dX4_waysDown_79 : decode cX4_waysDown 79 = .ok (.aload_n 1, 1) := dk43 hX4_waysDown_79
theorem hX4_waysDown_80 : cX4_waysDown.data.toList.drop 80 = sX4_waysDown_80 := dn1 hX4_waysDown_79
theorem dX4_waysDown_80 : decode cX4_waysDown 80 = .ok (.invokevirtual 34, 3) := dk182 hX4_waysDown_80 rfl
theorem hX4_waysDown_83 : cX4_waysDown.data.toList.drop 83 = sX4_waysDown_83 := dn3 hX4_waysDown_80
theorem dX4_waysDown_83 : decode cX4_waysDown 83 = .ok (.ireturn, 1) := dk172 hX4_waysDown_83
noncomputable def sX4_weighAll_53 : List UInt8 := 172 :: []
noncomputable def sX4_weighAll_50 : List UInt8 := 182 :: 0 :: 34 :: sX4_weighAll_53
noncomputable def sX4_weighAll_49 : List UInt8 := 43 :: sX4_weighAll_50
noncomputable def sX4_weighAll_48 : List UInt8 := 42 :: sX4_weighAll_49
noncomputable def sX4_weighAll_45 : List UInt8 := 167 :: 255 :: 213 :: sX4_weighAll_48
noncomputable def sX4_weighAll_42 : List UInt8 := 132 :: 3 :: 1 :: sX4_weighAll_45
noncomputable def sX4_weighAll_41 : List UInt8 := 79 :: sX4_weighAll_42
noncomputable def sX4_weighAll_38 : List UInt8 := 182 :: 0 :: 30 :: sX4_weighAll_41
noncomputable def sX4_weighAll_37 : List UInt8 := 29 :: sX4_weighAll_38
noncomputable def sX4_weighAll_36 : List UInt8 := 43 :: sX4_weighAll_37
noncomputable def sX4_weighAll_35 : List UInt8 := 42 :: sX4_weighAll_36
noncomputable def sX4_weighAll_32 : List UInt8 := 167 :: 0 :: 9 :: sX4_weighAll_35
noncomputable def sX4_weighAll_31 : List UInt8 := 104 :: sX4_weighAll_32
noncomputable def sX4_weighAll_28 : List UInt8 := 180 :: 0 :: 27 :: sX4_weighAll_31
noncomputable def sX4_weighAll_27 : List UInt8 := 43 :: sX4_weighAll_28
noncomputable def sX4_weighAll_26 : List UInt8 := 46 :: sX4_weighAll_27
noncomputable def sX4_weighAll_25 : List UInt8 := 29 :: sX4_weighAll_26
noncomputable def sX4_weighAll_24 : List UInt8 := 44 :: sX4_weighAll_25
noncomputable def sX4_weighAll_21 : List UInt8 := 154 :: 0 :: 14 :: sX4_weighAll_24
noncomputable def sX4_weighAll_20 : List UInt8 := 46 :: sX4_weighAll_21
noncomputable def sX4_weighAll_19 : List UInt8 := 29 :: sX4_weighAll_20
noncomputable def sX4_weighAll_16 : List UInt8 := 180 :: 0 :: 24 :: sX4_weighAll_19
noncomputable def sX4_weighAll_15 : List UInt8 := 43 :: sX4_weighAll_16
noncomputable def sX4_weighAll_14 : List UInt8 := 29 :: sX4_weighAll_15
noncomputable def sX4_weighAll_11 : List UInt8 := 180 :: 0 :: 9 :: sX4_weighAll_14
noncomputable def sX4_weighAll_10 : List UInt8 := 42 :: sX4_weighAll_11
noncomputable def sX4_weighAll_7 : List UInt8 := 162 :: 0 :: 41 :: sX4_weighAll_10
noncomputable def sX4_weighAll_4 : List UInt8 := 180 :: 0 :: 18 :: sX4_weighAll_7
noncomputable def sX4_weighAll_3 : List UInt8 := 43 :: sX4_weighAll_4
noncomputable def sX4_weighAll_2 : List UInt8 := 29 :: sX4_weighAll_3
noncomputable def sX4_weighAll_1 : List UInt8 := 62 :: sX4_weighAll_2
noncomputable def sX4_weighAll_0 : List UInt8 := 3 :: sX4_weighAll_1
set_option maxRecDepth 100000 in
theorem hX4_weighAll_0 : cX4_weighAll.data.toList.drop 0 = sX4_weighAll_0 := by decide +kernel
theorem dX4_weighAll_0 : decode cX4_weighAll 0 = .ok (.iconst 0, 1) := dk3 hX4_weighAll_0
theorem hX4_weighAll_1 : cX4_weighAll.data.toList.drop 1 = sX4_weighAll_1 := dn1 hX4_weighAll_0
theorem dX4_weighAll_1 : decode cX4_weighAll 1 = .ok (.istore_n 3, 1) := dk62 hX4_weighAll_1
theorem hX4_weighAll_2 : cX4_weighAll.data.toList.drop 2 = sX4_weighAll_2 := dn1 hX4_weighAll_1
theorem dX4_weighAll_2 : decode cX4_weighAll 2 = .ok (.iload_n 3, 1) := dk29 hX4_weighAll_2
theorem hX4_weighAll_3 : cX4_weighAll.data.toList.drop 3 = sX4_weighAll_3 := dn1 hX4_weighAll_2
theorem dX4_weighAll_3 : decode cX4_weighAll 3 = .ok (.aload_n 1, 1) := dk43 hX4_weighAll_3
theorem hX4_weighAll_4 : cX4_weighAll.data.toList.drop 4 = sX4_weighAll_4 := dn1 hX4_weighAll_3
theorem dX4_weighAll_4 : decode cX4_weighAll 4 = .ok (.getfield 18, 3) := dk180 hX4_weighAll_4 rfl
theorem hX4_weighAll_7 : cX4_weighAll.data.toList.drop 7 = sX4_weighAll_7 := dn3 hX4_weighAll_4
theorem dX4_weighAll_7 : decode cX4_weighAll 7 = .ok (.if_icmp .ge 41, 3) := dk162 hX4_weighAll_7 (by decide)
theorem hX4_weighAll_10 : cX4_weighAll.data.toList.drop 10 = sX4_weighAll_10 := dn3 hX4_weighAll_7
theorem dX4_weighAll_10 : decode cX4_weighAll 10 = .ok (.aload_n 0, 1) := dk42 hX4_weighAll_10
theorem hX4_weighAll_11 : cX4_weighAll.data.toList.drop 11 = sX4_weighAll_11 := dn1 hX4_weighAll_10
theorem dX4_weighAll_11 : decode cX4_weighAll 11 = .ok (.getfield 9, 3) := dk180 hX4_weighAll_11 rfl
theorem hX4_weighAll_14 : cX4_weighAll.data.toList.drop 14 = sX4_weighAll_14 := dn3 hX4_weighAll_11
theorem dX4_weighAll_14 : decode cX4_weighAll 14 = .ok (.iload_n 3, 1) := dk29 hX4_weighAll_14
theorem hX4_weighAll_15 : cX4_weighAll.data.toList.drop 15 = sX4_weighAll_15 := dn1 hX4_weighAll_14
theorem dX4_weighAll_15 : decode cX4_weighAll 15 = .ok (.aload_n 1, 1) := dk43 hX4_weighAll_15
theorem hX4_weighAll_16 : cX4_weighAll.data.toList.drop 16 = sX4_weighAll_16 := dn1 hX4_weighAll_15
theorem dX4_weighAll_16 : decode cX4_weighAll 16 = .ok (.getfield 24, 3) := dk180 hX4_weighAll_16 rfl
theorem hX4_weighAll_19 : cX4_weighAll.data.toList.drop 19 = sX4_weighAll_19 := dn3 hX4_weighAll_16
theorem dX4_weighAll_19 : decode cX4_weighAll 19 = .ok (.iload_n 3, 1) := dk29 hX4_weighAll_19
theorem hX4_weighAll_20 : cX4_weighAll.data.toList.drop 20 = sX4_weighAll_20 := dn1 hX4_weighAll_19
theorem dX4_weighAll_20 : decode cX4_weighAll 20 = .ok (.iaload, 1) := dk46 hX4_weighAll_20
theorem hX4_weighAll_21 : cX4_weighAll.data.toList.drop 21 = sX4_weighAll_21 := dn1 hX4_weighAll_20
theorem dX4_weighAll_21 : decode cX4_weighAll 21 = .ok (.ifCond .ne 14, 3) := dk154 hX4_weighAll_21 (by decide)
theorem hX4_weighAll_24 : cX4_weighAll.data.toList.drop 24 = sX4_weighAll_24 := dn3 hX4_weighAll_21
theorem dX4_weighAll_24 : decode cX4_weighAll 24 = .ok (.aload_n 2, 1) := dk44 hX4_weighAll_24
theorem hX4_weighAll_25 : cX4_weighAll.data.toList.drop 25 = sX4_weighAll_25 := dn1 hX4_weighAll_24
theorem dX4_weighAll_25 : decode cX4_weighAll 25 = .ok (.iload_n 3, 1) := dk29 hX4_weighAll_25
theorem hX4_weighAll_26 : cX4_weighAll.data.toList.drop 26 = sX4_weighAll_26 := dn1 hX4_weighAll_25
theorem dX4_weighAll_26 : decode cX4_weighAll 26 = .ok (.iaload, 1) := dk46 hX4_weighAll_26
theorem hX4_weighAll_27 : cX4_weighAll.data.toList.drop 27 = sX4_weighAll_27 := dn1 hX4_weighAll_26
theorem dX4_weighAll_27 : decode cX4_weighAll 27 = .ok (.aload_n 1, 1) := dk43 hX4_weighAll_27
theorem hX4_weighAll_28 : cX4_weighAll.data.toList.drop 28 = sX4_weighAll_28 := dn1 hX4_weighAll_27
theorem dX4_weighAll_28 : decode cX4_weighAll 28 = .ok (.getfield 27, 3) := dk180 hX4_weighAll_28 rfl
theorem hX4_weighAll_31 : cX4_weighAll.data.toList.drop 31 = sX4_weighAll_31 := dn3 hX4_weighAll_28
theorem dX4_weighAll_31 : decode cX4_weighAll 31 = .ok (.imul, 1) := dk104 hX4_weighAll_31
theorem hX4_weighAll_32 : cX4_weighAll.data.toList.drop 32 = sX4_weighAll_32 := dn1 hX4_weighAll_31
theorem dX4_weighAll_32 : decode cX4_weighAll 32 = .ok (.goto 9, 3) := dk167 hX4_weighAll_32 (by decide)
theorem hX4_weighAll_35 : cX4_weighAll.data.toList.drop 35 = sX4_weighAll_35 := dn3 hX4_weighAll_32
theorem dX4_weighAll_35 : decode cX4_weighAll 35 = .ok (.aload_n 0, 1) := dk42 hX4_weighAll_35
theorem hX4_weighAll_36 : cX4_weighAll.data.toList.drop 36 = sX4_weighAll_36 := dn1 hX4_weighAll_35
theorem dX4_weighAll_36 : decode cX4_weighAll 36 = .ok (.aload_n 1, 1) := dk43 hX4_weighAll_36
theorem hX4_weighAll_37 : cX4_weighAll.data.toList.drop 37 = sX4_weighAll_37 := dn1 hX4_weighAll_36
theorem dX4_weighAll_37 : decode cX4_weighAll 37 = .ok (.iload_n 3, 1) := dk29 hX4_weighAll_37
theorem hX4_weighAll_38 : cX4_weighAll.data.toList.drop 38 = sX4_weighAll_38 := dn1 hX4_weighAll_37
theorem dX4_weighAll_38 : decode cX4_weighAll 38 = .ok (.invokevirtual 30, 3) := dk182 hX4_weighAll_38 rfl
theorem hX4_weighAll_41 : cX4_weighAll.data.toList.drop 41 = sX4_weighAll_41 := dn3 hX4_weighAll_38
theorem dX4_weighAll_41 : decode cX4_weighAll 41 = .ok (.iastore, 1) := dk79 hX4_weighAll_41
theorem hX4_weighAll_42 : cX4_weighAll.data.toList.drop 42 = sX4_weighAll_42 := dn1 hX4_weighAll_41
theorem dX4_weighAll_42 : decode cX4_weighAll 42 = .ok (.iinc 3 1, 3) := dk132 hX4_weighAll_42 rfl (by decide)
theorem hX4_weighAll_45 : cX4_weighAll.data.toList.drop 45 = sX4_weighAll_45 := dn3 hX4_weighAll_42
theorem dX4_weighAll_45 : decode cX4_weighAll 45 = .ok (.goto (-43), 3) := dk167 hX4_weighAll_45 (by decide)
theorem hX4_weighAll_48 : cX4_weighAll.data.toList.drop 48 = sX4_weighAll_48 := dn3 hX4_weighAll_45
theorem dX4_weighAll_48 : decode cX4_weighAll 48 = .ok (.aload_n 0, 1) := dk42 hX4_weighAll_48
theorem hX4_weighAll_49 : cX4_weighAll.data.toList.drop 49 = sX4_weighAll_49 := dn1 hX4_weighAll_48
theorem dX4_weighAll_49 : decode cX4_weighAll 49 = .ok (.aload_n 1, 1) := dk43 hX4_weighAll_49
theorem hX4_weighAll_50 : cX4_weighAll.data.toList.drop 50 = sX4_weighAll_50 := dn1 hX4_weighAll_49
theorem dX4_weighAll_50 : decode cX4_weighAll 50 = .ok (.invokevirtual 34, 3) := dk182 hX4_weighAll_50 rfl
theorem hX4_weighAll_53 : cX4_weighAll.data.toList.drop 53 = sX4_weighAll_53 := dn3 hX4_weighAll_50
theorem dX4_weighAll_53 : decode cX4_weighAll 53 = .ok (.ireturn, 1) := dk172 hX4_weighAll_53
noncomputable def sX4_weighNextNight_38 : List UInt8 := 177 :: []
noncomputable def sX4_weighNextNight_35 : List UInt8 := 167 :: 255 :: 228 :: sX4_weighNextNight_38
noncomputable def sX4_weighNextNight_32 : List UInt8 := 132 :: 2 :: 255 :: sX4_weighNextNight_35
noncomputable def sX4_weighNextNight_31 : List UInt8 := 79 :: sX4_weighNextNight_32
noncomputable def sX4_weighNextNight_28 : List UInt8 := 182 :: 0 :: 30 :: sX4_weighNextNight_31
noncomputable def sX4_weighNextNight_27 : List UInt8 := 28 :: sX4_weighNextNight_28
noncomputable def sX4_weighNextNight_26 : List UInt8 := 43 :: sX4_weighNextNight_27
noncomputable def sX4_weighNextNight_25 : List UInt8 := 42 :: sX4_weighNextNight_26
noncomputable def sX4_weighNextNight_24 : List UInt8 := 28 :: sX4_weighNextNight_25
noncomputable def sX4_weighNextNight_21 : List UInt8 := 180 :: 0 :: 9 :: sX4_weighNextNight_24
noncomputable def sX4_weighNextNight_20 : List UInt8 := 42 :: sX4_weighNextNight_21
noncomputable def sX4_weighNextNight_17 : List UInt8 := 153 :: 0 :: 15 :: sX4_weighNextNight_20
noncomputable def sX4_weighNextNight_16 : List UInt8 := 46 :: sX4_weighNextNight_17
noncomputable def sX4_weighNextNight_15 : List UInt8 := 28 :: sX4_weighNextNight_16
noncomputable def sX4_weighNextNight_12 : List UInt8 := 180 :: 0 :: 24 :: sX4_weighNextNight_15
noncomputable def sX4_weighNextNight_11 : List UInt8 := 43 :: sX4_weighNextNight_12
noncomputable def sX4_weighNextNight_8 : List UInt8 := 155 :: 0 :: 30 :: sX4_weighNextNight_11
noncomputable def sX4_weighNextNight_7 : List UInt8 := 28 :: sX4_weighNextNight_8
noncomputable def sX4_weighNextNight_6 : List UInt8 := 61 :: sX4_weighNextNight_7
noncomputable def sX4_weighNextNight_5 : List UInt8 := 100 :: sX4_weighNextNight_6
noncomputable def sX4_weighNextNight_4 : List UInt8 := 4 :: sX4_weighNextNight_5
noncomputable def sX4_weighNextNight_1 : List UInt8 := 180 :: 0 :: 18 :: sX4_weighNextNight_4
noncomputable def sX4_weighNextNight_0 : List UInt8 := 43 :: sX4_weighNextNight_1
set_option maxRecDepth 100000 in
theorem hX4_weighNextNight_0 : cX4_weighNextNight.data.toList.drop 0 = sX4_weighNextNight_0 := by decide +kernel
theorem dX4_weighNextNight_0 : decode cX4_weighNextNight 0 = .ok (.aload_n 1, 1) := dk43 hX4_weighNextNight_0
theorem hX4_weighNextNight_1 : cX4_weighNextNight.data.toList.drop 1 = sX4_weighNextNight_1 := dn1 hX4_weighNextNight_0
theorem dX4_weighNextNight_1 : decode cX4_weighNextNight 1 = .ok (.getfield 18, 3) := dk180 hX4_weighNextNight_1 rfl
theorem hX4_weighNextNight_4 : cX4_weighNextNight.data.toList.drop 4 = sX4_weighNextNight_4 := dn3 hX4_weighNextNight_1
theorem dX4_weighNextNight_4 : decode cX4_weighNextNight 4 = .ok (.iconst 1, 1) := dk4 hX4_weighNextNight_4
theorem hX4_weighNextNight_5 : cX4_weighNextNight.data.toList.drop 5 = sX4_weighNextNight_5 := dn1 hX4_weighNextNight_4
theorem dX4_weighNextNight_5 : decode cX4_weighNextNight 5 = .ok (.isub, 1) := dk100 hX4_weighNextNight_5
theorem hX4_weighNextNight_6 : cX4_weighNextNight.data.toList.drop 6 = sX4_weighNextNight_6 := dn1 hX4_weighNextNight_5
theorem dX4_weighNextNight_6 : decode cX4_weighNextNight 6 = .ok (.istore_n 2, 1) := dk61 hX4_weighNextNight_6
theorem hX4_weighNextNight_7 : cX4_weighNextNight.data.toList.drop 7 = sX4_weighNextNight_7 := dn1 hX4_weighNextNight_6
theorem dX4_weighNextNight_7 : decode cX4_weighNextNight 7 = .ok (.iload_n 2, 1) := dk28 hX4_weighNextNight_7
theorem hX4_weighNextNight_8 : cX4_weighNextNight.data.toList.drop 8 = sX4_weighNextNight_8 := dn1 hX4_weighNextNight_7
theorem dX4_weighNextNight_8 : decode cX4_weighNextNight 8 = .ok (.ifCond .lt 30, 3) := dk155 hX4_weighNextNight_8 (by decide)
theorem hX4_weighNextNight_11 : cX4_weighNextNight.data.toList.drop 11 = sX4_weighNextNight_11 := dn3 hX4_weighNextNight_8
theorem dX4_weighNextNight_11 : decode cX4_weighNextNight 11 = .ok (.aload_n 1, 1) := dk43 hX4_weighNextNight_11
theorem hX4_weighNextNight_12 : cX4_weighNextNight.data.toList.drop 12 = sX4_weighNextNight_12 := dn1 hX4_weighNextNight_11
theorem dX4_weighNextNight_12 : decode cX4_weighNextNight 12 = .ok (.getfield 24, 3) := dk180 hX4_weighNextNight_12 rfl
theorem hX4_weighNextNight_15 : cX4_weighNextNight.data.toList.drop 15 = sX4_weighNextNight_15 := dn3 hX4_weighNextNight_12
theorem dX4_weighNextNight_15 : decode cX4_weighNextNight 15 = .ok (.iload_n 2, 1) := dk28 hX4_weighNextNight_15
theorem hX4_weighNextNight_16 : cX4_weighNextNight.data.toList.drop 16 = sX4_weighNextNight_16 := dn1 hX4_weighNextNight_15
theorem dX4_weighNextNight_16 : decode cX4_weighNextNight 16 = .ok (.iaload, 1) := dk46 hX4_weighNextNight_16
theorem hX4_weighNextNight_17 : cX4_weighNextNight.data.toList.drop 17 = sX4_weighNextNight_17 := dn1 hX4_weighNextNight_16
theorem dX4_weighNextNight_17 : decode cX4_weighNextNight 17 = .ok (.ifCond .eq 15, 3) := dk153 hX4_weighNextNight_17 (by decide)
theorem hX4_weighNextNight_20 : cX4_weighNextNight.data.toList.drop 20 = sX4_weighNextNight_20 := dn3 hX4_weighNextNight_17
theorem dX4_weighNextNight_20 : decode cX4_weighNextNight 20 = .ok (.aload_n 0, 1) := dk42 hX4_weighNextNight_20
theorem hX4_weighNextNight_21 : cX4_weighNextNight.data.toList.drop 21 = sX4_weighNextNight_21 := dn1 hX4_weighNextNight_20
theorem dX4_weighNextNight_21 : decode cX4_weighNextNight 21 = .ok (.getfield 9, 3) := dk180 hX4_weighNextNight_21 rfl
theorem hX4_weighNextNight_24 : cX4_weighNextNight.data.toList.drop 24 = sX4_weighNextNight_24 := dn3 hX4_weighNextNight_21
theorem dX4_weighNextNight_24 : decode cX4_weighNextNight 24 = .ok (.iload_n 2, 1) := dk28 hX4_weighNextNight_24
theorem hX4_weighNextNight_25 : cX4_weighNextNight.data.toList.drop 25 = sX4_weighNextNight_25 := dn1 hX4_weighNextNight_24
theorem dX4_weighNextNight_25 : decode cX4_weighNextNight 25 = .ok (.aload_n 0, 1) := dk42 hX4_weighNextNight_25
theorem hX4_weighNextNight_26 : cX4_weighNextNight.data.toList.drop 26 = sX4_weighNextNight_26 := dn1 hX4_weighNextNight_25
theorem dX4_weighNextNight_26 : decode cX4_weighNextNight 26 = .ok (.aload_n 1, 1) := dk43 hX4_weighNextNight_26
theorem hX4_weighNextNight_27 : cX4_weighNextNight.data.toList.drop 27 = sX4_weighNextNight_27 := dn1 hX4_weighNextNight_26
theorem dX4_weighNextNight_27 : decode cX4_weighNextNight 27 = .ok (.iload_n 2, 1) := dk28 hX4_weighNextNight_27
theorem hX4_weighNextNight_28 : cX4_weighNextNight.data.toList.drop 28 = sX4_weighNextNight_28 := dn1 hX4_weighNextNight_27
theorem dX4_weighNextNight_28 : decode cX4_weighNextNight 28 = .ok (.invokevirtual 30, 3) := dk182 hX4_weighNextNight_28 rfl
theorem hX4_weighNextNight_31 : cX4_weighNextNight.data.toList.drop 31 = sX4_weighNextNight_31 := dn3 hX4_weighNextNight_28
theorem dX4_weighNextNight_31 : decode cX4_weighNextNight 31 = .ok (.iastore, 1) := dk79 hX4_weighNextNight_31
theorem hX4_weighNextNight_32 : cX4_weighNextNight.data.toList.drop 32 = sX4_weighNextNight_32 := dn1 hX4_weighNextNight_31
theorem dX4_weighNextNight_32 : decode cX4_weighNextNight 32 = .ok (.iinc 2 (-1), 3) := dk132 hX4_weighNextNight_32 rfl (by decide)
theorem hX4_weighNextNight_35 : cX4_weighNextNight.data.toList.drop 35 = sX4_weighNextNight_35 := dn3 hX4_weighNextNight_32
theorem dX4_weighNextNight_35 : decode cX4_weighNextNight 35 = .ok (.goto (-28), 3) := dk167 hX4_weighNextNight_35 (by decide)
theorem hX4_weighNextNight_38 : cX4_weighNextNight.data.toList.drop 38 = sX4_weighNextNight_38 := dn3 hX4_weighNextNight_35
theorem dX4_weighNextNight_38 : decode cX4_weighNextNight 38 = .ok (.return_, 1) := dk177 hX4_weighNextNight_38
noncomputable def sX4_weighNightNone_44 : List UInt8 := 177 :: []
noncomputable def sX4_weighNightNone_41 : List UInt8 := 167 :: 255 :: 217 :: sX4_weighNightNone_44
noncomputable def sX4_weighNightNone_38 : List UInt8 := 132 :: 3 :: 1 :: sX4_weighNightNone_41
noncomputable def sX4_weighNightNone_37 : List UInt8 := 79 :: sX4_weighNightNone_38
noncomputable def sX4_weighNightNone_36 : List UInt8 := 104 :: sX4_weighNightNone_37
noncomputable def sX4_weighNightNone_33 : List UInt8 := 180 :: 0 :: 27 :: sX4_weighNightNone_36
noncomputable def sX4_weighNightNone_32 : List UInt8 := 43 :: sX4_weighNightNone_33
noncomputable def sX4_weighNightNone_30 : List UInt8 := 16 :: 50 :: sX4_weighNightNone_32
noncomputable def sX4_weighNightNone_27 : List UInt8 := 167 :: 0 :: 5 :: sX4_weighNightNone_30
noncomputable def sX4_weighNightNone_26 : List UInt8 := 46 :: sX4_weighNightNone_27
noncomputable def sX4_weighNightNone_25 : List UInt8 := 29 :: sX4_weighNightNone_26
noncomputable def sX4_weighNightNone_24 : List UInt8 := 44 :: sX4_weighNightNone_25
noncomputable def sX4_weighNightNone_21 : List UInt8 := 154 :: 0 :: 9 :: sX4_weighNightNone_24
noncomputable def sX4_weighNightNone_20 : List UInt8 := 46 :: sX4_weighNightNone_21
noncomputable def sX4_weighNightNone_19 : List UInt8 := 29 :: sX4_weighNightNone_20
noncomputable def sX4_weighNightNone_16 : List UInt8 := 180 :: 0 :: 24 :: sX4_weighNightNone_19
noncomputable def sX4_weighNightNone_15 : List UInt8 := 43 :: sX4_weighNightNone_16
noncomputable def sX4_weighNightNone_14 : List UInt8 := 29 :: sX4_weighNightNone_15
noncomputable def sX4_weighNightNone_11 : List UInt8 := 180 :: 0 :: 9 :: sX4_weighNightNone_14
noncomputable def sX4_weighNightNone_10 : List UInt8 := 42 :: sX4_weighNightNone_11
noncomputable def sX4_weighNightNone_7 : List UInt8 := 162 :: 0 :: 37 :: sX4_weighNightNone_10
noncomputable def sX4_weighNightNone_4 : List UInt8 := 180 :: 0 :: 18 :: sX4_weighNightNone_7
noncomputable def sX4_weighNightNone_3 : List UInt8 := 43 :: sX4_weighNightNone_4
noncomputable def sX4_weighNightNone_2 : List UInt8 := 29 :: sX4_weighNightNone_3
noncomputable def sX4_weighNightNone_1 : List UInt8 := 62 :: sX4_weighNightNone_2
noncomputable def sX4_weighNightNone_0 : List UInt8 := 3 :: sX4_weighNightNone_1
set_option maxRecDepth 100000 in
theorem hX4_weighNightNone_0 : cX4_weighNightNone.data.toList.drop 0 = sX4_weighNightNone_0 := by decide +kernel
theorem dX4_weighNightNone_0 : decode cX4_weighNightNone 0 = .ok (.iconst 0, 1) := dk3 hX4_weighNightNone_0
theorem hX4_weighNightNone_1 : cX4_weighNightNone.data.toList.drop 1 = sX4_weighNightNone_1 := dn1 hX4_weighNightNone_0
theorem dX4_weighNightNone_1 : decode cX4_weighNightNone 1 = .ok (.istore_n 3, 1) := dk62 hX4_weighNightNone_1
theorem hX4_weighNightNone_2 : cX4_weighNightNone.data.toList.drop 2 = sX4_weighNightNone_2 := dn1 hX4_weighNightNone_1
theorem dX4_weighNightNone_2 : decode cX4_weighNightNone 2 = .ok (.iload_n 3, 1) := dk29 hX4_weighNightNone_2
theorem hX4_weighNightNone_3 : cX4_weighNightNone.data.toList.drop 3 = sX4_weighNightNone_3 := dn1 hX4_weighNightNone_2
theorem dX4_weighNightNone_3 : decode cX4_weighNightNone 3 = .ok (.aload_n 1, 1) := dk43 hX4_weighNightNone_3
theorem hX4_weighNightNone_4 : cX4_weighNightNone.data.toList.drop 4 = sX4_weighNightNone_4 := dn1 hX4_weighNightNone_3
theorem dX4_weighNightNone_4 : decode cX4_weighNightNone 4 = .ok (.getfield 18, 3) := dk180 hX4_weighNightNone_4 rfl
theorem hX4_weighNightNone_7 : cX4_weighNightNone.data.toList.drop 7 = sX4_weighNightNone_7 := dn3 hX4_weighNightNone_4
theorem dX4_weighNightNone_7 : decode cX4_weighNightNone 7 = .ok (.if_icmp .ge 37, 3) := dk162 hX4_weighNightNone_7 (by decide)
theorem hX4_weighNightNone_10 : cX4_weighNightNone.data.toList.drop 10 = sX4_weighNightNone_10 := dn3 hX4_weighNightNone_7
theorem dX4_weighNightNone_10 : decode cX4_weighNightNone 10 = .ok (.aload_n 0, 1) := dk42 hX4_weighNightNone_10
theorem hX4_weighNightNone_11 : cX4_weighNightNone.data.toList.drop 11 = sX4_weighNightNone_11 := dn1 hX4_weighNightNone_10
theorem dX4_weighNightNone_11 : decode cX4_weighNightNone 11 = .ok (.getfield 9, 3) := dk180 hX4_weighNightNone_11 rfl
theorem hX4_weighNightNone_14 : cX4_weighNightNone.data.toList.drop 14 = sX4_weighNightNone_14 := dn3 hX4_weighNightNone_11
theorem dX4_weighNightNone_14 : decode cX4_weighNightNone 14 = .ok (.iload_n 3, 1) := dk29 hX4_weighNightNone_14
theorem hX4_weighNightNone_15 : cX4_weighNightNone.data.toList.drop 15 = sX4_weighNightNone_15 := dn1 hX4_weighNightNone_14
theorem dX4_weighNightNone_15 : decode cX4_weighNightNone 15 = .ok (.aload_n 1, 1) := dk43 hX4_weighNightNone_15
theorem hX4_weighNightNone_16 : cX4_weighNightNone.data.toList.drop 16 = sX4_weighNightNone_16 := dn1 hX4_weighNightNone_15
theorem dX4_weighNightNone_16 : decode cX4_weighNightNone 16 = .ok (.getfield 24, 3) := dk180 hX4_weighNightNone_16 rfl
theorem hX4_weighNightNone_19 : cX4_weighNightNone.data.toList.drop 19 = sX4_weighNightNone_19 := dn3 hX4_weighNightNone_16
theorem dX4_weighNightNone_19 : decode cX4_weighNightNone 19 = .ok (.iload_n 3, 1) := dk29 hX4_weighNightNone_19
theorem hX4_weighNightNone_20 : cX4_weighNightNone.data.toList.drop 20 = sX4_weighNightNone_20 := dn1 hX4_weighNightNone_19
theorem dX4_weighNightNone_20 : decode cX4_weighNightNone 20 = .ok (.iaload, 1) := dk46 hX4_weighNightNone_20
theorem hX4_weighNightNone_21 : cX4_weighNightNone.data.toList.drop 21 = sX4_weighNightNone_21 := dn1 hX4_weighNightNone_20
theorem dX4_weighNightNone_21 : decode cX4_weighNightNone 21 = .ok (.ifCond .ne 9, 3) := dk154 hX4_weighNightNone_21 (by decide)
theorem hX4_weighNightNone_24 : cX4_weighNightNone.data.toList.drop 24 = sX4_weighNightNone_24 := dn3 hX4_weighNightNone_21
theorem dX4_weighNightNone_24 : decode cX4_weighNightNone 24 = .ok (.aload_n 2, 1) := dk44 hX4_weighNightNone_24
theorem hX4_weighNightNone_25 : cX4_weighNightNone.data.toList.drop 25 = sX4_weighNightNone_25 := dn1 hX4_weighNightNone_24
theorem dX4_weighNightNone_25 : decode cX4_weighNightNone 25 = .ok (.iload_n 3, 1) := dk29 hX4_weighNightNone_25
theorem hX4_weighNightNone_26 : cX4_weighNightNone.data.toList.drop 26 = sX4_weighNightNone_26 := dn1 hX4_weighNightNone_25
theorem dX4_weighNightNone_26 : decode cX4_weighNightNone 26 = .ok (.iaload, 1) := dk46 hX4_weighNightNone_26
theorem hX4_weighNightNone_27 : cX4_weighNightNone.data.toList.drop 27 = sX4_weighNightNone_27 := dn1 hX4_weighNightNone_26
theorem dX4_weighNightNone_27 : decode cX4_weighNightNone 27 = .ok (.goto 5, 3) := dk167 hX4_weighNightNone_27 (by decide)
theorem hX4_weighNightNone_30 : cX4_weighNightNone.data.toList.drop 30 = sX4_weighNightNone_30 := dn3 hX4_weighNightNone_27
theorem dX4_weighNightNone_30 : decode cX4_weighNightNone 30 = .ok (.bipush 50, 2) := dk16 hX4_weighNightNone_30 (by decide)
theorem hX4_weighNightNone_32 : cX4_weighNightNone.data.toList.drop 32 = sX4_weighNightNone_32 := dn2 hX4_weighNightNone_30
theorem dX4_weighNightNone_32 : decode cX4_weighNightNone 32 = .ok (.aload_n 1, 1) := dk43 hX4_weighNightNone_32
theorem hX4_weighNightNone_33 : cX4_weighNightNone.data.toList.drop 33 = sX4_weighNightNone_33 := dn1 hX4_weighNightNone_32
theorem dX4_weighNightNone_33 : decode cX4_weighNightNone 33 = .ok (.getfield 27, 3) := dk180 hX4_weighNightNone_33 rfl
theorem hX4_weighNightNone_36 : cX4_weighNightNone.data.toList.drop 36 = sX4_weighNightNone_36 := dn3 hX4_weighNightNone_33
theorem dX4_weighNightNone_36 : decode cX4_weighNightNone 36 = .ok (.imul, 1) := dk104 hX4_weighNightNone_36
theorem hX4_weighNightNone_37 : cX4_weighNightNone.data.toList.drop 37 = sX4_weighNightNone_37 := dn1 hX4_weighNightNone_36
theorem dX4_weighNightNone_37 : decode cX4_weighNightNone 37 = .ok (.iastore, 1) := dk79 hX4_weighNightNone_37
theorem hX4_weighNightNone_38 : cX4_weighNightNone.data.toList.drop 38 = sX4_weighNightNone_38 := dn1 hX4_weighNightNone_37
theorem dX4_weighNightNone_38 : decode cX4_weighNightNone 38 = .ok (.iinc 3 1, 3) := dk132 hX4_weighNightNone_38 rfl (by decide)
theorem hX4_weighNightNone_41 : cX4_weighNightNone.data.toList.drop 41 = sX4_weighNightNone_41 := dn3 hX4_weighNightNone_38
theorem dX4_weighNightNone_41 : decode cX4_weighNightNone 41 = .ok (.goto (-39), 3) := dk167 hX4_weighNightNone_41 (by decide)
theorem hX4_weighNightNone_44 : cX4_weighNightNone.data.toList.drop 44 = sX4_weighNightNone_44 := dn3 hX4_weighNightNone_41
theorem dX4_weighNightNone_44 : decode cX4_weighNightNone 44 = .ok (.return_, 1) := dk177 hX4_weighNightNone_44
