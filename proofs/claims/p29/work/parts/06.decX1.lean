noncomputable def sX1_addPart_134 : List UInt8 := 177 :: []
noncomputable def sX1_addPart_133 : List UInt8 := 79 :: sX1_addPart_134
noncomputable def sX1_addPart_132 : List UInt8 := 128 :: sX1_addPart_133
noncomputable def sX1_addPart_131 : List UInt8 := 120 :: sX1_addPart_132
noncomputable def sX1_addPart_128 : List UInt8 := 180 :: 0 :: 55 :: sX1_addPart_131
noncomputable def sX1_addPart_127 : List UInt8 := 42 :: sX1_addPart_128
noncomputable def sX1_addPart_126 : List UInt8 := 4 :: sX1_addPart_127
noncomputable def sX1_addPart_125 : List UInt8 := 46 :: sX1_addPart_126
noncomputable def sX1_addPart_124 : List UInt8 := 92 :: sX1_addPart_125
noncomputable def sX1_addPart_123 : List UInt8 := 27 :: sX1_addPart_124
noncomputable def sX1_addPart_120 : List UInt8 := 180 :: 0 :: 36 :: sX1_addPart_123
noncomputable def sX1_addPart_119 : List UInt8 := 42 :: sX1_addPart_120
noncomputable def sX1_addPart_118 : List UInt8 := 79 :: sX1_addPart_119
noncomputable def sX1_addPart_117 : List UInt8 := 128 :: sX1_addPart_118
noncomputable def sX1_addPart_116 : List UInt8 := 46 :: sX1_addPart_117
noncomputable def sX1_addPart_115 : List UInt8 := 27 :: sX1_addPart_116
noncomputable def sX1_addPart_112 : List UInt8 := 180 :: 0 :: 33 :: sX1_addPart_115
noncomputable def sX1_addPart_111 : List UInt8 := 42 :: sX1_addPart_112
noncomputable def sX1_addPart_110 : List UInt8 := 46 :: sX1_addPart_111
noncomputable def sX1_addPart_109 : List UInt8 := 92 :: sX1_addPart_110
noncomputable def sX1_addPart_106 : List UInt8 := 180 :: 0 :: 55 :: sX1_addPart_109
noncomputable def sX1_addPart_105 : List UInt8 := 42 :: sX1_addPart_106
noncomputable def sX1_addPart_102 : List UInt8 := 180 :: 0 :: 33 :: sX1_addPart_105
noncomputable def sX1_addPart_101 : List UInt8 := 42 :: sX1_addPart_102
noncomputable def sX1_addPart_100 : List UInt8 := 79 :: sX1_addPart_101
noncomputable def sX1_addPart_97 : List UInt8 := 184 :: 0 :: 78 :: sX1_addPart_100
noncomputable def sX1_addPart_96 : List UInt8 := 96 :: sX1_addPart_97
noncomputable def sX1_addPart_95 : List UInt8 := 4 :: sX1_addPart_96
noncomputable def sX1_addPart_94 : List UInt8 := 46 :: sX1_addPart_95
noncomputable def sX1_addPart_93 : List UInt8 := 27 :: sX1_addPart_94
noncomputable def sX1_addPart_90 : List UInt8 := 180 :: 0 :: 30 :: sX1_addPart_93
noncomputable def sX1_addPart_89 : List UInt8 := 42 :: sX1_addPart_90
noncomputable def sX1_addPart_88 : List UInt8 := 46 :: sX1_addPart_89
noncomputable def sX1_addPart_85 : List UInt8 := 180 :: 0 :: 55 :: sX1_addPart_88
noncomputable def sX1_addPart_84 : List UInt8 := 42 :: sX1_addPart_85
noncomputable def sX1_addPart_81 : List UInt8 := 180 :: 0 :: 30 :: sX1_addPart_84
noncomputable def sX1_addPart_80 : List UInt8 := 42 :: sX1_addPart_81
noncomputable def sX1_addPart_77 : List UInt8 := 180 :: 0 :: 55 :: sX1_addPart_80
noncomputable def sX1_addPart_76 : List UInt8 := 42 :: sX1_addPart_77
noncomputable def sX1_addPart_73 : List UInt8 := 180 :: 0 :: 30 :: sX1_addPart_76
noncomputable def sX1_addPart_72 : List UInt8 := 42 :: sX1_addPart_73
noncomputable def sX1_addPart_71 : List UInt8 := 79 :: sX1_addPart_72
noncomputable def sX1_addPart_70 : List UInt8 := 96 :: sX1_addPart_71
noncomputable def sX1_addPart_69 : List UInt8 := 28 :: sX1_addPart_70
noncomputable def sX1_addPart_68 : List UInt8 := 46 :: sX1_addPart_69
noncomputable def sX1_addPart_67 : List UInt8 := 92 :: sX1_addPart_68
noncomputable def sX1_addPart_64 : List UInt8 := 180 :: 0 :: 55 :: sX1_addPart_67
noncomputable def sX1_addPart_63 : List UInt8 := 42 :: sX1_addPart_64
noncomputable def sX1_addPart_60 : List UInt8 := 180 :: 0 :: 24 :: sX1_addPart_63
noncomputable def sX1_addPart_59 : List UInt8 := 42 :: sX1_addPart_60
noncomputable def sX1_addPart_58 : List UInt8 := 79 :: sX1_addPart_59
noncomputable def sX1_addPart_57 : List UInt8 := 96 :: sX1_addPart_58
noncomputable def sX1_addPart_56 : List UInt8 := 4 :: sX1_addPart_57
noncomputable def sX1_addPart_55 : List UInt8 := 46 :: sX1_addPart_56
noncomputable def sX1_addPart_54 : List UInt8 := 92 :: sX1_addPart_55
noncomputable def sX1_addPart_51 : List UInt8 := 180 :: 0 :: 55 :: sX1_addPart_54
noncomputable def sX1_addPart_50 : List UInt8 := 42 :: sX1_addPart_51
noncomputable def sX1_addPart_47 : List UInt8 := 180 :: 0 :: 15 :: sX1_addPart_50
noncomputable def sX1_addPart_46 : List UInt8 := 42 :: sX1_addPart_47
noncomputable def sX1_addPart_45 : List UInt8 := 79 :: sX1_addPart_46
noncomputable def sX1_addPart_44 : List UInt8 := 28 :: sX1_addPart_45
noncomputable def sX1_addPart_43 : List UInt8 := 29 :: sX1_addPart_44
noncomputable def sX1_addPart_40 : List UInt8 := 180 :: 0 :: 21 :: sX1_addPart_43
noncomputable def sX1_addPart_39 : List UInt8 := 42 :: sX1_addPart_40
noncomputable def sX1_addPart_38 : List UInt8 := 79 :: sX1_addPart_39
noncomputable def sX1_addPart_37 : List UInt8 := 27 :: sX1_addPart_38
noncomputable def sX1_addPart_36 : List UInt8 := 29 :: sX1_addPart_37
noncomputable def sX1_addPart_33 : List UInt8 := 180 :: 0 :: 18 :: sX1_addPart_36
noncomputable def sX1_addPart_32 : List UInt8 := 42 :: sX1_addPart_33
noncomputable def sX1_addPart_31 : List UInt8 := 62 :: sX1_addPart_32
noncomputable def sX1_addPart_30 : List UInt8 := 96 :: sX1_addPart_31
noncomputable def sX1_addPart_29 : List UInt8 := 46 :: sX1_addPart_30
noncomputable def sX1_addPart_26 : List UInt8 := 180 :: 0 :: 55 :: sX1_addPart_29
noncomputable def sX1_addPart_25 : List UInt8 := 42 :: sX1_addPart_26
noncomputable def sX1_addPart_22 : List UInt8 := 180 :: 0 :: 15 :: sX1_addPart_25
noncomputable def sX1_addPart_21 : List UInt8 := 42 :: sX1_addPart_22
noncomputable def sX1_addPart_20 : List UInt8 := 104 :: sX1_addPart_21
noncomputable def sX1_addPart_19 : List UInt8 := 7 :: sX1_addPart_20
noncomputable def sX1_addPart_16 : List UInt8 := 180 :: 0 :: 55 :: sX1_addPart_19
noncomputable def sX1_addPart_15 : List UInt8 := 42 :: sX1_addPart_16
noncomputable def sX1_addPart_12 : List UInt8 := 153 :: 0 :: 122 :: sX1_addPart_15
noncomputable def sX1_addPart_9 : List UInt8 := 182 :: 0 :: 70 :: sX1_addPart_12
noncomputable def sX1_addPart_8 : List UInt8 := 27 :: sX1_addPart_9
noncomputable def sX1_addPart_7 : List UInt8 := 42 :: sX1_addPart_8
noncomputable def sX1_addPart_4 : List UInt8 := 153 :: 0 :: 130 :: sX1_addPart_7
noncomputable def sX1_addPart_1 : List UInt8 := 182 :: 0 :: 74 :: sX1_addPart_4
noncomputable def sX1_addPart_0 : List UInt8 := 42 :: sX1_addPart_1
set_option maxRecDepth 100000 in
theorem hX1_addPart_0 : cX1_addPart.data.toList.drop 0 = sX1_addPart_0 := by decide +kernel
theorem dX1_addPart_0 : decode cX1_addPart 0 = .ok (.aload_n 0, 1) := dk42 hX1_addPart_0
theorem hX1_addPart_1 : cX1_addPart.data.toList.drop 1 = sX1_addPart_1 := dn1 hX1_addPart_0
theorem dX1_addPart_1 : decode cX1_addPart 1 = .ok (.invokevirtual 74, 3) := dk182 hX1_addPart_1 rfl
theorem hX1_addPart_4 : cX1_addPart.data.toList.drop 4 = sX1_addPart_4 := dn3 hX1_addPart_1
theorem dX1_addPart_4 : decode cX1_addPart 4 = .ok (.ifCond .eq 130, 3) := dk153 hX1_addPart_4 (by decide)
theorem hX1_addPart_7 : cX1_addPart.data.toList.drop 7 = sX1_addPart_7 := dn3 hX1_addPart_4
theorem dX1_addPart_7 : decode cX1_addPart 7 = .ok (.aload_n 0, 1) := dk42 hX1_addPart_7
theorem hX1_addPart_8 : cX1_addPart.data.toList.drop 8 = sX1_addPart_8 := dn1 hX1_addPart_7
theorem dX1_addPart_8 : decode cX1_addPart 8 = .ok (.iload_n 1, 1) := dk27 hX1_addPart_8
theorem hX1_addPart_9 : cX1_addPart.data.toList.drop 9 = sX1_addPart_9 := dn1 hX1_addPart_8
theorem dX1_addPart_9 : decode cX1_addPart 9 = .ok (.invokevirtual 70, 3) := dk182 hX1_addPart_9 rfl
theorem hX1_addPart_12 : cX1_addPart.data.toList.drop 12 = sX1_addPart_12 := dn3 hX1_addPart_9
theorem dX1_addPart_12 : decode cX1_addPart 12 = .ok (.ifCond .eq 122, 3) := dk153 hX1_addPart_12 (by decide)
theorem hX1_addPart_15 : cX1_addPart.data.toList.drop 15 = sX1_addPart_15 := dn3 hX1_addPart_12
theorem dX1_addPart_15 : decode cX1_addPart 15 = .ok (.aload_n 0, 1) := dk42 hX1_addPart_15
theorem hX1_addPart_16 : cX1_addPart.data.toList.drop 16 = sX1_addPart_16 := dn1 hX1_addPart_15
theorem dX1_addPart_16 : decode cX1_addPart 16 = .ok (.getfield 55, 3) := dk180 hX1_addPart_16 rfl
theorem hX1_addPart_19 : cX1_addPart.data.toList.drop 19 = sX1_addPart_19 := dn3 hX1_addPart_16
theorem dX1_addPart_19 : decode cX1_addPart 19 = .ok (.iconst 4, 1) := dk7 hX1_addPart_19
theorem hX1_addPart_20 : cX1_addPart.data.toList.drop 20 = sX1_addPart_20 := dn1 hX1_addPart_19
theorem dX1_addPart_20 : decode cX1_addPart 20 = .ok (.imul, 1) := dk104 hX1_addPart_20
theorem hX1_addPart_21 : cX1_addPart.data.toList.drop 21 = sX1_addPart_21 := dn1 hX1_addPart_20
theorem dX1_addPart_21 : decode cX1_addPart 21 = .ok (.aload_n 0, 1) := dk42 hX1_addPart_21
theorem hX1_addPart_22 : cX1_addPart.data.toList.drop 22 = sX1_addPart_22 := dn1 hX1_addPart_21
theorem dX1_addPart_22 : decode cX1_addPart 22 = .ok (.getfield 15, 3) := dk180 hX1_addPart_22 rfl
theorem hX1_addPart_25 : cX1_addPart.data.toList.drop 25 = sX1_addPart_25 := dn3 hX1_addPart_22
theorem dX1_addPart_25 : decode cX1_addPart 25 = .ok (.aload_n 0, 1) := dk42 hX1_addPart_25
theorem hX1_addPart_26 : cX1_addPart.data.toList.drop 26 = sX1_addPart_26 := dn1 hX1_addPart_25
theorem dX1_addPart_26 : decode cX1_addPart 26 = .ok (.getfield 55, 3) := dk180 hX1_addPart_26 rfl
theorem hX1_addPart_29 : cX1_addPart.data.toList.drop 29 = sX1_addPart_29 := dn3 hX1_addPart_26
theorem dX1_addPart_29 : decode cX1_addPart 29 = .ok (.iaload, 1) := dk46 hX1_addPart_29
theorem hX1_addPart_30 : cX1_addPart.data.toList.drop 30 = sX1_addPart_30 := dn1 hX1_addPart_29
theorem dX1_addPart_30 : decode cX1_addPart 30 = .ok (.iadd, 1) := dk96 hX1_addPart_30
theorem hX1_addPart_31 : cX1_addPart.data.toList.drop 31 = sX1_addPart_31 := dn1 hX1_addPart_30
theorem dX1_addPart_31 : decode cX1_addPart 31 = .ok (.istore_n 3, 1) := dk62 hX1_addPart_31
theorem hX1_addPart_32 : cX1_addPart.data.toList.drop 32 = sX1_addPart_32 := dn1 hX1_addPart_31
theorem dX1_addPart_32 : decode cX1_addPart 32 = .ok (.aload_n 0, 1) := dk42 hX1_addPart_32
theorem hX1_addPart_33 : cX1_addPart.data.toList.drop 33 = sX1_addPart_33 := dn1 hX1_addPart_32
theorem dX1_addPart_33 : decode cX1_addPart 33 = .ok (.getfield 18, 3) := dk180 hX1_addPart_33 rfl
theorem hX1_addPart_36 : cX1_addPart.data.toList.drop 36 = sX1_addPart_36 := dn3 hX1_addPart_33
theorem dX1_addPart_36 : decode cX1_addPart 36 = .ok (.iload_n 3, 1) := dk29 hX1_addPart_36
theorem hX1_addPart_37 : cX1_addPart.data.toList.drop 37 = sX1_addPart_37 := dn1 hX1_addPart_36
theorem dX1_addPart_37 : decode cX1_addPart 37 = .ok (.iload_n 1, 1) := dk27 hX1_addPart_37
theorem hX1_addPart_38 : cX1_addPart.data.toList.drop 38 = sX1_addPart_38 := dn1 hX1_addPart_37
theorem dX1_addPart_38 : decode cX1_addPart 38 = .ok (.iastore, 1) := dk79 hX1_addPart_38
theorem hX1_addPart_39 : cX1_addPart.data.toList.drop 39 = sX1_addPart_39 := dn1 hX1_addPart_38
theorem dX1_addPart_39 : decode cX1_addPart 39 = .ok (.aload_n 0, 1) := dk42 hX1_addPart_39
theorem hX1_addPart_40 : cX1_addPart.data.toList.drop 40 = sX1_addPart_40 := dn1 hX1_addPart_39
theorem dX1_addPart_40 : decode cX1_addPart 40 = .ok (.getfield 21, 3) := dk180 hX1_addPart_40 rfl
theorem hX1_addPart_43 : cX1_addPart.data.toList.drop 43 = sX1_addPart_43 := dn3 hX1_addPart_40
theorem dX1_addPart_43 : decode cX1_addPart 43 = .ok (.iload_n 3, 1) := dk29 hX1_addPart_43
theorem hX1_addPart_44 : cX1_addPart.data.toList.drop 44 = sX1_addPart_44 := dn1 hX1_addPart_43
theorem dX1_addPart_44 : decode cX1_addPart 44 = .ok (.iload_n 2, 1) := dk28 hX1_addPart_44
theorem hX1_addPart_45 : cX1_addPart.data.toList.drop 45 = sX1_addPart_45 := dn1 hX1_addPart_44
theorem dX1_addPart_45 : decode cX1_addPart 45 = .ok (.iastore, 1) := dk79 hX1_addPart_45
theorem hX1_addPart_46 : cX1_addPart.data.toList.drop 46 = sX1_addPart_46 := dn1 hX1_addPart_45
theorem dX1_addPart_46 : decode cX1_addPart 46 = .ok (.aload_n 0, 1) := dk42 hX1_addPart_46
theorem hX1_addPart_47 : cX1_addPart.data.toList.drop 47 = sX1_addPart_47 := dn1 hX1_addPart_46
theorem dX1_addPart_47 : decode cX1_addPart 47 = .ok (.getfield 15, 3) := dk180 hX1_addPart_47 rfl
theorem hX1_addPart_50 : cX1_addPart.data.toList.drop 50 = sX1_addPart_50 := dn3 hX1_addPart_47
theorem dX1_addPart_50 : decode cX1_addPart 50 = .ok (.aload_n 0, 1) := dk42 hX1_addPart_50
theorem hX1_addPart_51 : cX1_addPart.data.toList.drop 51 = sX1_addPart_51 := dn1 hX1_addPart_50
theorem dX1_addPart_51 : decode cX1_addPart 51 = .ok (.getfield 55, 3) := dk180 hX1_addPart_51 rfl
theorem hX1_addPart_54 : cX1_addPart.data.toList.drop 54 = sX1_addPart_54 := dn3 hX1_addPart_51
theorem dX1_addPart_54 : decode cX1_addPart 54 = .ok (.dup2, 1) := dk92 hX1_addPart_54
theorem hX1_addPart_55 : cX1_addPart.data.toList.drop 55 = sX1_addPart_55 := dn1 hX1_addPart_54
theorem dX1_addPart_55 : decode cX1_addPart 55 = .ok (.iaload, 1) := dk46 hX1_addPart_55
theorem hX1_addPart_56 : cX1_addPart.data.toList.drop 56 = sX1_addPart_56 := dn1 hX1_addPart_55
theorem dX1_addPart_56 : decode cX1_addPart 56 = .ok (.iconst 1, 1) := dk4 hX1_addPart_56
theorem hX1_addPart_57 : cX1_addPart.data.toList.drop 57 = sX1_addPart_57 := dn1 hX1_addPart_56
theorem dX1_addPart_57 : decode cX1_addPart 57 = .ok (.iadd, 1) := dk96 hX1_addPart_57
theorem hX1_addPart_58 : cX1_addPart.data.toList.drop 58 = sX1_addPart_58 := dn1 hX1_addPart_57
theorem dX1_addPart_58 : decode cX1_addPart 58 = .ok (.iastore, 1) := dk79 hX1_addPart_58
theorem hX1_addPart_59 : cX1_addPart.data.toList.drop 59 = sX1_addPart_59 := dn1 hX1_addPart_58
theorem dX1_addPart_59 : decode cX1_addPart 59 = .ok (.aload_n 0, 1) := dk42 hX1_addPart_59
theorem hX1_addPart_60 : cX1_addPart.data.toList.drop 60 = sX1_addPart_60 := dn1 hX1_addPart_59
theorem dX1_addPart_60 : decode cX1_addPart 60 = .ok (.getfield 24, 3) := dk180 hX1_addPart_60 rfl
theorem hX1_addPart_63 : cX1_addPart.data.toList.drop 63 = sX1_addPart_63 := dn3 hX1_addPart_60
theorem dX1_addPart_63 : decode cX1_addPart 63 = .ok (.aload_n 0, 1) := dk42 hX1_addPart_63
theorem hX1_addPart_64 : cX1_addPart.data.toList.drop 64 = sX1_addPart_64 := dn1 hX1_addPart_63
theorem dX1_addPart_64 : decode cX1_addPart 64 = .ok (.getfield 55, 3) := dk180 hX1_addPart_64 rfl
theorem hX1_addPart_67 : cX1_addPart.data.toList.drop 67 = sX1_addPart_67 := dn3 hX1_addPart_64
theorem dX1_addPart_67 : decode cX1_addPart 67 = .ok (.dup2, 1) := dk92 hX1_addPart_67
theorem hX1_addPart_68 : cX1_addPart.data.toList.drop 68 = sX1_addPart_68 := dn1 hX1_addPart_67
theorem dX1_addPart_68 : decode cX1_addPart 68 = .ok (.iaload, 1) := dk46 hX1_addPart_68
theorem hX1_addPart_69 : cX1_addPart.data.toList.drop 69 = sX1_addPart_69 := dn1 hX1_addPart_68
theorem dX1_addPart_69 : decode cX1_addPart 69 = .ok (.iload_n 2, 1) := dk28 hX1_addPart_69
theorem hX1_addPart_70 : cX1_addPart.data.toList.drop 70 = sX1_addPart_70 := dn1 hX1_addPart_69
theorem dX1_addPart_70 : decode cX1_addPart 70 = .ok (.iadd, 1) := dk96 hX1_addPart_70
theorem hX1_addPart_71 : cX1_addPart.data.toList.drop 71 = sX1_addPart_71 := dn1 hX1_addPart_70
theorem dX1_addPart_71 : decode cX1_addPart 71 = .ok (.iastore, 1) := dk79 hX1_addPart_71
theorem hX1_addPart_72 : cX1_addPart.data.toList.drop 72 = sX1_addPart_72 := dn1 hX1_addPart_71
theorem dX1_addPart_72 : decode cX1_addPart 72 = .ok (.aload_n 0, 1) := dk42 hX1_addPart_72
theorem hX1_addPart_73 : cX1_addPart.data.toList.drop 73 = sX1_addPart_73 := dn1 hX1_addPart_72
theorem dX1_addPart_73 : decode cX1_addPart 73 = .ok (.getfield 30, 3) := dk180 hX1_addPart_73 rfl
theorem hX1_addPart_76 : cX1_addPart.data.toList.drop 76 = sX1_addPart_76 := dn3 hX1_addPart_73
theorem dX1_addPart_76 : decode cX1_addPart 76 = .ok (.aload_n 0, 1) := dk42 hX1_addPart_76
theorem hX1_addPart_77 : cX1_addPart.data.toList.drop 77 = sX1_addPart_77 := dn1 hX1_addPart_76
theorem dX1_addPart_77 : decode cX1_addPart 77 = .ok (.getfield 55, 3) := dk180 hX1_addPart_77 rfl
theorem hX1_addPart_80 : cX1_addPart.data.toList.drop 80 = sX1_addPart_80 := dn3 hX1_addPart_77
theorem dX1_addPart_80 : decode cX1_addPart 80 = .ok (.aload_n 0, 1) := dk42 hX1_addPart_80
theorem hX1_addPart_81 : cX1_addPart.data.toList.drop 81 = sX1_addPart_81 := dn1 hX1_addPart_80
theorem dX1_addPart_81 : decode cX1_addPart 81 = .ok (.getfield 30, 3) := dk180 hX1_addPart_81 rfl
theorem hX1_addPart_84 : cX1_addPart.data.toList.drop 84 = sX1_addPart_84 := dn3 hX1_addPart_81
theorem dX1_addPart_84 : decode cX1_addPart 84 = .ok (.aload_n 0, 1) := dk42 hX1_addPart_84
theorem hX1_addPart_85 : cX1_addPart.data.toList.drop 85 = sX1_addPart_85 := dn1 hX1_addPart_84
theorem dX1_addPart_85 : decode cX1_addPart 85 = .ok (.getfield 55, 3) := dk180 hX1_addPart_85 rfl
theorem hX1_addPart_88 : cX1_addPart.data.toList.drop 88 = sX1_addPart_88 := dn3 hX1_addPart_85
theorem dX1_addPart_88 : decode cX1_addPart 88 = .ok (.iaload, 1) := dk46 hX1_addPart_88
theorem hX1_addPart_89 : cX1_addPart.data.toList.drop 89 = sX1_addPart_89 := dn1 hX1_addPart_88
theorem dX1_addPart_89 : decode cX1_addPart 89 = .ok (.aload_n 0, 1) := dk42 hX1_addPart_89
theorem hX1_addPart_90 : cX1_addPart.data.toList.drop 90 = sX1_addPart_90 := dn1 hX1_addPart_89
theorem dX1_addPart_90 : decode cX1_addPart 90 = .ok (.getfield 30, 3) := dk180 hX1_addPart_90 rfl
theorem hX1_addPart_93 : cX1_addPart.data.toList.drop 93 = sX1_addPart_93 := dn3 hX1_addPart_90
theorem dX1_addPart_93 : decode cX1_addPart 93 = .ok (.iload_n 1, 1) := dk27 hX1_addPart_93
theorem hX1_addPart_94 : cX1_addPart.data.toList.drop 94 = sX1_addPart_94 := dn1 hX1_addPart_93
theorem dX1_addPart_94 : decode cX1_addPart 94 = .ok (.iaload, 1) := dk46 hX1_addPart_94
theorem hX1_addPart_95 : cX1_addPart.data.toList.drop 95 = sX1_addPart_95 := dn1 hX1_addPart_94
theorem dX1_addPart_95 : decode cX1_addPart 95 = .ok (.iconst 1, 1) := dk4 hX1_addPart_95
theorem hX1_addPart_96 : cX1_addPart.data.toList.drop 96 = sX1_addPart_96 := dn1 hX1_addPart_95
theorem dX1_addPart_96 : decode cX1_addPart 96 = .ok (.iadd, 1) := dk96 hX1_addPart_96
theorem hX1_addPart_97 : cX1_addPart.data.toList.drop 97 = sX1_addPart_97 := dn1 hX1_addPart_96
theorem dX1_addPart_97 : decode cX1_addPart 97 = .ok (.invokestatic 78, 3) := dk184 hX1_addPart_97 rfl
theorem hX1_addPart_100 : cX1_addPart.data.toList.drop 100 = sX1_addPart_100 := dn3 hX1_addPart_97
theorem dX1_addPart_100 : decode cX1_addPart 100 = .ok (.iastore, 1) := dk79 hX1_addPart_100
theorem hX1_addPart_101 : cX1_addPart.data.toList.drop 101 = sX1_addPart_101 := dn1 hX1_addPart_100
theorem dX1_addPart_101 : decode cX1_addPart 101 = .ok (.aload_n 0, 1) := dk42 hX1_addPart_101
theorem hX1_addPart_102 : cX1_addPart.data.toList.drop 102 = sX1_addPart_102 := dn1 hX1_addPart_101
theorem dX1_addPart_102 : decode cX1_addPart 102 = .ok (.getfield 33, 3) := dk180 hX1_addPart_102 rfl
theorem hX1_addPart_105 : cX1_addPart.data.toList.drop 105 = sX1_addPart_105 := dn3 hX1_addPart_102
theorem dX1_addPart_105 : decode cX1_addPart 105 = .ok (.aload_n 0, 1) := dk42 hX1_addPart_105
theorem hX1_addPart_106 : cX1_addPart.data.toList.drop 106 = sX1_addPart_106 := dn1 hX1_addPart_105
theorem dX1_addPart_106 : decode cX1_addPart 106 = .ok (.getfield 55, 3) := dk180 hX1_addPart_106 rfl
theorem hX1_addPart_109 : cX1_addPart.data.toList.drop 109 = sX1_addPart_109 := dn3 hX1_addPart_106
theorem dX1_addPart_109 : decode cX1_addPart 109 = .ok (.dup2, 1) := dk92 hX1_addPart_109
theorem hX1_addPart_110 : cX1_addPart.data.toList.drop 110 = sX1_addPart_110 := dn1 hX1_addPart_109
theorem dX1_addPart_110 : decode cX1_addPart 110 = .ok (.iaload, 1) := dk46 hX1_addPart_110
theorem hX1_addPart_111 : cX1_addPart.data.toList.drop 111 = sX1_addPart_111 := dn1 hX1_addPart_110
theorem dX1_addPart_111 : decode cX1_addPart 111 = .ok (.aload_n 0, 1) := dk42 hX1_addPart_111
theorem hX1_addPart_112 : cX1_addPart.data.toList.drop 112 = sX1_addPart_112 := dn1 hX1_addPart_111
theorem dX1_addPart_112 : decode cX1_addPart 112 = .ok (.getfield 33, 3) := dk180 hX1_addPart_112 rfl
theorem hX1_addPart_115 : cX1_addPart.data.toList.drop 115 = sX1_addPart_115 := dn3 hX1_addPart_112
theorem dX1_addPart_115 : decode cX1_addPart 115 = .ok (.iload_n 1, 1) := dk27 hX1_addPart_115
theorem hX1_addPart_116 : cX1_addPart.data.toList.drop 116 = sX1_addPart_116 := dn1 hX1_addPart_115
theorem dX1_addPart_116 : decode cX1_addPart 116 = .ok (.iaload, 1) := dk46 hX1_addPart_116
theorem hX1_addPart_117 : cX1_addPart.data.toList.drop 117 = sX1_addPart_117 := dn1 hX1_addPart_116
theorem dX1_addPart_117 : decode cX1_addPart 117 = .ok (.ior, 1) := dk128 hX1_addPart_117
theorem hX1_addPart_118 : cX1_addPart.data.toList.drop 118 = sX1_addPart_118 := dn1 hX1_addPart_117
theorem dX1_addPart_118 : decode cX1_addPart 118 = .ok (.iastore, 1) := dk79 hX1_addPart_118
theorem hX1_addPart_119 : cX1_addPart.data.toList.drop 119 = sX1_addPart_119 := dn1 hX1_addPart_118
theorem dX1_addPart_119 : decode cX1_addPart 119 = .ok (.aload_n 0, 1) := dk42 hX1_addPart_119
theorem hX1_addPart_120 : cX1_addPart.data.toList.drop 120 = sX1_addPart_120 := dn1 hX1_addPart_119
theorem dX1_addPart_120 : decode cX1_addPart 120 = .ok (.getfield 36, 3) := dk180 hX1_addPart_120 rfl
theorem hX1_addPart_123 : cX1_addPart.data.toList.drop 123 = sX1_addPart_123 := dn3 hX1_addPart_120
theorem dX1_addPart_123 : decode cX1_addPart 123 = .ok (.iload_n 1, 1) := dk27 hX1_addPart_123
theorem hX1_addPart_124 : cX1_addPart.data.toList.drop 124 = sX1_addPart_124 := dn1 hX1_addPart_123
theorem dX1_addPart_124 : decode cX1_addPart 124 = .ok (.dup2, 1) := dk92 hX1_addPart_124
theorem hX1_addPart_125 : cX1_addPart.data.toList.drop 125 = sX1_addPart_125 := dn1 hX1_addPart_124
theorem dX1_addPart_125 : decode cX1_addPart 125 = .ok (.iaload, 1) := dk46 hX1_addPart_125
theorem hX1_addPart_126 : cX1_addPart.data.toList.drop 126 = sX1_addPart_126 := dn1 hX1_addPart_125
theorem dX1_addPart_126 : decode cX1_addPart 126 = .ok (.iconst 1, 1) := dk4 hX1_addPart_126
theorem hX1_addPart_127 : cX1_addPart.data.toList.drop 127 = sX1_addPart_127 := dn1 hX1_addPart_126
theorem dX1_addPart_127 : decode cX1_addPart 127 = .ok (.aload_n 0, 1) := dk42 hX1_addPart_127
theorem hX1_addPart_128 : cX1_addPart.data.toList.drop 128 = sX1_addPart_128 := dn1 hX1_addPart_127
theorem dX1_addPart_128 : decode cX1_addPart 128 = .ok (.getfield 55, 3) := dk180 hX1_addPart_128 rfl
theorem hX1_addPart_131 : cX1_addPart.data.toList.drop 131 = sX1_addPart_131 := dn3 hX1_addPart_128
theorem dX1_addPart_131 : decode cX1_addPart 131 = .ok (.ishl, 1) := dk120 hX1_addPart_131
theorem hX1_addPart_132 : cX1_addPart.data.toList.drop 132 = sX1_addPart_132 := dn1 hX1_addPart_131
theorem dX1_addPart_132 : decode cX1_addPart 132 = .ok (.ior, 1) := dk128 hX1_addPart_132
theorem hX1_addPart_133 : cX1_addPart.data.toList.drop 133 = sX1_addPart_133 := dn1 hX1_addPart_132
theorem dX1_addPart_133 : decode cX1_addPart 133 = .ok (.iastore, 1) := dk79 hX1_addPart_133
theorem hX1_addPart_134 : cX1_addPart.data.toList.drop 134 = sX1_addPart_134 := dn1 hX1_addPart_133
theorem dX1_addPart_134 : decode cX1_addPart 134 = .ok (.return_, 1) := dk177 hX1_addPart_134
noncomputable def sX1_addUnsure_38 : List UInt8 := 177 :: []
noncomputable def sX1_addUnsure_35 : List UInt8 := 181 :: 0 :: 64 :: sX1_addUnsure_38
noncomputable def sX1_addUnsure_34 : List UInt8 := 96 :: sX1_addUnsure_35
noncomputable def sX1_addUnsure_33 : List UInt8 := 4 :: sX1_addUnsure_34
noncomputable def sX1_addUnsure_30 : List UInt8 := 180 :: 0 :: 64 :: sX1_addUnsure_33
noncomputable def sX1_addUnsure_29 : List UInt8 := 89 :: sX1_addUnsure_30
noncomputable def sX1_addUnsure_28 : List UInt8 := 42 :: sX1_addUnsure_29
noncomputable def sX1_addUnsure_27 : List UInt8 := 79 :: sX1_addUnsure_28
noncomputable def sX1_addUnsure_26 : List UInt8 := 28 :: sX1_addUnsure_27
noncomputable def sX1_addUnsure_23 : List UInt8 := 180 :: 0 :: 64 :: sX1_addUnsure_26
noncomputable def sX1_addUnsure_22 : List UInt8 := 42 :: sX1_addUnsure_23
noncomputable def sX1_addUnsure_19 : List UInt8 := 180 :: 0 :: 42 :: sX1_addUnsure_22
noncomputable def sX1_addUnsure_18 : List UInt8 := 42 :: sX1_addUnsure_19
noncomputable def sX1_addUnsure_17 : List UInt8 := 79 :: sX1_addUnsure_18
noncomputable def sX1_addUnsure_16 : List UInt8 := 27 :: sX1_addUnsure_17
noncomputable def sX1_addUnsure_13 : List UInt8 := 180 :: 0 :: 64 :: sX1_addUnsure_16
noncomputable def sX1_addUnsure_12 : List UInt8 := 42 :: sX1_addUnsure_13
noncomputable def sX1_addUnsure_9 : List UInt8 := 180 :: 0 :: 39 :: sX1_addUnsure_12
noncomputable def sX1_addUnsure_8 : List UInt8 := 42 :: sX1_addUnsure_9
noncomputable def sX1_addUnsure_5 : List UInt8 := 162 :: 0 :: 33 :: sX1_addUnsure_8
noncomputable def sX1_addUnsure_4 : List UInt8 := 7 :: sX1_addUnsure_5
noncomputable def sX1_addUnsure_1 : List UInt8 := 180 :: 0 :: 64 :: sX1_addUnsure_4
noncomputable def sX1_addUnsure_0 : List UInt8 := 42 :: sX1_addUnsure_1
set_option maxRecDepth 100000 in
theorem hX1_addUnsure_0 : cX1_addUnsure.data.toList.drop 0 = sX1_addUnsure_0 := by decide +kernel
theorem dX1_addUnsure_0 : decode cX1_addUnsure 0 = .ok (.aload_n 0, 1) := dk42 hX1_addUnsure_0
theorem hX1_addUnsure_1 : cX1_addUnsure.data.toList.drop 1 = sX1_addUnsure_1 := dn1 hX1_addUnsure_0
theorem dX1_addUnsure_1 : decode cX1_addUnsure 1 = .ok (.getfield 64, 3) := dk180 hX1_addUnsure_1 rfl
theorem hX1_addUnsure_4 : cX1_addUnsure.data.toList.drop 4 = sX1_addUnsure_4 := dn3 hX1_addUnsure_1
theorem dX1_addUnsure_4 : decode cX1_addUnsure 4 = .ok (.iconst 4, 1) := dk7 hX1_addUnsure_4
theorem hX1_addUnsure_5 : cX1_addUnsure.data.toList.drop 5 = sX1_addUnsure_5 := dn1 hX1_addUnsure_4
theorem dX1_addUnsure_5 : decode cX1_addUnsure 5 = .ok (.if_icmp .ge 33, 3) := dk162 hX1_addUnsure_5 (by decide)
theorem hX1_addUnsure_8 : cX1_addUnsure.data.toList.drop 8 = sX1_addUnsure_8 := dn3 hX1_addUnsure_5
theorem dX1_addUnsure_8 : decode cX1_addUnsure 8 = .ok (.aload_n 0, 1) := dk42 hX1_addUnsure_8
theorem hX1_addUnsure_9 : cX1_addUnsure.data.toList.drop 9 = sX1_addUnsure_9 := dn1 hX1_addUnsure_8
theorem dX1_addUnsure_9 : decode cX1_addUnsure 9 = .ok (.getfield 39, 3) := dk180 hX1_addUnsure_9 rfl
theorem hX1_addUnsure_12 : cX1_addUnsure.data.toList.drop 12 = sX1_addUnsure_12 := dn3 hX1_addUnsure_9
theorem dX1_addUnsure_12 : decode cX1_addUnsure 12 = .ok (.aload_n 0, 1) := dk42 hX1_addUnsure_12
theorem hX1_addUnsure_13 : cX1_addUnsure.data.toList.drop 13 = sX1_addUnsure_13 := dn1 hX1_addUnsure_12
theorem dX1_addUnsure_13 : decode cX1_addUnsure 13 = .ok (.getfield 64, 3) := dk180 hX1_addUnsure_13 rfl
theorem hX1_addUnsure_16 : cX1_addUnsure.data.toList.drop 16 = sX1_addUnsure_16 := dn3 hX1_addUnsure_13
theorem dX1_addUnsure_16 : decode cX1_addUnsure 16 = .ok (.iload_n 1, 1) := dk27 hX1_addUnsure_16
theorem hX1_addUnsure_17 : cX1_addUnsure.data.toList.drop 17 = sX1_addUnsure_17 := dn1 hX1_addUnsure_16
theorem dX1_addUnsure_17 : decode cX1_addUnsure 17 = .ok (.iastore, 1) := dk79 hX1_addUnsure_17
theorem hX1_addUnsure_18 : cX1_addUnsure.data.toList.drop 18 = sX1_addUnsure_18 := dn1 hX1_addUnsure_17
theorem dX1_addUnsure_18 : decode cX1_addUnsure 18 = .ok (.aload_n 0, 1) := dk42 hX1_addUnsure_18
theorem hX1_addUnsure_19 : cX1_addUnsure.data.toList.drop 19 = sX1_addUnsure_19 := dn1 hX1_addUnsure_18
theorem dX1_addUnsure_19 : decode cX1_addUnsure 19 = .ok (.getfield 42, 3) := dk180 hX1_addUnsure_19 rfl
theorem hX1_addUnsure_22 : cX1_addUnsure.data.toList.drop 22 = sX1_addUnsure_22 := dn3 hX1_addUnsure_19
theorem dX1_addUnsure_22 : decode cX1_addUnsure 22 = .ok (.aload_n 0, 1) := dk42 hX1_addUnsure_22
theorem hX1_addUnsure_23 : cX1_addUnsure.data.toList.drop 23 = sX1_addUnsure_23 := dn1 hX1_addUnsure_22
theorem dX1_addUnsure_23 : decode cX1_addUnsure 23 = .ok (.getfield 64, 3) := dk180 hX1_addUnsure_23 rfl
theorem hX1_addUnsure_26 : cX1_addUnsure.data.toList.drop 26 = sX1_addUnsure_26 := dn3 hX1_addUnsure_23
theorem dX1_addUnsure_26 : decode cX1_addUnsure 26 = .ok (.iload_n 2, 1) := dk28 hX1_addUnsure_26
theorem hX1_addUnsure_27 : cX1_addUnsure.data.toList.drop 27 = sX1_addUnsure_27 := dn1 hX1_addUnsure_26
theorem dX1_addUnsure_27 : decode cX1_addUnsure 27 = .ok (.iastore, 1) := dk79 hX1_addUnsure_27
theorem hX1_addUnsure_28 : cX1_addUnsure.data.toList.drop 28 = sX1_addUnsure_28 := dn1 hX1_addUnsure_27
theorem dX1_addUnsure_28 : decode cX1_addUnsure 28 = .ok (.aload_n 0, 1) := dk42 hX1_addUnsure_28
theorem hX1_addUnsure_29 : cX1_addUnsure.data.toList.drop 29 = sX1_addUnsure_29 := dn1 hX1_addUnsure_28
theorem dX1_addUnsure_29 : decode cX1_addUnsure 29 = .ok (.dup, 1) := dk89 hX1_addUnsure_29
theorem hX1_addUnsure_30 : cX1_addUnsure.data.toList.drop 30 = sX1_addUnsure_30 := dn1 hX1_addUnsure_29
theorem dX1_addUnsure_30 : decode cX1_addUnsure 30 = .ok (.getfield 64, 3) := dk180 hX1_addUnsure_30 rfl
theorem hX1_addUnsure_33 : cX1_addUnsure.data.toList.drop 33 = sX1_addUnsure_33 := dn3 hX1_addUnsure_30
theorem dX1_addUnsure_33 : decode cX1_addUnsure 33 = .ok (.iconst 1, 1) := dk4 hX1_addUnsure_33
theorem hX1_addUnsure_34 : cX1_addUnsure.data.toList.drop 34 = sX1_addUnsure_34 := dn1 hX1_addUnsure_33
theorem dX1_addUnsure_34 : decode cX1_addUnsure 34 = .ok (.iadd, 1) := dk96 hX1_addUnsure_34
theorem hX1_addUnsure_35 : cX1_addUnsure.data.toList.drop 35 = sX1_addUnsure_35 := dn1 hX1_addUnsure_34
theorem dX1_addUnsure_35 : decode cX1_addUnsure 35 = .ok (.putfield 64, 3) := dk181 hX1_addUnsure_35 rfl
theorem hX1_addUnsure_38 : cX1_addUnsure.data.toList.drop 38 = sX1_addUnsure_38 := dn3 hX1_addUnsure_35
theorem dX1_addUnsure_38 : decode cX1_addUnsure 38 = .ok (.return_, 1) := dk177 hX1_addUnsure_38
noncomputable def sX1_allLikelihood_25 : List UInt8 := 173 :: []
noncomputable def sX1_allLikelihood_24 : List UInt8 := 31 :: sX1_allLikelihood_25
noncomputable def sX1_allLikelihood_21 : List UInt8 := 167 :: 255 :: 239 :: sX1_allLikelihood_24
noncomputable def sX1_allLikelihood_18 : List UInt8 := 132 :: 3 :: 1 :: sX1_allLikelihood_21
noncomputable def sX1_allLikelihood_17 : List UInt8 := 64 :: sX1_allLikelihood_18
noncomputable def sX1_allLikelihood_16 : List UInt8 := 105 :: sX1_allLikelihood_17
noncomputable def sX1_allLikelihood_13 : List UInt8 := 20 :: 0 :: 84 :: sX1_allLikelihood_16
noncomputable def sX1_allLikelihood_12 : List UInt8 := 31 :: sX1_allLikelihood_13
noncomputable def sX1_allLikelihood_9 : List UInt8 := 162 :: 0 :: 15 :: sX1_allLikelihood_12
noncomputable def sX1_allLikelihood_6 : List UInt8 := 180 :: 0 :: 64 :: sX1_allLikelihood_9
noncomputable def sX1_allLikelihood_5 : List UInt8 := 42 :: sX1_allLikelihood_6
noncomputable def sX1_allLikelihood_4 : List UInt8 := 29 :: sX1_allLikelihood_5
noncomputable def sX1_allLikelihood_3 : List UInt8 := 62 :: sX1_allLikelihood_4
noncomputable def sX1_allLikelihood_2 : List UInt8 := 3 :: sX1_allLikelihood_3
noncomputable def sX1_allLikelihood_1 : List UInt8 := 64 :: sX1_allLikelihood_2
noncomputable def sX1_allLikelihood_0 : List UInt8 := 10 :: sX1_allLikelihood_1
set_option maxRecDepth 100000 in
theorem hX1_allLikelihood_0 : cX1_allLikelihood.data.toList.drop 0 = sX1_allLikelihood_0 := by decide +kernel
theorem dX1_allLikelihood_0 : decode cX1_allLikelihood 0 = .ok (.lconst 1, 1) := dk10 hX1_allLikelihood_0
theorem hX1_allLikelihood_1 : cX1_allLikelihood.data.toList.drop 1 = sX1_allLikelihood_1 := dn1 hX1_allLikelihood_0
theorem dX1_allLikelihood_1 : decode cX1_allLikelihood 1 = .ok (.lstore_n 1, 1) := dk64 hX1_allLikelihood_1
theorem hX1_allLikelihood_2 : cX1_allLikelihood.data.toList.drop 2 = sX1_allLikelihood_2 := dn1 hX1_allLikelihood_1
theorem dX1_allLikelihood_2 : decode cX1_allLikelihood 2 = .ok (.iconst 0, 1) := dk3 hX1_allLikelihood_2
theorem hX1_allLikelihood_3 : cX1_allLikelihood.data.toList.drop 3 = sX1_allLikelihood_3 := dn1 hX1_allLikelihood_2
theorem dX1_allLikelihood_3 : decode cX1_allLikelihood 3 = .ok (.istore_n 3, 1) := dk62 hX1_allLikelihood_3
theorem hX1_allLikelihood_4 : cX1_allLikelihood.data.toList.drop 4 = sX1_allLikelihood_4 := dn1 hX1_allLikelihood_3
theorem dX1_allLikelihood_4 : decode cX1_allLikelihood 4 = .ok (.iload_n 3, 1) := dk29 hX1_allLikelihood_4
theorem hX1_allLikelihood_5 : cX1_allLikelihood.data.toList.drop 5 = sX1_allLikelihood_5 := dn1 hX1_allLikelihood_4
theorem dX1_allLikelihood_5 : decode cX1_allLikelihood 5 = .ok (.aload_n 0, 1) := dk42 hX1_allLikelihood_5
theorem hX1_allLikelihood_6 : cX1_allLikelihood.data.toList.drop 6 = sX1_allLikelihood_6 := dn1 hX1_allLikelihood_5
theorem dX1_allLikelihood_6 : decode cX1_allLikelihood 6 = .ok (.getfield 64, 3) := dk180 hX1_allLikelihood_6 rfl
theorem hX1_allLikelihood_9 : cX1_allLikelihood.data.toList.drop 9 = sX1_allLikelihood_9 := dn3 hX1_allLikelihood_6
theorem dX1_allLikelihood_9 : decode cX1_allLikelihood 9 = .ok (.if_icmp .ge 15, 3) := dk162 hX1_allLikelihood_9 (by decide)
theorem hX1_allLikelihood_12 : cX1_allLikelihood.data.toList.drop 12 = sX1_allLikelihood_12 := dn3 hX1_allLikelihood_9
theorem dX1_allLikelihood_12 : decode cX1_allLikelihood 12 = .ok (.lload_n 1, 1) := dk31 hX1_allLikelihood_12
theorem hX1_allLikelihood_13 : cX1_allLikelihood.data.toList.drop 13 = sX1_allLikelihood_13 := dn1 hX1_allLikelihood_12
theorem dX1_allLikelihood_13 : decode cX1_allLikelihood 13 = .ok (.ldc2_w 84, 3) := dk20 hX1_allLikelihood_13 rfl
theorem hX1_allLikelihood_16 : cX1_allLikelihood.data.toList.drop 16 = sX1_allLikelihood_16 := dn3 hX1_allLikelihood_13
theorem dX1_allLikelihood_16 : decode cX1_allLikelihood 16 = .ok (.lmul, 1) := dk105 hX1_allLikelihood_16
theorem hX1_allLikelihood_17 : cX1_allLikelihood.data.toList.drop 17 = sX1_allLikelihood_17 := dn1 hX1_allLikelihood_16
theorem dX1_allLikelihood_17 : decode cX1_allLikelihood 17 = .ok (.lstore_n 1, 1) := dk64 hX1_allLikelihood_17
theorem hX1_allLikelihood_18 : cX1_allLikelihood.data.toList.drop 18 = sX1_allLikelihood_18 := dn1 hX1_allLikelihood_17
theorem dX1_allLikelihood_18 : decode cX1_allLikelihood 18 = .ok (.iinc 3 1, 3) := dk132 hX1_allLikelihood_18 rfl (by decide)
theorem hX1_allLikelihood_21 : cX1_allLikelihood.data.toList.drop 21 = sX1_allLikelihood_21 := dn3 hX1_allLikelihood_18
theorem dX1_allLikelihood_21 : decode cX1_allLikelihood 21 = .ok (.goto (-17), 3) := dk167 hX1_allLikelihood_21 (by decide)
theorem hX1_allLikelihood_24 : cX1_allLikelihood.data.toList.drop 24 = sX1_allLikelihood_24 := dn3 hX1_allLikelihood_21
theorem dX1_allLikelihood_24 : decode cX1_allLikelihood 24 = .ok (.lload_n 1, 1) := dk31 hX1_allLikelihood_24
theorem hX1_allLikelihood_25 : cX1_allLikelihood.data.toList.drop 25 = sX1_allLikelihood_25 := dn1 hX1_allLikelihood_24
theorem dX1_allLikelihood_25 : decode cX1_allLikelihood 25 = .ok (.lreturn, 1) := dk173 hX1_allLikelihood_25
noncomputable def sX1_beginNode_92 : List UInt8 := 177 :: []
noncomputable def sX1_beginNode_91 : List UInt8 := 79 :: sX1_beginNode_92
noncomputable def sX1_beginNode_90 : List UInt8 := 3 :: sX1_beginNode_91
noncomputable def sX1_beginNode_87 : List UInt8 := 180 :: 0 :: 55 :: sX1_beginNode_90
noncomputable def sX1_beginNode_86 : List UInt8 := 42 :: sX1_beginNode_87
noncomputable def sX1_beginNode_83 : List UInt8 := 180 :: 0 :: 36 :: sX1_beginNode_86
noncomputable def sX1_beginNode_82 : List UInt8 := 42 :: sX1_beginNode_83
noncomputable def sX1_beginNode_81 : List UInt8 := 79 :: sX1_beginNode_82
noncomputable def sX1_beginNode_80 : List UInt8 := 3 :: sX1_beginNode_81
noncomputable def sX1_beginNode_77 : List UInt8 := 167 :: 0 :: 4 :: sX1_beginNode_80
noncomputable def sX1_beginNode_76 : List UInt8 := 120 :: sX1_beginNode_77
noncomputable def sX1_beginNode_73 : List UInt8 := 180 :: 0 :: 55 :: sX1_beginNode_76
noncomputable def sX1_beginNode_72 : List UInt8 := 42 :: sX1_beginNode_73
noncomputable def sX1_beginNode_71 : List UInt8 := 4 :: sX1_beginNode_72
noncomputable def sX1_beginNode_68 : List UInt8 := 154 :: 0 :: 12 :: sX1_beginNode_71
noncomputable def sX1_beginNode_67 : List UInt8 := 27 :: sX1_beginNode_68
noncomputable def sX1_beginNode_64 : List UInt8 := 180 :: 0 :: 55 :: sX1_beginNode_67
noncomputable def sX1_beginNode_63 : List UInt8 := 42 :: sX1_beginNode_64
noncomputable def sX1_beginNode_60 : List UInt8 := 180 :: 0 :: 33 :: sX1_beginNode_63
noncomputable def sX1_beginNode_59 : List UInt8 := 42 :: sX1_beginNode_60
noncomputable def sX1_beginNode_58 : List UInt8 := 79 :: sX1_beginNode_59
noncomputable def sX1_beginNode_57 : List UInt8 := 3 :: sX1_beginNode_58
noncomputable def sX1_beginNode_54 : List UInt8 := 180 :: 0 :: 55 :: sX1_beginNode_57
noncomputable def sX1_beginNode_53 : List UInt8 := 42 :: sX1_beginNode_54
noncomputable def sX1_beginNode_50 : List UInt8 := 180 :: 0 :: 30 :: sX1_beginNode_53
noncomputable def sX1_beginNode_49 : List UInt8 := 42 :: sX1_beginNode_50
noncomputable def sX1_beginNode_48 : List UInt8 := 79 :: sX1_beginNode_49
noncomputable def sX1_beginNode_47 : List UInt8 := 3 :: sX1_beginNode_48
noncomputable def sX1_beginNode_44 : List UInt8 := 180 :: 0 :: 55 :: sX1_beginNode_47
noncomputable def sX1_beginNode_43 : List UInt8 := 42 :: sX1_beginNode_44
noncomputable def sX1_beginNode_40 : List UInt8 := 180 :: 0 :: 27 :: sX1_beginNode_43
noncomputable def sX1_beginNode_39 : List UInt8 := 42 :: sX1_beginNode_40
noncomputable def sX1_beginNode_38 : List UInt8 := 79 :: sX1_beginNode_39
noncomputable def sX1_beginNode_37 : List UInt8 := 3 :: sX1_beginNode_38
noncomputable def sX1_beginNode_34 : List UInt8 := 180 :: 0 :: 55 :: sX1_beginNode_37
noncomputable def sX1_beginNode_33 : List UInt8 := 42 :: sX1_beginNode_34
noncomputable def sX1_beginNode_30 : List UInt8 := 180 :: 0 :: 24 :: sX1_beginNode_33
noncomputable def sX1_beginNode_29 : List UInt8 := 42 :: sX1_beginNode_30
noncomputable def sX1_beginNode_28 : List UInt8 := 79 :: sX1_beginNode_29
noncomputable def sX1_beginNode_27 : List UInt8 := 3 :: sX1_beginNode_28
noncomputable def sX1_beginNode_24 : List UInt8 := 180 :: 0 :: 55 :: sX1_beginNode_27
noncomputable def sX1_beginNode_23 : List UInt8 := 42 :: sX1_beginNode_24
noncomputable def sX1_beginNode_20 : List UInt8 := 180 :: 0 :: 15 :: sX1_beginNode_23
noncomputable def sX1_beginNode_19 : List UInt8 := 42 :: sX1_beginNode_20
noncomputable def sX1_beginNode_18 : List UInt8 := 79 :: sX1_beginNode_19
noncomputable def sX1_beginNode_17 : List UInt8 := 27 :: sX1_beginNode_18
noncomputable def sX1_beginNode_14 : List UInt8 := 180 :: 0 :: 55 :: sX1_beginNode_17
noncomputable def sX1_beginNode_13 : List UInt8 := 42 :: sX1_beginNode_14
noncomputable def sX1_beginNode_10 : List UInt8 := 180 :: 0 :: 9 :: sX1_beginNode_13
noncomputable def sX1_beginNode_9 : List UInt8 := 42 :: sX1_beginNode_10
noncomputable def sX1_beginNode_6 : List UInt8 := 162 :: 0 :: 86 :: sX1_beginNode_9
noncomputable def sX1_beginNode_4 : List UInt8 := 16 :: 18 :: sX1_beginNode_6
noncomputable def sX1_beginNode_1 : List UInt8 := 180 :: 0 :: 55 :: sX1_beginNode_4
noncomputable def sX1_beginNode_0 : List UInt8 := 42 :: sX1_beginNode_1
set_option maxRecDepth 100000 in
theorem hX1_beginNode_0 : cX1_beginNode.data.toList.drop 0 = sX1_beginNode_0 := by decide +kernel
theorem dX1_beginNode_0 : decode cX1_beginNode 0 = .ok (.aload_n 0, 1) := dk42 hX1_beginNode_0
theorem hX1_beginNode_1 : cX1_beginNode.data.toList.drop 1 = sX1_beginNode_1 := dn1 hX1_beginNode_0
theorem dX1_beginNode_1 : decode cX1_beginNode 1 = .ok (.getfield 55, 3) := dk180 hX1_beginNode_1 rfl
theorem hX1_beginNode_4 : cX1_beginNode.data.toList.drop 4 = sX1_beginNode_4 := dn3 hX1_beginNode_1
theorem dX1_beginNode_4 : decode cX1_beginNode 4 = .ok (.bipush 18, 2) := dk16 hX1_beginNode_4 (by decide)
theorem hX1_beginNode_6 : cX1_beginNode.data.toList.drop 6 = sX1_beginNode_6 := dn2 hX1_beginNode_4
theorem dX1_beginNode_6 : decode cX1_beginNode 6 = .ok (.if_icmp .ge 86, 3) := dk162 hX1_beginNode_6 (by decide)
theorem hX1_beginNode_9 : cX1_beginNode.data.toList.drop 9 = sX1_beginNode_9 := dn3 hX1_beginNode_6
theorem dX1_beginNode_9 : decode cX1_beginNode 9 = .ok (.aload_n 0, 1) := dk42 hX1_beginNode_9
theorem hX1_beginNode_10 : cX1_beginNode.data.toList.drop 10 = sX1_beginNode_10 := dn1 hX1_beginNode_9
theorem dX1_beginNode_10 : decode cX1_beginNode 10 = .ok (.getfield 9, 3) := dk180 hX1_beginNode_10 rfl
theorem hX1_beginNode_13 : cX1_beginNode.data.toList.drop 13 = sX1_beginNode_13 := dn3 hX1_beginNode_10
theorem dX1_beginNode_13 : decode cX1_beginNode 13 = .ok (.aload_n 0, 1) := dk42 hX1_beginNode_13
theorem hX1_beginNode_14 : cX1_beginNode.data.toList.drop 14 = sX1_beginNode_14 := dn1 hX1_beginNode_13
theorem dX1_beginNode_14 : decode cX1_beginNode 14 = .ok (.getfield 55, 3) := dk180 hX1_beginNode_14 rfl
theorem hX1_beginNode_17 : cX1_beginNode.data.toList.drop 17 = sX1_beginNode_17 := dn3 hX1_beginNode_14
theorem dX1_beginNode_17 : decode cX1_beginNode 17 = .ok (.iload_n 1, 1) := dk27 hX1_beginNode_17
theorem hX1_beginNode_18 : cX1_beginNode.data.toList.drop 18 = sX1_beginNode_18 := dn1 hX1_beginNode_17
theorem dX1_beginNode_18 : decode cX1_beginNode 18 = .ok (.iastore, 1) := dk79 hX1_beginNode_18
theorem hX1_beginNode_19 : cX1_beginNode.data.toList.drop 19 = sX1_beginNode_19 := dn1 hX1_beginNode_18
theorem dX1_beginNode_19 : decode cX1_beginNode 19 = .ok (.aload_n 0, 1) := dk42 hX1_beginNode_19
theorem hX1_beginNode_20 : cX1_beginNode.data.toList.drop 20 = sX1_beginNode_20 := dn1 hX1_beginNode_19
theorem dX1_beginNode_20 : decode cX1_beginNode 20 = .ok (.getfield 15, 3) := dk180 hX1_beginNode_20 rfl
theorem hX1_beginNode_23 : cX1_beginNode.data.toList.drop 23 = sX1_beginNode_23 := dn3 hX1_beginNode_20
theorem dX1_beginNode_23 : decode cX1_beginNode 23 = .ok (.aload_n 0, 1) := dk42 hX1_beginNode_23
theorem hX1_beginNode_24 : cX1_beginNode.data.toList.drop 24 = sX1_beginNode_24 := dn1 hX1_beginNode_23
theorem dX1_beginNode_24 : decode cX1_beginNode 24 = .ok (.getfield 55, 3) := dk180 hX1_beginNode_24 rfl
theorem hX1_beginNode_27 : cX1_beginNode.data.toList.drop 27 = sX1_beginNode_27 := dn3 hX1_beginNode_24
theorem dX1_beginNode_27 : decode cX1_beginNode 27 = .ok (.iconst 0, 1) := dk3 hX1_beginNode_27
theorem hX1_beginNode_28 : cX1_beginNode.data.toList.drop 28 = sX1_beginNode_28 := dn1 hX1_beginNode_27
theorem dX1_beginNode_28 : decode cX1_beginNode 28 = .ok (.iastore, 1) := dk79 hX1_beginNode_28
theorem hX1_beginNode_29 : cX1_beginNode.data.toList.drop 29 = sX1_beginNode_29 := dn1 hX1_beginNode_28
theorem dX1_beginNode_29 : decode cX1_beginNode 29 = .ok (.aload_n 0, 1) := dk42 hX1_beginNode_29
theorem hX1_beginNode_30 : cX1_beginNode.data.toList.drop 30 = sX1_beginNode_30 := dn1 hX1_beginNode_29
theorem dX1_beginNode_30 : decode cX1_beginNode 30 = .ok (.getfield 24, 3) := dk180 hX1_beginNode_30 rfl
theorem hX1_beginNode_33 : cX1_beginNode.data.toList.drop 33 = sX1_beginNode_33 := dn3 hX1_beginNode_30
theorem dX1_beginNode_33 : decode cX1_beginNode 33 = .ok (.aload_n 0, 1) := dk42 hX1_beginNode_33
theorem hX1_beginNode_34 : cX1_beginNode.data.toList.drop 34 = sX1_beginNode_34 := dn1 hX1_beginNode_33
theorem dX1_beginNode_34 : decode cX1_beginNode 34 = .ok (.getfield 55, 3) := dk180 hX1_beginNode_34 rfl
theorem hX1_beginNode_37 : cX1_beginNode.data.toList.drop 37 = sX1_beginNode_37 := dn3 hX1_beginNode_34
theorem dX1_beginNode_37 : decode cX1_beginNode 37 = .ok (.iconst 0, 1) := dk3 hX1_beginNode_37
theorem hX1_beginNode_38 : cX1_beginNode.data.toList.drop 38 = sX1_beginNode_38 := dn1 hX1_beginNode_37
theorem dX1_beginNode_38 : decode cX1_beginNode 38 = .ok (.iastore, 1) := dk79 hX1_beginNode_38
theorem hX1_beginNode_39 : cX1_beginNode.data.toList.drop 39 = sX1_beginNode_39 := dn1 hX1_beginNode_38
theorem dX1_beginNode_39 : decode cX1_beginNode 39 = .ok (.aload_n 0, 1) := dk42 hX1_beginNode_39
theorem hX1_beginNode_40 : cX1_beginNode.data.toList.drop 40 = sX1_beginNode_40 := dn1 hX1_beginNode_39
theorem dX1_beginNode_40 : decode cX1_beginNode 40 = .ok (.getfield 27, 3) := dk180 hX1_beginNode_40 rfl
theorem hX1_beginNode_43 : cX1_beginNode.data.toList.drop 43 = sX1_beginNode_43 := dn3 hX1_beginNode_40
theorem dX1_beginNode_43 : decode cX1_beginNode 43 = .ok (.aload_n 0, 1) := dk42 hX1_beginNode_43
theorem hX1_beginNode_44 : cX1_beginNode.data.toList.drop 44 = sX1_beginNode_44 := dn1 hX1_beginNode_43
theorem dX1_beginNode_44 : decode cX1_beginNode 44 = .ok (.getfield 55, 3) := dk180 hX1_beginNode_44 rfl
theorem hX1_beginNode_47 : cX1_beginNode.data.toList.drop 47 = sX1_beginNode_47 := dn3 hX1_beginNode_44
theorem dX1_beginNode_47 : decode cX1_beginNode 47 = .ok (.iconst 0, 1) := dk3 hX1_beginNode_47
theorem hX1_beginNode_48 : cX1_beginNode.data.toList.drop 48 = sX1_beginNode_48 := dn1 hX1_beginNode_47
theorem dX1_beginNode_48 : decode cX1_beginNode 48 = .ok (.iastore, 1) := dk79 hX1_beginNode_48
theorem hX1_beginNode_49 : cX1_beginNode.data.toList.drop 49 = sX1_beginNode_49 := dn1 hX1_beginNode_48
theorem dX1_beginNode_49 : decode cX1_beginNode 49 = .ok (.aload_n 0, 1) := dk42 hX1_beginNode_49
theorem hX1_beginNode_50 : cX1_beginNode.data.toList.drop 50 = sX1_beginNode_50 := dn1 hX1_beginNode_49
theorem dX1_beginNode_50 : decode cX1_beginNode 50 = .ok (.getfield 30, 3) := dk180 hX1_beginNode_50 rfl
theorem hX1_beginNode_53 : cX1_beginNode.data.toList.drop 53 = sX1_beginNode_53 := dn3 hX1_beginNode_50
theorem dX1_beginNode_53 : decode cX1_beginNode 53 = .ok (.aload_n 0, 1) := dk42 hX1_beginNode_53
theorem hX1_beginNode_54 : cX1_beginNode.data.toList.drop 54 = sX1_beginNode_54 := dn1 hX1_beginNode_53
theorem dX1_beginNode_54 : decode cX1_beginNode 54 = .ok (.getfield 55, 3) := dk180 hX1_beginNode_54 rfl
theorem hX1_beginNode_57 : cX1_beginNode.data.toList.drop 57 = sX1_beginNode_57 := dn3 hX1_beginNode_54
theorem dX1_beginNode_57 : decode cX1_beginNode 57 = .ok (.iconst 0, 1) := dk3 hX1_beginNode_57
theorem hX1_beginNode_58 : cX1_beginNode.data.toList.drop 58 = sX1_beginNode_58 := dn1 hX1_beginNode_57
theorem dX1_beginNode_58 : decode cX1_beginNode 58 = .ok (.iastore, 1) := dk79 hX1_beginNode_58
theorem hX1_beginNode_59 : cX1_beginNode.data.toList.drop 59 = sX1_beginNode_59 := dn1 hX1_beginNode_58
theorem dX1_beginNode_59 : decode cX1_beginNode 59 = .ok (.aload_n 0, 1) := dk42 hX1_beginNode_59
theorem hX1_beginNode_60 : cX1_beginNode.data.toList.drop 60 = sX1_beginNode_60 := dn1 hX1_beginNode_59
theorem dX1_beginNode_60 : decode cX1_beginNode 60 = .ok (.getfield 33, 3) := dk180 hX1_beginNode_60 rfl
theorem hX1_beginNode_63 : cX1_beginNode.data.toList.drop 63 = sX1_beginNode_63 := dn3 hX1_beginNode_60
theorem dX1_beginNode_63 : decode cX1_beginNode 63 = .ok (.aload_n 0, 1) := dk42 hX1_beginNode_63
theorem hX1_beginNode_64 : cX1_beginNode.data.toList.drop 64 = sX1_beginNode_64 := dn1 hX1_beginNode_63
theorem dX1_beginNode_64 : decode cX1_beginNode 64 = .ok (.getfield 55, 3) := dk180 hX1_beginNode_64 rfl
theorem hX1_beginNode_67 : cX1_beginNode.data.toList.drop 67 = sX1_beginNode_67 := dn3 hX1_beginNode_64
theorem dX1_beginNode_67 : decode cX1_beginNode 67 = .ok (.iload_n 1, 1) := dk27 hX1_beginNode_67
theorem hX1_beginNode_68 : cX1_beginNode.data.toList.drop 68 = sX1_beginNode_68 := dn1 hX1_beginNode_67
theorem dX1_beginNode_68 : decode cX1_beginNode 68 = .ok (.ifCond .ne 12, 3) := dk154 hX1_beginNode_68 (by decide)
theorem hX1_beginNode_71 : cX1_beginNode.data.toList.drop 71 = sX1_beginNode_71 := dn3 hX1_beginNode_68
theorem dX1_beginNode_71 : decode cX1_beginNode 71 = .ok (.iconst 1, 1) := dk4 hX1_beginNode_71
theorem hX1_beginNode_72 : cX1_beginNode.data.toList.drop 72 = sX1_beginNode_72 := dn1 hX1_beginNode_71
theorem dX1_beginNode_72 : decode cX1_beginNode 72 = .ok (.aload_n 0, 1) := dk42 hX1_beginNode_72
theorem hX1_beginNode_73 : cX1_beginNode.data.toList.drop 73 = sX1_beginNode_73 := dn1 hX1_beginNode_72
theorem dX1_beginNode_73 : decode cX1_beginNode 73 = .ok (.getfield 55, 3) := dk180 hX1_beginNode_73 rfl
theorem hX1_beginNode_76 : cX1_beginNode.data.toList.drop 76 = sX1_beginNode_76 := dn3 hX1_beginNode_73
theorem dX1_beginNode_76 : decode cX1_beginNode 76 = .ok (.ishl, 1) := dk120 hX1_beginNode_76
theorem hX1_beginNode_77 : cX1_beginNode.data.toList.drop 77 = sX1_beginNode_77 := dn1 hX1_beginNode_76
theorem dX1_beginNode_77 : decode cX1_beginNode 77 = .ok (.goto 4, 3) := dk167 hX1_beginNode_77 (by decide)
theorem hX1_beginNode_80 : cX1_beginNode.data.toList.drop 80 = sX1_beginNode_80 := dn3 hX1_beginNode_77
theorem dX1_beginNode_80 : decode cX1_beginNode 80 = .ok (.iconst 0, 1) := dk3 hX1_beginNode_80
theorem hX1_beginNode_81 : cX1_beginNode.data.toList.drop 81 = sX1_beginNode_81 := dn1 hX1_beginNode_80
theorem dX1_beginNode_81 : decode cX1_beginNode 81 = .ok (.iastore, 1) := dk79 hX1_beginNode_81
theorem hX1_beginNode_82 : cX1_beginNode.data.toList.drop 82 = sX1_beginNode_82 := dn1 hX1_beginNode_81
theorem dX1_beginNode_82 : decode cX1_beginNode 82 = .ok (.aload_n 0, 1) := dk42 hX1_beginNode_82
theorem hX1_beginNode_83 : cX1_beginNode.data.toList.drop 83 = sX1_beginNode_83 := dn1 hX1_beginNode_82
theorem dX1_beginNode_83 : decode cX1_beginNode 83 = .ok (.getfield 36, 3) := dk180 hX1_beginNode_83 rfl
theorem hX1_beginNode_86 : cX1_beginNode.data.toList.drop 86 = sX1_beginNode_86 := dn3 hX1_beginNode_83
theorem dX1_beginNode_86 : decode cX1_beginNode 86 = .ok (.aload_n 0, 1) := dk42 hX1_beginNode_86
theorem hX1_beginNode_87 : cX1_beginNode.data.toList.drop 87 = sX1_beginNode_87 := dn1 hX1_beginNode_86
theorem dX1_beginNode_87 : decode cX1_beginNode 87 = .ok (.getfield 55, 3) := dk180 hX1_beginNode_87 rfl
theorem hX1_beginNode_90 : cX1_beginNode.data.toList.drop 90 = sX1_beginNode_90 := dn3 hX1_beginNode_87
theorem dX1_beginNode_90 : decode cX1_beginNode 90 = .ok (.iconst 0, 1) := dk3 hX1_beginNode_90
theorem hX1_beginNode_91 : cX1_beginNode.data.toList.drop 91 = sX1_beginNode_91 := dn1 hX1_beginNode_90
theorem dX1_beginNode_91 : decode cX1_beginNode 91 = .ok (.iastore, 1) := dk79 hX1_beginNode_91
theorem hX1_beginNode_92 : cX1_beginNode.data.toList.drop 92 = sX1_beginNode_92 := dn1 hX1_beginNode_91
theorem dX1_beginNode_92 : decode cX1_beginNode 92 = .ok (.return_, 1) := dk177 hX1_beginNode_92
noncomputable def sX1_clear_40 : List UInt8 := 177 :: []
noncomputable def sX1_clear_37 : List UInt8 := 181 :: 0 :: 52 :: sX1_clear_40
noncomputable def sX1_clear_36 : List UInt8 := 4 :: sX1_clear_37
noncomputable def sX1_clear_35 : List UInt8 := 42 :: sX1_clear_36
noncomputable def sX1_clear_32 : List UInt8 := 181 :: 0 :: 45 :: sX1_clear_35
noncomputable def sX1_clear_31 : List UInt8 := 2 :: sX1_clear_32
noncomputable def sX1_clear_30 : List UInt8 := 42 :: sX1_clear_31
noncomputable def sX1_clear_27 : List UInt8 := 181 :: 0 :: 49 :: sX1_clear_30
noncomputable def sX1_clear_26 : List UInt8 := 2 :: sX1_clear_27
noncomputable def sX1_clear_25 : List UInt8 := 42 :: sX1_clear_26
noncomputable def sX1_clear_22 : List UInt8 := 181 :: 0 :: 67 :: sX1_clear_25
noncomputable def sX1_clear_21 : List UInt8 := 3 :: sX1_clear_22
noncomputable def sX1_clear_20 : List UInt8 := 42 :: sX1_clear_21
noncomputable def sX1_clear_17 : List UInt8 := 181 :: 0 :: 64 :: sX1_clear_20
noncomputable def sX1_clear_16 : List UInt8 := 3 :: sX1_clear_17
noncomputable def sX1_clear_15 : List UInt8 := 42 :: sX1_clear_16
noncomputable def sX1_clear_12 : List UInt8 := 181 :: 0 :: 61 :: sX1_clear_15
noncomputable def sX1_clear_11 : List UInt8 := 3 :: sX1_clear_12
noncomputable def sX1_clear_10 : List UInt8 := 42 :: sX1_clear_11
noncomputable def sX1_clear_7 : List UInt8 := 181 :: 0 :: 58 :: sX1_clear_10
noncomputable def sX1_clear_6 : List UInt8 := 3 :: sX1_clear_7
noncomputable def sX1_clear_5 : List UInt8 := 42 :: sX1_clear_6
noncomputable def sX1_clear_2 : List UInt8 := 181 :: 0 :: 55 :: sX1_clear_5
noncomputable def sX1_clear_1 : List UInt8 := 3 :: sX1_clear_2
noncomputable def sX1_clear_0 : List UInt8 := 42 :: sX1_clear_1
set_option maxRecDepth 100000 in
theorem hX1_clear_0 : cX1_clear.data.toList.drop 0 = sX1_clear_0 := by decide +kernel
theorem dX1_clear_0 : decode cX1_clear 0 = .ok (.aload_n 0, 1) := dk42 hX1_clear_0
theorem hX1_clear_1 : cX1_clear.data.toList.drop 1 = sX1_clear_1 := dn1 hX1_clear_0
theorem dX1_clear_1 : decode cX1_clear 1 = .ok (.iconst 0, 1) := dk3 hX1_clear_1
theorem hX1_clear_2 : cX1_clear.data.toList.drop 2 = sX1_clear_2 := dn1 hX1_clear_1
theorem dX1_clear_2 : decode cX1_clear 2 = .ok (.putfield 55, 3) := dk181 hX1_clear_2 rfl
theorem hX1_clear_5 : cX1_clear.data.toList.drop 5 = sX1_clear_5 := dn3 hX1_clear_2
theorem dX1_clear_5 : decode cX1_clear 5 = .ok (.aload_n 0, 1) := dk42 hX1_clear_5
theorem hX1_clear_6 : cX1_clear.data.toList.drop 6 = sX1_clear_6 := dn1 hX1_clear_5
theorem dX1_clear_6 : decode cX1_clear 6 = .ok (.iconst 0, 1) := dk3 hX1_clear_6
theorem hX1_clear_7 : cX1_clear.data.toList.drop 7 = sX1_clear_7 := dn1 hX1_clear_6
theorem dX1_clear_7 : decode cX1_clear 7 = .ok (.putfield 58, 3) := dk181 hX1_clear_7 rfl
theorem hX1_clear_10 : cX1_clear.data.toList.drop 10 = sX1_clear_10 := dn3 hX1_clear_7
theorem dX1_clear_10 : decode cX1_clear 10 = .ok (.aload_n 0, 1) := dk42 hX1_clear_10
theorem hX1_clear_11 : cX1_clear.data.toList.drop 11 = sX1_clear_11 := dn1 hX1_clear_10
theorem dX1_clear_11 : decode cX1_clear 11 = .ok (.iconst 0, 1) := dk3 hX1_clear_11
theorem hX1_clear_12 : cX1_clear.data.toList.drop 12 = sX1_clear_12 := dn1 hX1_clear_11
theorem dX1_clear_12 : decode cX1_clear 12 = .ok (.putfield 61, 3) := dk181 hX1_clear_12 rfl
theorem hX1_clear_15 : cX1_clear.data.toList.drop 15 = sX1_clear_15 := dn3 hX1_clear_12
theorem dX1_clear_15 : decode cX1_clear 15 = .ok (.aload_n 0, 1) := dk42 hX1_clear_15
theorem hX1_clear_16 : cX1_clear.data.toList.drop 16 = sX1_clear_16 := dn1 hX1_clear_15
theorem dX1_clear_16 : decode cX1_clear 16 = .ok (.iconst 0, 1) := dk3 hX1_clear_16
theorem hX1_clear_17 : cX1_clear.data.toList.drop 17 = sX1_clear_17 := dn1 hX1_clear_16
theorem dX1_clear_17 : decode cX1_clear 17 = .ok (.putfield 64, 3) := dk181 hX1_clear_17 rfl
theorem hX1_clear_20 : cX1_clear.data.toList.drop 20 = sX1_clear_20 := dn3 hX1_clear_17
theorem dX1_clear_20 : decode cX1_clear 20 = .ok (.aload_n 0, 1) := dk42 hX1_clear_20
theorem hX1_clear_21 : cX1_clear.data.toList.drop 21 = sX1_clear_21 := dn1 hX1_clear_20
theorem dX1_clear_21 : decode cX1_clear 21 = .ok (.iconst 0, 1) := dk3 hX1_clear_21
theorem hX1_clear_22 : cX1_clear.data.toList.drop 22 = sX1_clear_22 := dn1 hX1_clear_21
theorem dX1_clear_22 : decode cX1_clear 22 = .ok (.putfield 67, 3) := dk181 hX1_clear_22 rfl
theorem hX1_clear_25 : cX1_clear.data.toList.drop 25 = sX1_clear_25 := dn3 hX1_clear_22
theorem dX1_clear_25 : decode cX1_clear 25 = .ok (.aload_n 0, 1) := dk42 hX1_clear_25
theorem hX1_clear_26 : cX1_clear.data.toList.drop 26 = sX1_clear_26 := dn1 hX1_clear_25
theorem dX1_clear_26 : decode cX1_clear 26 = .ok (.iconst (-1), 1) := dk2 hX1_clear_26
theorem hX1_clear_27 : cX1_clear.data.toList.drop 27 = sX1_clear_27 := dn1 hX1_clear_26
theorem dX1_clear_27 : decode cX1_clear 27 = .ok (.putfield 49, 3) := dk181 hX1_clear_27 rfl
theorem hX1_clear_30 : cX1_clear.data.toList.drop 30 = sX1_clear_30 := dn3 hX1_clear_27
theorem dX1_clear_30 : decode cX1_clear 30 = .ok (.aload_n 0, 1) := dk42 hX1_clear_30
theorem hX1_clear_31 : cX1_clear.data.toList.drop 31 = sX1_clear_31 := dn1 hX1_clear_30
theorem dX1_clear_31 : decode cX1_clear 31 = .ok (.iconst (-1), 1) := dk2 hX1_clear_31
theorem hX1_clear_32 : cX1_clear.data.toList.drop 32 = sX1_clear_32 := dn1 hX1_clear_31
theorem dX1_clear_32 : decode cX1_clear 32 = .ok (.putfield 45, 3) := dk181 hX1_clear_32 rfl
theorem hX1_clear_35 : cX1_clear.data.toList.drop 35 = sX1_clear_35 := dn3 hX1_clear_32
theorem dX1_clear_35 : decode cX1_clear 35 = .ok (.aload_n 0, 1) := dk42 hX1_clear_35
theorem hX1_clear_36 : cX1_clear.data.toList.drop 36 = sX1_clear_36 := dn1 hX1_clear_35
theorem dX1_clear_36 : decode cX1_clear 36 = .ok (.iconst 1, 1) := dk4 hX1_clear_36
theorem hX1_clear_37 : cX1_clear.data.toList.drop 37 = sX1_clear_37 := dn1 hX1_clear_36
theorem dX1_clear_37 : decode cX1_clear 37 = .ok (.putfield 52, 3) := dk181 hX1_clear_37 rfl
theorem hX1_clear_40 : cX1_clear.data.toList.drop 40 = sX1_clear_40 := dn3 hX1_clear_37
theorem dX1_clear_40 : decode cX1_clear 40 = .ok (.return_, 1) := dk177 hX1_clear_40
noncomputable def sX1_endNode_92 : List UInt8 := 177 :: []
noncomputable def sX1_endNode_89 : List UInt8 := 181 :: 0 :: 55 :: sX1_endNode_92
noncomputable def sX1_endNode_88 : List UInt8 := 96 :: sX1_endNode_89
noncomputable def sX1_endNode_87 : List UInt8 := 4 :: sX1_endNode_88
noncomputable def sX1_endNode_84 : List UInt8 := 180 :: 0 :: 55 :: sX1_endNode_87
noncomputable def sX1_endNode_83 : List UInt8 := 89 :: sX1_endNode_84
noncomputable def sX1_endNode_82 : List UInt8 := 42 :: sX1_endNode_83
noncomputable def sX1_endNode_79 : List UInt8 := 181 :: 0 :: 52 :: sX1_endNode_82
noncomputable def sX1_endNode_78 : List UInt8 := 104 :: sX1_endNode_79
noncomputable def sX1_endNode_77 : List UInt8 := 46 :: sX1_endNode_78
noncomputable def sX1_endNode_74 : List UInt8 := 180 :: 0 :: 55 :: sX1_endNode_77
noncomputable def sX1_endNode_73 : List UInt8 := 42 :: sX1_endNode_74
noncomputable def sX1_endNode_70 : List UInt8 := 180 :: 0 :: 24 :: sX1_endNode_73
noncomputable def sX1_endNode_69 : List UInt8 := 42 :: sX1_endNode_70
noncomputable def sX1_endNode_66 : List UInt8 := 180 :: 0 :: 52 :: sX1_endNode_69
noncomputable def sX1_endNode_65 : List UInt8 := 89 :: sX1_endNode_66
noncomputable def sX1_endNode_64 : List UInt8 := 42 :: sX1_endNode_65
noncomputable def sX1_endNode_61 : List UInt8 := 181 :: 0 :: 61 :: sX1_endNode_64
noncomputable def sX1_endNode_60 : List UInt8 := 96 :: sX1_endNode_61
noncomputable def sX1_endNode_59 : List UInt8 := 4 :: sX1_endNode_60
noncomputable def sX1_endNode_56 : List UInt8 := 180 :: 0 :: 61 :: sX1_endNode_59
noncomputable def sX1_endNode_55 : List UInt8 := 89 :: sX1_endNode_56
noncomputable def sX1_endNode_54 : List UInt8 := 42 :: sX1_endNode_55
noncomputable def sX1_endNode_51 : List UInt8 := 160 :: 0 :: 31 :: sX1_endNode_54
noncomputable def sX1_endNode_50 : List UInt8 := 6 :: sX1_endNode_51
noncomputable def sX1_endNode_49 : List UInt8 := 46 :: sX1_endNode_50
noncomputable def sX1_endNode_46 : List UInt8 := 180 :: 0 :: 55 :: sX1_endNode_49
noncomputable def sX1_endNode_45 : List UInt8 := 42 :: sX1_endNode_46
noncomputable def sX1_endNode_42 : List UInt8 := 180 :: 0 :: 9 :: sX1_endNode_45
noncomputable def sX1_endNode_41 : List UInt8 := 42 :: sX1_endNode_42
noncomputable def sX1_endNode_38 : List UInt8 := 181 :: 0 :: 58 :: sX1_endNode_41
noncomputable def sX1_endNode_37 : List UInt8 := 96 :: sX1_endNode_38
noncomputable def sX1_endNode_36 : List UInt8 := 4 :: sX1_endNode_37
noncomputable def sX1_endNode_33 : List UInt8 := 180 :: 0 :: 58 :: sX1_endNode_36
noncomputable def sX1_endNode_32 : List UInt8 := 89 :: sX1_endNode_33
noncomputable def sX1_endNode_31 : List UInt8 := 42 :: sX1_endNode_32
noncomputable def sX1_endNode_28 : List UInt8 := 154 :: 0 :: 13 :: sX1_endNode_31
noncomputable def sX1_endNode_27 : List UInt8 := 46 :: sX1_endNode_28
noncomputable def sX1_endNode_24 : List UInt8 := 180 :: 0 :: 55 :: sX1_endNode_27
noncomputable def sX1_endNode_23 : List UInt8 := 42 :: sX1_endNode_24
noncomputable def sX1_endNode_20 : List UInt8 := 180 :: 0 :: 9 :: sX1_endNode_23
noncomputable def sX1_endNode_19 : List UInt8 := 42 :: sX1_endNode_20
noncomputable def sX1_endNode_18 : List UInt8 := 79 :: sX1_endNode_19
noncomputable def sX1_endNode_17 : List UInt8 := 27 :: sX1_endNode_18
noncomputable def sX1_endNode_14 : List UInt8 := 180 :: 0 :: 55 :: sX1_endNode_17
noncomputable def sX1_endNode_13 : List UInt8 := 42 :: sX1_endNode_14
noncomputable def sX1_endNode_10 : List UInt8 := 180 :: 0 :: 27 :: sX1_endNode_13
noncomputable def sX1_endNode_9 : List UInt8 := 42 :: sX1_endNode_10
noncomputable def sX1_endNode_6 : List UInt8 := 162 :: 0 :: 86 :: sX1_endNode_9
noncomputable def sX1_endNode_4 : List UInt8 := 16 :: 18 :: sX1_endNode_6
noncomputable def sX1_endNode_1 : List UInt8 := 180 :: 0 :: 55 :: sX1_endNode_4
noncomputable def sX1_endNode_0 : List UInt8 := 42 :: sX1_endNode_1
set_option maxRecDepth 100000 in
theorem hX1_endNode_0 : cX1_endNode.data.toList.drop 0 = sX1_endNode_0 := by decide +kernel
theorem dX1_endNode_0 : decode cX1_endNode 0 = .ok (.aload_n 0, 1) := dk42 hX1_endNode_0
theorem hX1_endNode_1 : cX1_endNode.data.toList.drop 1 = sX1_endNode_1 := dn1 hX1_endNode_0
theorem dX1_endNode_1 : decode cX1_endNode 1 = .ok (.getfield 55, 3) := dk180 hX1_endNode_1 rfl
theorem hX1_endNode_4 : cX1_endNode.data.toList.drop 4 = sX1_endNode_4 := dn3 hX1_endNode_1
theorem dX1_endNode_4 : decode cX1_endNode 4 = .ok (.bipush 18, 2) := dk16 hX1_endNode_4 (by decide)
theorem hX1_endNode_6 : cX1_endNode.data.toList.drop 6 = sX1_endNode_6 := dn2 hX1_endNode_4
theorem dX1_endNode_6 : decode cX1_endNode 6 = .ok (.if_icmp .ge 86, 3) := dk162 hX1_endNode_6 (by decide)
theorem hX1_endNode_9 : cX1_endNode.data.toList.drop 9 = sX1_endNode_9 := dn3 hX1_endNode_6
theorem dX1_endNode_9 : decode cX1_endNode 9 = .ok (.aload_n 0, 1) := dk42 hX1_endNode_9
theorem hX1_endNode_10 : cX1_endNode.data.toList.drop 10 = sX1_endNode_10 := dn1 hX1_endNode_9
theorem dX1_endNode_10 : decode cX1_endNode 10 = .ok (.getfield 27, 3) := dk180 hX1_endNode_10 rfl
theorem hX1_endNode_13 : cX1_endNode.data.toList.drop 13 = sX1_endNode_13 := dn3 hX1_endNode_10
theorem dX1_endNode_13 : decode cX1_endNode 13 = .ok (.aload_n 0, 1) := dk42 hX1_endNode_13
theorem hX1_endNode_14 : cX1_endNode.data.toList.drop 14 = sX1_endNode_14 := dn1 hX1_endNode_13
theorem dX1_endNode_14 : decode cX1_endNode 14 = .ok (.getfield 55, 3) := dk180 hX1_endNode_14 rfl
theorem hX1_endNode_17 : cX1_endNode.data.toList.drop 17 = sX1_endNode_17 := dn3 hX1_endNode_14
theorem dX1_endNode_17 : decode cX1_endNode 17 = .ok (.iload_n 1, 1) := dk27 hX1_endNode_17
theorem hX1_endNode_18 : cX1_endNode.data.toList.drop 18 = sX1_endNode_18 := dn1 hX1_endNode_17
theorem dX1_endNode_18 : decode cX1_endNode 18 = .ok (.iastore, 1) := dk79 hX1_endNode_18
theorem hX1_endNode_19 : cX1_endNode.data.toList.drop 19 = sX1_endNode_19 := dn1 hX1_endNode_18
theorem dX1_endNode_19 : decode cX1_endNode 19 = .ok (.aload_n 0, 1) := dk42 hX1_endNode_19
theorem hX1_endNode_20 : cX1_endNode.data.toList.drop 20 = sX1_endNode_20 := dn1 hX1_endNode_19
theorem dX1_endNode_20 : decode cX1_endNode 20 = .ok (.getfield 9, 3) := dk180 hX1_endNode_20 rfl
theorem hX1_endNode_23 : cX1_endNode.data.toList.drop 23 = sX1_endNode_23 := dn3 hX1_endNode_20
theorem dX1_endNode_23 : decode cX1_endNode 23 = .ok (.aload_n 0, 1) := dk42 hX1_endNode_23
theorem hX1_endNode_24 : cX1_endNode.data.toList.drop 24 = sX1_endNode_24 := dn1 hX1_endNode_23
theorem dX1_endNode_24 : decode cX1_endNode 24 = .ok (.getfield 55, 3) := dk180 hX1_endNode_24 rfl
theorem hX1_endNode_27 : cX1_endNode.data.toList.drop 27 = sX1_endNode_27 := dn3 hX1_endNode_24
theorem dX1_endNode_27 : decode cX1_endNode 27 = .ok (.iaload, 1) := dk46 hX1_endNode_27
theorem hX1_endNode_28 : cX1_endNode.data.toList.drop 28 = sX1_endNode_28 := dn1 hX1_endNode_27
theorem dX1_endNode_28 : decode cX1_endNode 28 = .ok (.ifCond .ne 13, 3) := dk154 hX1_endNode_28 (by decide)
theorem hX1_endNode_31 : cX1_endNode.data.toList.drop 31 = sX1_endNode_31 := dn3 hX1_endNode_28
theorem dX1_endNode_31 : decode cX1_endNode 31 = .ok (.aload_n 0, 1) := dk42 hX1_endNode_31
theorem hX1_endNode_32 : cX1_endNode.data.toList.drop 32 = sX1_endNode_32 := dn1 hX1_endNode_31
theorem dX1_endNode_32 : decode cX1_endNode 32 = .ok (.dup, 1) := dk89 hX1_endNode_32
theorem hX1_endNode_33 : cX1_endNode.data.toList.drop 33 = sX1_endNode_33 := dn1 hX1_endNode_32
theorem dX1_endNode_33 : decode cX1_endNode 33 = .ok (.getfield 58, 3) := dk180 hX1_endNode_33 rfl
theorem hX1_endNode_36 : cX1_endNode.data.toList.drop 36 = sX1_endNode_36 := dn3 hX1_endNode_33
theorem dX1_endNode_36 : decode cX1_endNode 36 = .ok (.iconst 1, 1) := dk4 hX1_endNode_36
theorem hX1_endNode_37 : cX1_endNode.data.toList.drop 37 = sX1_endNode_37 := dn1 hX1_endNode_36
theorem dX1_endNode_37 : decode cX1_endNode 37 = .ok (.iadd, 1) := dk96 hX1_endNode_37
theorem hX1_endNode_38 : cX1_endNode.data.toList.drop 38 = sX1_endNode_38 := dn1 hX1_endNode_37
theorem dX1_endNode_38 : decode cX1_endNode 38 = .ok (.putfield 58, 3) := dk181 hX1_endNode_38 rfl
theorem hX1_endNode_41 : cX1_endNode.data.toList.drop 41 = sX1_endNode_41 := dn3 hX1_endNode_38
theorem dX1_endNode_41 : decode cX1_endNode 41 = .ok (.aload_n 0, 1) := dk42 hX1_endNode_41
theorem hX1_endNode_42 : cX1_endNode.data.toList.drop 42 = sX1_endNode_42 := dn1 hX1_endNode_41
theorem dX1_endNode_42 : decode cX1_endNode 42 = .ok (.getfield 9, 3) := dk180 hX1_endNode_42 rfl
theorem hX1_endNode_45 : cX1_endNode.data.toList.drop 45 = sX1_endNode_45 := dn3 hX1_endNode_42
theorem dX1_endNode_45 : decode cX1_endNode 45 = .ok (.aload_n 0, 1) := dk42 hX1_endNode_45
theorem hX1_endNode_46 : cX1_endNode.data.toList.drop 46 = sX1_endNode_46 := dn1 hX1_endNode_45
theorem dX1_endNode_46 : decode cX1_endNode 46 = .ok (.getfield 55, 3) := dk180 hX1_endNode_46 rfl
theorem hX1_endNode_49 : cX1_endNode.data.toList.drop 49 = sX1_endNode_49 := dn3 hX1_endNode_46
theorem dX1_endNode_49 : decode cX1_endNode 49 = .ok (.iaload, 1) := dk46 hX1_endNode_49
theorem hX1_endNode_50 : cX1_endNode.data.toList.drop 50 = sX1_endNode_50 := dn1 hX1_endNode_49
theorem dX1_endNode_50 : decode cX1_endNode 50 = .ok (.iconst 3, 1) := dk6 hX1_endNode_50
theorem hX1_endNode_51 : cX1_endNode.data.toList.drop 51 = sX1_endNode_51 := dn1 hX1_endNode_50
theorem dX1_endNode_51 : decode cX1_endNode 51 = .ok (.if_icmp .ne 31, 3) := dk160 hX1_endNode_51 (by decide)
theorem hX1_endNode_54 : cX1_endNode.data.toList.drop 54 = sX1_endNode_54 := dn3 hX1_endNode_51
theorem dX1_endNode_54 : decode cX1_endNode 54 = .ok (.aload_n 0, 1) := dk42 hX1_endNode_54
theorem hX1_endNode_55 : cX1_endNode.data.toList.drop 55 = sX1_endNode_55 := dn1 hX1_endNode_54
theorem dX1_endNode_55 : decode cX1_endNode 55 = .ok (.dup, 1) := dk89 hX1_endNode_55
theorem hX1_endNode_56 : cX1_endNode.data.toList.drop 56 = sX1_endNode_56 := dn1 hX1_endNode_55
theorem dX1_endNode_56 : decode cX1_endNode 56 = .ok (.getfield 61, 3) := dk180 hX1_endNode_56 rfl
theorem hX1_endNode_59 : cX1_endNode.data.toList.drop 59 = sX1_endNode_59 := dn3 hX1_endNode_56
theorem dX1_endNode_59 : decode cX1_endNode 59 = .ok (.iconst 1, 1) := dk4 hX1_endNode_59
theorem hX1_endNode_60 : cX1_endNode.data.toList.drop 60 = sX1_endNode_60 := dn1 hX1_endNode_59
theorem dX1_endNode_60 : decode cX1_endNode 60 = .ok (.iadd, 1) := dk96 hX1_endNode_60
theorem hX1_endNode_61 : cX1_endNode.data.toList.drop 61 = sX1_endNode_61 := dn1 hX1_endNode_60
theorem dX1_endNode_61 : decode cX1_endNode 61 = .ok (.putfield 61, 3) := dk181 hX1_endNode_61 rfl
theorem hX1_endNode_64 : cX1_endNode.data.toList.drop 64 = sX1_endNode_64 := dn3 hX1_endNode_61
theorem dX1_endNode_64 : decode cX1_endNode 64 = .ok (.aload_n 0, 1) := dk42 hX1_endNode_64
theorem hX1_endNode_65 : cX1_endNode.data.toList.drop 65 = sX1_endNode_65 := dn1 hX1_endNode_64
theorem dX1_endNode_65 : decode cX1_endNode 65 = .ok (.dup, 1) := dk89 hX1_endNode_65
theorem hX1_endNode_66 : cX1_endNode.data.toList.drop 66 = sX1_endNode_66 := dn1 hX1_endNode_65
theorem dX1_endNode_66 : decode cX1_endNode 66 = .ok (.getfield 52, 3) := dk180 hX1_endNode_66 rfl
theorem hX1_endNode_69 : cX1_endNode.data.toList.drop 69 = sX1_endNode_69 := dn3 hX1_endNode_66
theorem dX1_endNode_69 : decode cX1_endNode 69 = .ok (.aload_n 0, 1) := dk42 hX1_endNode_69
theorem hX1_endNode_70 : cX1_endNode.data.toList.drop 70 = sX1_endNode_70 := dn1 hX1_endNode_69
theorem dX1_endNode_70 : decode cX1_endNode 70 = .ok (.getfield 24, 3) := dk180 hX1_endNode_70 rfl
theorem hX1_endNode_73 : cX1_endNode.data.toList.drop 73 = sX1_endNode_73 := dn3 hX1_endNode_70
theorem dX1_endNode_73 : decode cX1_endNode 73 = .ok (.aload_n 0, 1) := dk42 hX1_endNode_73
theorem hX1_endNode_74 : cX1_endNode.data.toList.drop 74 = sX1_endNode_74 := dn1 hX1_endNode_73
theorem dX1_endNode_74 : decode cX1_endNode 74 = .ok (.getfield 55, 3) := dk180 hX1_endNode_74 rfl
theorem hX1_endNode_77 : cX1_endNode.data.toList.drop 77 = sX1_endNode_77 := dn3 hX1_endNode_74
theorem dX1_endNode_77 : decode cX1_endNode 77 = .ok (.iaload, 1) := dk46 hX1_endNode_77
theorem hX1_endNode_78 : cX1_endNode.data.toList.drop 78 = sX1_endNode_78 := dn1 hX1_endNode_77
theorem dX1_endNode_78 : decode cX1_endNode 78 = .ok (.imul, 1) := dk104 hX1_endNode_78
theorem hX1_endNode_79 : cX1_endNode.data.toList.drop 79 = sX1_endNode_79 := dn1 hX1_endNode_78
theorem dX1_endNode_79 : decode cX1_endNode 79 = .ok (.putfield 52, 3) := dk181 hX1_endNode_79 rfl
theorem hX1_endNode_82 : cX1_endNode.data.toList.drop 82 = sX1_endNode_82 := dn3 hX1_endNode_79
theorem dX1_endNode_82 : decode cX1_endNode 82 = .ok (.aload_n 0, 1) := dk42 hX1_endNode_82
theorem hX1_endNode_83 : cX1_endNode.data.toList.drop 83 = sX1_endNode_83 := dn1 hX1_endNode_82
theorem dX1_endNode_83 : decode cX1_endNode 83 = .ok (.dup, 1) := dk89 hX1_endNode_83
theorem hX1_endNode_84 : cX1_endNode.data.toList.drop 84 = sX1_endNode_84 := dn1 hX1_endNode_83
theorem dX1_endNode_84 : decode cX1_endNode 84 = .ok (.getfield 55, 3) := dk180 hX1_endNode_84 rfl
theorem hX1_endNode_87 : cX1_endNode.data.toList.drop 87 = sX1_endNode_87 := dn3 hX1_endNode_84
theorem dX1_endNode_87 : decode cX1_endNode 87 = .ok (.iconst 1, 1) := dk4 hX1_endNode_87
theorem hX1_endNode_88 : cX1_endNode.data.toList.drop 88 = sX1_endNode_88 := dn1 hX1_endNode_87
theorem dX1_endNode_88 : decode cX1_endNode 88 = .ok (.iadd, 1) := dk96 hX1_endNode_88
theorem hX1_endNode_89 : cX1_endNode.data.toList.drop 89 = sX1_endNode_89 := dn1 hX1_endNode_88
theorem dX1_endNode_89 : decode cX1_endNode 89 = .ok (.putfield 55, 3) := dk181 hX1_endNode_89 rfl
theorem hX1_endNode_92 : cX1_endNode.data.toList.drop 92 = sX1_endNode_92 := dn3 hX1_endNode_89
theorem dX1_endNode_92 : decode cX1_endNode 92 = .ok (.return_, 1) := dk177 hX1_endNode_92
noncomputable def sX1_hasNode_17 : List UInt8 := 172 :: []
noncomputable def sX1_hasNode_16 : List UInt8 := 3 :: sX1_hasNode_17
noncomputable def sX1_hasNode_13 : List UInt8 := 167 :: 0 :: 4 :: sX1_hasNode_16
noncomputable def sX1_hasNode_12 : List UInt8 := 4 :: sX1_hasNode_13
noncomputable def sX1_hasNode_9 : List UInt8 := 162 :: 0 :: 7 :: sX1_hasNode_12
noncomputable def sX1_hasNode_6 : List UInt8 := 180 :: 0 :: 55 :: sX1_hasNode_9
noncomputable def sX1_hasNode_5 : List UInt8 := 42 :: sX1_hasNode_6
noncomputable def sX1_hasNode_4 : List UInt8 := 27 :: sX1_hasNode_5
noncomputable def sX1_hasNode_1 : List UInt8 := 155 :: 0 :: 15 :: sX1_hasNode_4
noncomputable def sX1_hasNode_0 : List UInt8 := 27 :: sX1_hasNode_1
set_option maxRecDepth 100000 in
theorem hX1_hasNode_0 : cX1_hasNode.data.toList.drop 0 = sX1_hasNode_0 := by decide +kernel
theorem dX1_hasNode_0 : decode cX1_hasNode 0 = .ok (.iload_n 1, 1) := dk27 hX1_hasNode_0
theorem hX1_hasNode_1 : cX1_hasNode.data.toList.drop 1 = sX1_hasNode_1 := dn1 hX1_hasNode_0
theorem dX1_hasNode_1 : decode cX1_hasNode 1 = .ok (.ifCond .lt 15, 3) := dk155 hX1_hasNode_1 (by decide)
theorem hX1_hasNode_4 : cX1_hasNode.data.toList.drop 4 = sX1_hasNode_4 := dn3 hX1_hasNode_1
theorem dX1_hasNode_4 : decode cX1_hasNode 4 = .ok (.iload_n 1, 1) := dk27 hX1_hasNode_4
theorem hX1_hasNode_5 : cX1_hasNode.data.toList.drop 5 = sX1_hasNode_5 := dn1 hX1_hasNode_4
theorem dX1_hasNode_5 : decode cX1_hasNode 5 = .ok (.aload_n 0, 1) := dk42 hX1_hasNode_5
theorem hX1_hasNode_6 : cX1_hasNode.data.toList.drop 6 = sX1_hasNode_6 := dn1 hX1_hasNode_5
theorem dX1_hasNode_6 : decode cX1_hasNode 6 = .ok (.getfield 55, 3) := dk180 hX1_hasNode_6 rfl
theorem hX1_hasNode_9 : cX1_hasNode.data.toList.drop 9 = sX1_hasNode_9 := dn3 hX1_hasNode_6
theorem dX1_hasNode_9 : decode cX1_hasNode 9 = .ok (.if_icmp .ge 7, 3) := dk162 hX1_hasNode_9 (by decide)
theorem hX1_hasNode_12 : cX1_hasNode.data.toList.drop 12 = sX1_hasNode_12 := dn3 hX1_hasNode_9
theorem dX1_hasNode_12 : decode cX1_hasNode 12 = .ok (.iconst 1, 1) := dk4 hX1_hasNode_12
theorem hX1_hasNode_13 : cX1_hasNode.data.toList.drop 13 = sX1_hasNode_13 := dn1 hX1_hasNode_12
theorem dX1_hasNode_13 : decode cX1_hasNode 13 = .ok (.goto 4, 3) := dk167 hX1_hasNode_13 (by decide)
theorem hX1_hasNode_16 : cX1_hasNode.data.toList.drop 16 = sX1_hasNode_16 := dn3 hX1_hasNode_13
theorem dX1_hasNode_16 : decode cX1_hasNode 16 = .ok (.iconst 0, 1) := dk3 hX1_hasNode_16
theorem hX1_hasNode_17 : cX1_hasNode.data.toList.drop 17 = sX1_hasNode_17 := dn1 hX1_hasNode_16
theorem dX1_hasNode_17 : decode cX1_hasNode 17 = .ok (.ireturn, 1) := dk172 hX1_hasNode_17
noncomputable def sX1_hasRoomFor_62 : List UInt8 := 172 :: []
noncomputable def sX1_hasRoomFor_61 : List UInt8 := 3 :: sX1_hasRoomFor_62
noncomputable def sX1_hasRoomFor_58 : List UInt8 := 167 :: 0 :: 4 :: sX1_hasRoomFor_61
noncomputable def sX1_hasRoomFor_57 : List UInt8 := 4 :: sX1_hasRoomFor_58
noncomputable def sX1_hasRoomFor_54 : List UInt8 := 162 :: 0 :: 7 :: sX1_hasRoomFor_57
noncomputable def sX1_hasRoomFor_53 : List UInt8 := 5 :: sX1_hasRoomFor_54
noncomputable def sX1_hasRoomFor_50 : List UInt8 := 180 :: 0 :: 61 :: sX1_hasRoomFor_53
noncomputable def sX1_hasRoomFor_49 : List UInt8 := 42 :: sX1_hasRoomFor_50
noncomputable def sX1_hasRoomFor_46 : List UInt8 := 160 :: 0 :: 11 :: sX1_hasRoomFor_49
noncomputable def sX1_hasRoomFor_45 : List UInt8 := 6 :: sX1_hasRoomFor_46
noncomputable def sX1_hasRoomFor_44 : List UInt8 := 27 :: sX1_hasRoomFor_45
noncomputable def sX1_hasRoomFor_41 : List UInt8 := 162 :: 0 :: 20 :: sX1_hasRoomFor_44
noncomputable def sX1_hasRoomFor_39 : List UInt8 := 16 :: 8 :: sX1_hasRoomFor_41
noncomputable def sX1_hasRoomFor_38 : List UInt8 := 100 :: sX1_hasRoomFor_39
noncomputable def sX1_hasRoomFor_35 : List UInt8 := 180 :: 0 :: 58 :: sX1_hasRoomFor_38
noncomputable def sX1_hasRoomFor_34 : List UInt8 := 42 :: sX1_hasRoomFor_35
noncomputable def sX1_hasRoomFor_31 : List UInt8 := 180 :: 0 :: 55 :: sX1_hasRoomFor_34
noncomputable def sX1_hasRoomFor_30 : List UInt8 := 42 :: sX1_hasRoomFor_31
noncomputable def sX1_hasRoomFor_29 : List UInt8 := 172 :: sX1_hasRoomFor_30
noncomputable def sX1_hasRoomFor_28 : List UInt8 := 3 :: sX1_hasRoomFor_29
noncomputable def sX1_hasRoomFor_25 : List UInt8 := 167 :: 0 :: 4 :: sX1_hasRoomFor_28
noncomputable def sX1_hasRoomFor_24 : List UInt8 := 4 :: sX1_hasRoomFor_25
noncomputable def sX1_hasRoomFor_21 : List UInt8 := 162 :: 0 :: 7 :: sX1_hasRoomFor_24
noncomputable def sX1_hasRoomFor_19 : List UInt8 := 16 :: 10 :: sX1_hasRoomFor_21
noncomputable def sX1_hasRoomFor_16 : List UInt8 := 180 :: 0 :: 58 :: sX1_hasRoomFor_19
noncomputable def sX1_hasRoomFor_15 : List UInt8 := 42 :: sX1_hasRoomFor_16
noncomputable def sX1_hasRoomFor_12 : List UInt8 := 154 :: 0 :: 18 :: sX1_hasRoomFor_15
noncomputable def sX1_hasRoomFor_11 : List UInt8 := 27 :: sX1_hasRoomFor_12
noncomputable def sX1_hasRoomFor_10 : List UInt8 := 172 :: sX1_hasRoomFor_11
noncomputable def sX1_hasRoomFor_9 : List UInt8 := 3 :: sX1_hasRoomFor_10
noncomputable def sX1_hasRoomFor_6 : List UInt8 := 161 :: 0 :: 5 :: sX1_hasRoomFor_9
noncomputable def sX1_hasRoomFor_4 : List UInt8 := 16 :: 18 :: sX1_hasRoomFor_6
noncomputable def sX1_hasRoomFor_1 : List UInt8 := 180 :: 0 :: 55 :: sX1_hasRoomFor_4
noncomputable def sX1_hasRoomFor_0 : List UInt8 := 42 :: sX1_hasRoomFor_1
set_option maxRecDepth 100000 in
theorem hX1_hasRoomFor_0 : cX1_hasRoomFor.data.toList.drop 0 = sX1_hasRoomFor_0 := by decide +kernel
theorem dX1_hasRoomFor_0 : decode cX1_hasRoomFor 0 = .ok (.aload_n 0, 1) := dk42 hX1_hasRoomFor_0
theorem hX1_hasRoomFor_1 : cX1_hasRoomFor.data.toList.drop 1 = sX1_hasRoomFor_1 := dn1 hX1_hasRoomFor_0
theorem dX1_hasRoomFor_1 : decode cX1_hasRoomFor 1 = .ok (.getfield 55, 3) := dk180 hX1_hasRoomFor_1 rfl
theorem hX1_hasRoomFor_4 : cX1_hasRoomFor.data.toList.drop 4 = sX1_hasRoomFor_4 := dn3 hX1_hasRoomFor_1
theorem dX1_hasRoomFor_4 : decode cX1_hasRoomFor 4 = .ok (.bipush 18, 2) := dk16 hX1_hasRoomFor_4 (by decide)
theorem hX1_hasRoomFor_6 : cX1_hasRoomFor.data.toList.drop 6 = sX1_hasRoomFor_6 := dn2 hX1_hasRoomFor_4
theorem dX1_hasRoomFor_6 : decode cX1_hasRoomFor 6 = .ok (.if_icmp .lt 5, 3) := dk161 hX1_hasRoomFor_6 (by decide)
theorem hX1_hasRoomFor_9 : cX1_hasRoomFor.data.toList.drop 9 = sX1_hasRoomFor_9 := dn3 hX1_hasRoomFor_6
theorem dX1_hasRoomFor_9 : decode cX1_hasRoomFor 9 = .ok (.iconst 0, 1) := dk3 hX1_hasRoomFor_9
theorem hX1_hasRoomFor_10 : cX1_hasRoomFor.data.toList.drop 10 = sX1_hasRoomFor_10 := dn1 hX1_hasRoomFor_9
theorem dX1_hasRoomFor_10 : decode cX1_hasRoomFor 10 = .ok (.ireturn, 1) := dk172 hX1_hasRoomFor_10
theorem hX1_hasRoomFor_11 : cX1_hasRoomFor.data.toList.drop 11 = sX1_hasRoomFor_11 := dn1 hX1_hasRoomFor_10
theorem dX1_hasRoomFor_11 : decode cX1_hasRoomFor 11 = .ok (.iload_n 1, 1) := dk27 hX1_hasRoomFor_11
theorem hX1_hasRoomFor_12 : cX1_hasRoomFor.data.toList.drop 12 = sX1_hasRoomFor_12 := dn1 hX1_hasRoomFor_11
theorem dX1_hasRoomFor_12 : decode cX1_hasRoomFor 12 = .ok (.ifCond .ne 18, 3) := dk154 hX1_hasRoomFor_12 (by decide)
theorem hX1_hasRoomFor_15 : cX1_hasRoomFor.data.toList.drop 15 = sX1_hasRoomFor_15 := dn3 hX1_hasRoomFor_12
theorem dX1_hasRoomFor_15 : decode cX1_hasRoomFor 15 = .ok (.aload_n 0, 1) := dk42 hX1_hasRoomFor_15
theorem hX1_hasRoomFor_16 : cX1_hasRoomFor.data.toList.drop 16 = sX1_hasRoomFor_16 := dn1 hX1_hasRoomFor_15
theorem dX1_hasRoomFor_16 : decode cX1_hasRoomFor 16 = .ok (.getfield 58, 3) := dk180 hX1_hasRoomFor_16 rfl
theorem hX1_hasRoomFor_19 : cX1_hasRoomFor.data.toList.drop 19 = sX1_hasRoomFor_19 := dn3 hX1_hasRoomFor_16
theorem dX1_hasRoomFor_19 : decode cX1_hasRoomFor 19 = .ok (.bipush 10, 2) := dk16 hX1_hasRoomFor_19 (by decide)
theorem hX1_hasRoomFor_21 : cX1_hasRoomFor.data.toList.drop 21 = sX1_hasRoomFor_21 := dn2 hX1_hasRoomFor_19
theorem dX1_hasRoomFor_21 : decode cX1_hasRoomFor 21 = .ok (.if_icmp .ge 7, 3) := dk162 hX1_hasRoomFor_21 (by decide)
theorem hX1_hasRoomFor_24 : cX1_hasRoomFor.data.toList.drop 24 = sX1_hasRoomFor_24 := dn3 hX1_hasRoomFor_21
theorem dX1_hasRoomFor_24 : decode cX1_hasRoomFor 24 = .ok (.iconst 1, 1) := dk4 hX1_hasRoomFor_24
theorem hX1_hasRoomFor_25 : cX1_hasRoomFor.data.toList.drop 25 = sX1_hasRoomFor_25 := dn1 hX1_hasRoomFor_24
theorem dX1_hasRoomFor_25 : decode cX1_hasRoomFor 25 = .ok (.goto 4, 3) := dk167 hX1_hasRoomFor_25 (by decide)
theorem hX1_hasRoomFor_28 : cX1_hasRoomFor.data.toList.drop 28 = sX1_hasRoomFor_28 := dn3 hX1_hasRoomFor_25
theorem dX1_hasRoomFor_28 : decode cX1_hasRoomFor 28 = .ok (.iconst 0, 1) := dk3 hX1_hasRoomFor_28
theorem hX1_hasRoomFor_29 : cX1_hasRoomFor.data.toList.drop 29 = sX1_hasRoomFor_29 := dn1 hX1_hasRoomFor_28
theorem dX1_hasRoomFor_29 : decode cX1_hasRoomFor 29 = .ok (.ireturn, 1) := dk172 hX1_hasRoomFor_29
theorem hX1_hasRoomFor_30 : cX1_hasRoomFor.data.toList.drop 30 = sX1_hasRoomFor_30 := dn1 hX1_hasRoomFor_29
theorem dX1_hasRoomFor_30 : decode cX1_hasRoomFor 30 = .ok (.aload_n 0, 1) := dk42 hX1_hasRoomFor_30
theorem hX1_hasRoomFor_31 : cX1_hasRoomFor.data.toList.drop 31 = sX1_hasRoomFor_31 := dn1 hX1_hasRoomFor_30
theorem dX1_hasRoomFor_31 : decode cX1_hasRoomFor 31 = .ok (.getfield 55, 3) := dk180 hX1_hasRoomFor_31 rfl
theorem hX1_hasRoomFor_34 : cX1_hasRoomFor.data.toList.drop 34 = sX1_hasRoomFor_34 := dn3 hX1_hasRoomFor_31
theorem dX1_hasRoomFor_34 : decode cX1_hasRoomFor 34 = .ok (.aload_n 0, 1) := dk42 hX1_hasRoomFor_34
theorem hX1_hasRoomFor_35 : cX1_hasRoomFor.data.toList.drop 35 = sX1_hasRoomFor_35 := dn1 hX1_hasRoomFor_34
theorem dX1_hasRoomFor_35 : decode cX1_hasRoomFor 35 = .ok (.getfield 58, 3) := dk180 hX1_hasRoomFor_35 rfl
theorem hX1_hasRoomFor_38 : cX1_hasRoomFor.data.toList.drop 38 = sX1_hasRoomFor_38 := dn3 hX1_hasRoomFor_35
theorem dX1_hasRoomFor_38 : decode cX1_hasRoomFor 38 = .ok (.isub, 1) := dk100 hX1_hasRoomFor_38
theorem hX1_hasRoomFor_39 : cX1_hasRoomFor.data.toList.drop 39 = sX1_hasRoomFor_39 := dn1 hX1_hasRoomFor_38
theorem dX1_hasRoomFor_39 : decode cX1_hasRoomFor 39 = .ok (.bipush 8, 2) := dk16 hX1_hasRoomFor_39 (by decide)
theorem hX1_hasRoomFor_41 : cX1_hasRoomFor.data.toList.drop 41 = sX1_hasRoomFor_41 := dn2 hX1_hasRoomFor_39
theorem dX1_hasRoomFor_41 : decode cX1_hasRoomFor 41 = .ok (.if_icmp .ge 20, 3) := dk162 hX1_hasRoomFor_41 (by decide)
theorem hX1_hasRoomFor_44 : cX1_hasRoomFor.data.toList.drop 44 = sX1_hasRoomFor_44 := dn3 hX1_hasRoomFor_41
theorem dX1_hasRoomFor_44 : decode cX1_hasRoomFor 44 = .ok (.iload_n 1, 1) := dk27 hX1_hasRoomFor_44
theorem hX1_hasRoomFor_45 : cX1_hasRoomFor.data.toList.drop 45 = sX1_hasRoomFor_45 := dn1 hX1_hasRoomFor_44
theorem dX1_hasRoomFor_45 : decode cX1_hasRoomFor 45 = .ok (.iconst 3, 1) := dk6 hX1_hasRoomFor_45
theorem hX1_hasRoomFor_46 : cX1_hasRoomFor.data.toList.drop 46 = sX1_hasRoomFor_46 := dn1 hX1_hasRoomFor_45
theorem dX1_hasRoomFor_46 : decode cX1_hasRoomFor 46 = .ok (.if_icmp .ne 11, 3) := dk160 hX1_hasRoomFor_46 (by decide)
theorem hX1_hasRoomFor_49 : cX1_hasRoomFor.data.toList.drop 49 = sX1_hasRoomFor_49 := dn3 hX1_hasRoomFor_46
theorem dX1_hasRoomFor_49 : decode cX1_hasRoomFor 49 = .ok (.aload_n 0, 1) := dk42 hX1_hasRoomFor_49
theorem hX1_hasRoomFor_50 : cX1_hasRoomFor.data.toList.drop 50 = sX1_hasRoomFor_50 := dn1 hX1_hasRoomFor_49
theorem dX1_hasRoomFor_50 : decode cX1_hasRoomFor 50 = .ok (.getfield 61, 3) := dk180 hX1_hasRoomFor_50 rfl
theorem hX1_hasRoomFor_53 : cX1_hasRoomFor.data.toList.drop 53 = sX1_hasRoomFor_53 := dn3 hX1_hasRoomFor_50
theorem dX1_hasRoomFor_53 : decode cX1_hasRoomFor 53 = .ok (.iconst 2, 1) := dk5 hX1_hasRoomFor_53
theorem hX1_hasRoomFor_54 : cX1_hasRoomFor.data.toList.drop 54 = sX1_hasRoomFor_54 := dn1 hX1_hasRoomFor_53
theorem dX1_hasRoomFor_54 : decode cX1_hasRoomFor 54 = .ok (.if_icmp .ge 7, 3) := dk162 hX1_hasRoomFor_54 (by decide)
theorem hX1_hasRoomFor_57 : cX1_hasRoomFor.data.toList.drop 57 = sX1_hasRoomFor_57 := dn3 hX1_hasRoomFor_54
theorem dX1_hasRoomFor_57 : decode cX1_hasRoomFor 57 = .ok (.iconst 1, 1) := dk4 hX1_hasRoomFor_57
theorem hX1_hasRoomFor_58 : cX1_hasRoomFor.data.toList.drop 58 = sX1_hasRoomFor_58 := dn1 hX1_hasRoomFor_57
theorem dX1_hasRoomFor_58 : decode cX1_hasRoomFor 58 = .ok (.goto 4, 3) := dk167 hX1_hasRoomFor_58 (by decide)
theorem hX1_hasRoomFor_61 : cX1_hasRoomFor.data.toList.drop 61 = sX1_hasRoomFor_61 := dn3 hX1_hasRoomFor_58
theorem dX1_hasRoomFor_61 : decode cX1_hasRoomFor 61 = .ok (.iconst 0, 1) := dk3 hX1_hasRoomFor_61
theorem hX1_hasRoomFor_62 : cX1_hasRoomFor.data.toList.drop 62 = sX1_hasRoomFor_62 := dn1 hX1_hasRoomFor_61
theorem dX1_hasRoomFor_62 : decode cX1_hasRoomFor 62 = .ok (.ireturn, 1) := dk172 hX1_hasRoomFor_62
noncomputable def sX1_hasRoomForPart_27 : List UInt8 := 172 :: []
noncomputable def sX1_hasRoomForPart_26 : List UInt8 := 3 :: sX1_hasRoomForPart_27
noncomputable def sX1_hasRoomForPart_23 : List UInt8 := 167 :: 0 :: 4 :: sX1_hasRoomForPart_26
noncomputable def sX1_hasRoomForPart_22 : List UInt8 := 4 :: sX1_hasRoomForPart_23
noncomputable def sX1_hasRoomForPart_19 : List UInt8 := 162 :: 0 :: 7 :: sX1_hasRoomForPart_22
noncomputable def sX1_hasRoomForPart_18 : List UInt8 := 7 :: sX1_hasRoomForPart_19
noncomputable def sX1_hasRoomForPart_17 : List UInt8 := 46 :: sX1_hasRoomForPart_18
noncomputable def sX1_hasRoomForPart_14 : List UInt8 := 180 :: 0 :: 55 :: sX1_hasRoomForPart_17
noncomputable def sX1_hasRoomForPart_13 : List UInt8 := 42 :: sX1_hasRoomForPart_14
noncomputable def sX1_hasRoomForPart_10 : List UInt8 := 180 :: 0 :: 15 :: sX1_hasRoomForPart_13
noncomputable def sX1_hasRoomForPart_9 : List UInt8 := 42 :: sX1_hasRoomForPart_10
noncomputable def sX1_hasRoomForPart_6 : List UInt8 := 162 :: 0 :: 20 :: sX1_hasRoomForPart_9
noncomputable def sX1_hasRoomForPart_4 : List UInt8 := 16 :: 18 :: sX1_hasRoomForPart_6
noncomputable def sX1_hasRoomForPart_1 : List UInt8 := 180 :: 0 :: 55 :: sX1_hasRoomForPart_4
noncomputable def sX1_hasRoomForPart_0 : List UInt8 := 42 :: sX1_hasRoomForPart_1
set_option maxRecDepth 100000 in
theorem hX1_hasRoomForPart_0 : cX1_hasRoomForPart.data.toList.drop 0 = sX1_hasRoomForPart_0 := by decide +kernel
theorem dX1_hasRoomForPart_0 : decode cX1_hasRoomForPart 0 = .ok (.aload_n 0, 1) := dk42 hX1_hasRoomForPart_0
theorem hX1_hasRoomForPart_1 : cX1_hasRoomForPart.data.toList.drop 1 = sX1_hasRoomForPart_1 := dn1 hX1_hasRoomForPart_0
theorem dX1_hasRoomForPart_1 : decode cX1_hasRoomForPart 1 = .ok (.getfield 55, 3) := dk180 hX1_hasRoomForPart_1 rfl
theorem hX1_hasRoomForPart_4 : cX1_hasRoomForPart.data.toList.drop 4 = sX1_hasRoomForPart_4 := dn3 hX1_hasRoomForPart_1
theorem dX1_hasRoomForPart_4 : decode cX1_hasRoomForPart 4 = .ok (.bipush 18, 2) := dk16 hX1_hasRoomForPart_4 (by decide)
theorem hX1_hasRoomForPart_6 : cX1_hasRoomForPart.data.toList.drop 6 = sX1_hasRoomForPart_6 := dn2 hX1_hasRoomForPart_4
theorem dX1_hasRoomForPart_6 : decode cX1_hasRoomForPart 6 = .ok (.if_icmp .ge 20, 3) := dk162 hX1_hasRoomForPart_6 (by decide)
theorem hX1_hasRoomForPart_9 : cX1_hasRoomForPart.data.toList.drop 9 = sX1_hasRoomForPart_9 := dn3 hX1_hasRoomForPart_6
theorem dX1_hasRoomForPart_9 : decode cX1_hasRoomForPart 9 = .ok (.aload_n 0, 1) := dk42 hX1_hasRoomForPart_9
theorem hX1_hasRoomForPart_10 : cX1_hasRoomForPart.data.toList.drop 10 = sX1_hasRoomForPart_10 := dn1 hX1_hasRoomForPart_9
theorem dX1_hasRoomForPart_10 : decode cX1_hasRoomForPart 10 = .ok (.getfield 15, 3) := dk180 hX1_hasRoomForPart_10 rfl
theorem hX1_hasRoomForPart_13 : cX1_hasRoomForPart.data.toList.drop 13 = sX1_hasRoomForPart_13 := dn3 hX1_hasRoomForPart_10
theorem dX1_hasRoomForPart_13 : decode cX1_hasRoomForPart 13 = .ok (.aload_n 0, 1) := dk42 hX1_hasRoomForPart_13
theorem hX1_hasRoomForPart_14 : cX1_hasRoomForPart.data.toList.drop 14 = sX1_hasRoomForPart_14 := dn1 hX1_hasRoomForPart_13
theorem dX1_hasRoomForPart_14 : decode cX1_hasRoomForPart 14 = .ok (.getfield 55, 3) := dk180 hX1_hasRoomForPart_14 rfl
theorem hX1_hasRoomForPart_17 : cX1_hasRoomForPart.data.toList.drop 17 = sX1_hasRoomForPart_17 := dn3 hX1_hasRoomForPart_14
theorem dX1_hasRoomForPart_17 : decode cX1_hasRoomForPart 17 = .ok (.iaload, 1) := dk46 hX1_hasRoomForPart_17
theorem hX1_hasRoomForPart_18 : cX1_hasRoomForPart.data.toList.drop 18 = sX1_hasRoomForPart_18 := dn1 hX1_hasRoomForPart_17
theorem dX1_hasRoomForPart_18 : decode cX1_hasRoomForPart 18 = .ok (.iconst 4, 1) := dk7 hX1_hasRoomForPart_18
theorem hX1_hasRoomForPart_19 : cX1_hasRoomForPart.data.toList.drop 19 = sX1_hasRoomForPart_19 := dn1 hX1_hasRoomForPart_18
theorem dX1_hasRoomForPart_19 : decode cX1_hasRoomForPart 19 = .ok (.if_icmp .ge 7, 3) := dk162 hX1_hasRoomForPart_19 (by decide)
theorem hX1_hasRoomForPart_22 : cX1_hasRoomForPart.data.toList.drop 22 = sX1_hasRoomForPart_22 := dn3 hX1_hasRoomForPart_19
theorem dX1_hasRoomForPart_22 : decode cX1_hasRoomForPart 22 = .ok (.iconst 1, 1) := dk4 hX1_hasRoomForPart_22
theorem hX1_hasRoomForPart_23 : cX1_hasRoomForPart.data.toList.drop 23 = sX1_hasRoomForPart_23 := dn1 hX1_hasRoomForPart_22
theorem dX1_hasRoomForPart_23 : decode cX1_hasRoomForPart 23 = .ok (.goto 4, 3) := dk167 hX1_hasRoomForPart_23 (by decide)
theorem hX1_hasRoomForPart_26 : cX1_hasRoomForPart.data.toList.drop 26 = sX1_hasRoomForPart_26 := dn3 hX1_hasRoomForPart_23
theorem dX1_hasRoomForPart_26 : decode cX1_hasRoomForPart 26 = .ok (.iconst 0, 1) := dk3 hX1_hasRoomForPart_26
theorem hX1_hasRoomForPart_27 : cX1_hasRoomForPart.data.toList.drop 27 = sX1_hasRoomForPart_27 := dn1 hX1_hasRoomForPart_26
theorem dX1_hasRoomForPart_27 : decode cX1_hasRoomForPart 27 = .ok (.ireturn, 1) := dk172 hX1_hasRoomForPart_27
noncomputable def sX1_hasWord_22 : List UInt8 := 172 :: []
noncomputable def sX1_hasWord_21 : List UInt8 := 3 :: sX1_hasWord_22
noncomputable def sX1_hasWord_18 : List UInt8 := 167 :: 0 :: 4 :: sX1_hasWord_21
noncomputable def sX1_hasWord_17 : List UInt8 := 4 :: sX1_hasWord_18
noncomputable def sX1_hasWord_14 : List UInt8 := 154 :: 0 :: 7 :: sX1_hasWord_17
noncomputable def sX1_hasWord_13 : List UInt8 := 46 :: sX1_hasWord_14
noncomputable def sX1_hasWord_12 : List UInt8 := 27 :: sX1_hasWord_13
noncomputable def sX1_hasWord_9 : List UInt8 := 180 :: 0 :: 9 :: sX1_hasWord_12
noncomputable def sX1_hasWord_8 : List UInt8 := 42 :: sX1_hasWord_9
noncomputable def sX1_hasWord_5 : List UInt8 := 153 :: 0 :: 16 :: sX1_hasWord_8
noncomputable def sX1_hasWord_2 : List UInt8 := 182 :: 0 :: 70 :: sX1_hasWord_5
noncomputable def sX1_hasWord_1 : List UInt8 := 27 :: sX1_hasWord_2
noncomputable def sX1_hasWord_0 : List UInt8 := 42 :: sX1_hasWord_1
set_option maxRecDepth 100000 in
theorem hX1_hasWord_0 : cX1_hasWord.data.toList.drop 0 = sX1_hasWord_0 := by decide +kernel
theorem dX1_hasWord_0 : decode cX1_hasWord 0 = .ok (.aload_n 0, 1) := dk42 hX1_hasWord_0
theorem hX1_hasWord_1 : cX1_hasWord.data.toList.drop 1 = sX1_hasWord_1 := dn1 hX1_hasWord_0
theorem dX1_hasWord_1 : decode cX1_hasWord 1 = .ok (.iload_n 1, 1) := dk27 hX1_hasWord_1
theorem hX1_hasWord_2 : cX1_hasWord.data.toList.drop 2 = sX1_hasWord_2 := dn1 hX1_hasWord_1
theorem dX1_hasWord_2 : decode cX1_hasWord 2 = .ok (.invokevirtual 70, 3) := dk182 hX1_hasWord_2 rfl
theorem hX1_hasWord_5 : cX1_hasWord.data.toList.drop 5 = sX1_hasWord_5 := dn3 hX1_hasWord_2
theorem dX1_hasWord_5 : decode cX1_hasWord 5 = .ok (.ifCond .eq 16, 3) := dk153 hX1_hasWord_5 (by decide)
theorem hX1_hasWord_8 : cX1_hasWord.data.toList.drop 8 = sX1_hasWord_8 := dn3 hX1_hasWord_5
theorem dX1_hasWord_8 : decode cX1_hasWord 8 = .ok (.aload_n 0, 1) := dk42 hX1_hasWord_8
theorem hX1_hasWord_9 : cX1_hasWord.data.toList.drop 9 = sX1_hasWord_9 := dn1 hX1_hasWord_8
theorem dX1_hasWord_9 : decode cX1_hasWord 9 = .ok (.getfield 9, 3) := dk180 hX1_hasWord_9 rfl
theorem hX1_hasWord_12 : cX1_hasWord.data.toList.drop 12 = sX1_hasWord_12 := dn3 hX1_hasWord_9
theorem dX1_hasWord_12 : decode cX1_hasWord 12 = .ok (.iload_n 1, 1) := dk27 hX1_hasWord_12
theorem hX1_hasWord_13 : cX1_hasWord.data.toList.drop 13 = sX1_hasWord_13 := dn1 hX1_hasWord_12
theorem dX1_hasWord_13 : decode cX1_hasWord 13 = .ok (.iaload, 1) := dk46 hX1_hasWord_13
theorem hX1_hasWord_14 : cX1_hasWord.data.toList.drop 14 = sX1_hasWord_14 := dn1 hX1_hasWord_13
theorem dX1_hasWord_14 : decode cX1_hasWord 14 = .ok (.ifCond .ne 7, 3) := dk154 hX1_hasWord_14 (by decide)
theorem hX1_hasWord_17 : cX1_hasWord.data.toList.drop 17 = sX1_hasWord_17 := dn3 hX1_hasWord_14
theorem dX1_hasWord_17 : decode cX1_hasWord 17 = .ok (.iconst 1, 1) := dk4 hX1_hasWord_17
theorem hX1_hasWord_18 : cX1_hasWord.data.toList.drop 18 = sX1_hasWord_18 := dn1 hX1_hasWord_17
theorem dX1_hasWord_18 : decode cX1_hasWord 18 = .ok (.goto 4, 3) := dk167 hX1_hasWord_18 (by decide)
theorem hX1_hasWord_21 : cX1_hasWord.data.toList.drop 21 = sX1_hasWord_21 := dn3 hX1_hasWord_18
theorem dX1_hasWord_21 : decode cX1_hasWord 21 = .ok (.iconst 0, 1) := dk3 hX1_hasWord_21
theorem hX1_hasWord_22 : cX1_hasWord.data.toList.drop 22 = sX1_hasWord_22 := dn1 hX1_hasWord_21
theorem dX1_hasWord_22 : decode cX1_hasWord 22 = .ok (.ireturn, 1) := dk172 hX1_hasWord_22
noncomputable def sX1_init_105 : List UInt8 := 177 :: []
noncomputable def sX1_init_102 : List UInt8 := 181 :: 0 :: 52 :: sX1_init_105
noncomputable def sX1_init_101 : List UInt8 := 4 :: sX1_init_102
noncomputable def sX1_init_100 : List UInt8 := 42 :: sX1_init_101
noncomputable def sX1_init_97 : List UInt8 := 181 :: 0 :: 49 :: sX1_init_100
noncomputable def sX1_init_96 : List UInt8 := 2 :: sX1_init_97
noncomputable def sX1_init_95 : List UInt8 := 42 :: sX1_init_96
noncomputable def sX1_init_92 : List UInt8 := 181 :: 0 :: 45 :: sX1_init_95
noncomputable def sX1_init_91 : List UInt8 := 2 :: sX1_init_92
noncomputable def sX1_init_90 : List UInt8 := 42 :: sX1_init_91
noncomputable def sX1_init_87 : List UInt8 := 181 :: 0 :: 42 :: sX1_init_90
noncomputable def sX1_init_85 : List UInt8 := 188 :: 10 :: sX1_init_87
noncomputable def sX1_init_84 : List UInt8 := 7 :: sX1_init_85
noncomputable def sX1_init_83 : List UInt8 := 42 :: sX1_init_84
noncomputable def sX1_init_80 : List UInt8 := 181 :: 0 :: 39 :: sX1_init_83
noncomputable def sX1_init_78 : List UInt8 := 188 :: 10 :: sX1_init_80
noncomputable def sX1_init_77 : List UInt8 := 7 :: sX1_init_78
noncomputable def sX1_init_76 : List UInt8 := 42 :: sX1_init_77
noncomputable def sX1_init_73 : List UInt8 := 181 :: 0 :: 36 :: sX1_init_76
noncomputable def sX1_init_71 : List UInt8 := 188 :: 10 :: sX1_init_73
noncomputable def sX1_init_69 : List UInt8 := 16 :: 18 :: sX1_init_71
noncomputable def sX1_init_68 : List UInt8 := 42 :: sX1_init_69
noncomputable def sX1_init_65 : List UInt8 := 181 :: 0 :: 33 :: sX1_init_68
noncomputable def sX1_init_63 : List UInt8 := 188 :: 10 :: sX1_init_65
noncomputable def sX1_init_61 : List UInt8 := 16 :: 18 :: sX1_init_63
noncomputable def sX1_init_60 : List UInt8 := 42 :: sX1_init_61
noncomputable def sX1_init_57 : List UInt8 := 181 :: 0 :: 30 :: sX1_init_60
noncomputable def sX1_init_55 : List UInt8 := 188 :: 10 :: sX1_init_57
noncomputable def sX1_init_53 : List UInt8 := 16 :: 18 :: sX1_init_55
noncomputable def sX1_init_52 : List UInt8 := 42 :: sX1_init_53
noncomputable def sX1_init_49 : List UInt8 := 181 :: 0 :: 27 :: sX1_init_52
noncomputable def sX1_init_47 : List UInt8 := 188 :: 10 :: sX1_init_49
noncomputable def sX1_init_45 : List UInt8 := 16 :: 18 :: sX1_init_47
noncomputable def sX1_init_44 : List UInt8 := 42 :: sX1_init_45
noncomputable def sX1_init_41 : List UInt8 := 181 :: 0 :: 24 :: sX1_init_44
noncomputable def sX1_init_39 : List UInt8 := 188 :: 10 :: sX1_init_41
noncomputable def sX1_init_37 : List UInt8 := 16 :: 18 :: sX1_init_39
noncomputable def sX1_init_36 : List UInt8 := 42 :: sX1_init_37
noncomputable def sX1_init_33 : List UInt8 := 181 :: 0 :: 21 :: sX1_init_36
noncomputable def sX1_init_31 : List UInt8 := 188 :: 10 :: sX1_init_33
noncomputable def sX1_init_29 : List UInt8 := 16 :: 72 :: sX1_init_31
noncomputable def sX1_init_28 : List UInt8 := 42 :: sX1_init_29
noncomputable def sX1_init_25 : List UInt8 := 181 :: 0 :: 18 :: sX1_init_28
noncomputable def sX1_init_23 : List UInt8 := 188 :: 10 :: sX1_init_25
noncomputable def sX1_init_21 : List UInt8 := 16 :: 72 :: sX1_init_23
noncomputable def sX1_init_20 : List UInt8 := 42 :: sX1_init_21
noncomputable def sX1_init_17 : List UInt8 := 181 :: 0 :: 15 :: sX1_init_20
noncomputable def sX1_init_15 : List UInt8 := 188 :: 10 :: sX1_init_17
noncomputable def sX1_init_13 : List UInt8 := 16 :: 18 :: sX1_init_15
noncomputable def sX1_init_12 : List UInt8 := 42 :: sX1_init_13
noncomputable def sX1_init_9 : List UInt8 := 181 :: 0 :: 9 :: sX1_init_12
noncomputable def sX1_init_7 : List UInt8 := 188 :: 10 :: sX1_init_9
noncomputable def sX1_init_5 : List UInt8 := 16 :: 18 :: sX1_init_7
noncomputable def sX1_init_4 : List UInt8 := 42 :: sX1_init_5
noncomputable def sX1_init_1 : List UInt8 := 183 :: 0 :: 3 :: sX1_init_4
noncomputable def sX1_init_0 : List UInt8 := 42 :: sX1_init_1
set_option maxRecDepth 100000 in
theorem hX1_init_0 : cX1_init.data.toList.drop 0 = sX1_init_0 := by decide +kernel
theorem dX1_init_0 : decode cX1_init 0 = .ok (.aload_n 0, 1) := dk42 hX1_init_0
theorem hX1_init_1 : cX1_init.data.toList.drop 1 = sX1_init_1 := dn1 hX1_init_0
theorem dX1_init_1 : decode cX1_init 1 = .ok (.invokespecial 3, 3) := dk183 hX1_init_1 rfl
theorem hX1_init_4 : cX1_init.data.toList.drop 4 = sX1_init_4 := dn3 hX1_init_1
theorem dX1_init_4 : decode cX1_init 4 = .ok (.aload_n 0, 1) := dk42 hX1_init_4
theorem hX1_init_5 : cX1_init.data.toList.drop 5 = sX1_init_5 := dn1 hX1_init_4
theorem dX1_init_5 : decode cX1_init 5 = .ok (.bipush 18, 2) := dk16 hX1_init_5 (by decide)
theorem hX1_init_7 : cX1_init.data.toList.drop 7 = sX1_init_7 := dn2 hX1_init_5
set_option maxRecDepth 100000 in
theorem dX1_init_7 : decode cX1_init 7 = .ok (.newarray .int, 2) := by decide +kernel
theorem hX1_init_9 : cX1_init.data.toList.drop 9 = sX1_init_9 := dn2 hX1_init_7
theorem dX1_init_9 : decode cX1_init 9 = .ok (.putfield 9, 3) := dk181 hX1_init_9 rfl
theorem hX1_init_12 : cX1_init.data.toList.drop 12 = sX1_init_12 := dn3 hX1_init_9
theorem dX1_init_12 : decode cX1_init 12 = .ok (.aload_n 0, 1) := dk42 hX1_init_12
theorem hX1_init_13 : cX1_init.data.toList.drop 13 = sX1_init_13 := dn1 hX1_init_12
theorem dX1_init_13 : decode cX1_init 13 = .ok (.bipush 18, 2) := dk16 hX1_init_13 (by decide)
theorem hX1_init_15 : cX1_init.data.toList.drop 15 = sX1_init_15 := dn2 hX1_init_13
set_option maxRecDepth 100000 in
theorem dX1_init_15 : decode cX1_init 15 = .ok (.newarray .int, 2) := by decide +kernel
theorem hX1_init_17 : cX1_init.data.toList.drop 17 = sX1_init_17 := dn2 hX1_init_15
theorem dX1_init_17 : decode cX1_init 17 = .ok (.putfield 15, 3) := dk181 hX1_init_17 rfl
theorem hX1_init_20 : cX1_init.data.toList.drop 20 = sX1_init_20 := dn3 hX1_init_17
theorem dX1_init_20 : decode cX1_init 20 = .ok (.aload_n 0, 1) := dk42 hX1_init_20
theorem hX1_init_21 : cX1_init.data.toList.drop 21 = sX1_init_21 := dn1 hX1_init_20
theorem dX1_init_21 : decode cX1_init 21 = .ok (.bipush 72, 2) := dk16 hX1_init_21 (by decide)
theorem hX1_init_23 : cX1_init.data.toList.drop 23 = sX1_init_23 := dn2 hX1_init_21
set_option maxRecDepth 100000 in
theorem dX1_init_23 : decode cX1_init 23 = .ok (.newarray .int, 2) := by decide +kernel
theorem hX1_init_25 : cX1_init.data.toList.drop 25 = sX1_init_25 := dn2 hX1_init_23
theorem dX1_init_25 : decode cX1_init 25 = .ok (.putfield 18, 3) := dk181 hX1_init_25 rfl
theorem hX1_init_28 : cX1_init.data.toList.drop 28 = sX1_init_28 := dn3 hX1_init_25
theorem dX1_init_28 : decode cX1_init 28 = .ok (.aload_n 0, 1) := dk42 hX1_init_28
theorem hX1_init_29 : cX1_init.data.toList.drop 29 = sX1_init_29 := dn1 hX1_init_28
theorem dX1_init_29 : decode cX1_init 29 = .ok (.bipush 72, 2) := dk16 hX1_init_29 (by decide)
theorem hX1_init_31 : cX1_init.data.toList.drop 31 = sX1_init_31 := dn2 hX1_init_29
set_option maxRecDepth 100000 in
theorem dX1_init_31 : decode cX1_init 31 = .ok (.newarray .int, 2) := by decide +kernel
theorem hX1_init_33 : cX1_init.data.toList.drop 33 = sX1_init_33 := dn2 hX1_init_31
theorem dX1_init_33 : decode cX1_init 33 = .ok (.putfield 21, 3) := dk181 hX1_init_33 rfl
theorem hX1_init_36 : cX1_init.data.toList.drop 36 = sX1_init_36 := dn3 hX1_init_33
theorem dX1_init_36 : decode cX1_init 36 = .ok (.aload_n 0, 1) := dk42 hX1_init_36
theorem hX1_init_37 : cX1_init.data.toList.drop 37 = sX1_init_37 := dn1 hX1_init_36
theorem dX1_init_37 : decode cX1_init 37 = .ok (.bipush 18, 2) := dk16 hX1_init_37 (by decide)
theorem hX1_init_39 : cX1_init.data.toList.drop 39 = sX1_init_39 := dn2 hX1_init_37
set_option maxRecDepth 100000 in
theorem dX1_init_39 : decode cX1_init 39 = .ok (.newarray .int, 2) := by decide +kernel
theorem hX1_init_41 : cX1_init.data.toList.drop 41 = sX1_init_41 := dn2 hX1_init_39
theorem dX1_init_41 : decode cX1_init 41 = .ok (.putfield 24, 3) := dk181 hX1_init_41 rfl
theorem hX1_init_44 : cX1_init.data.toList.drop 44 = sX1_init_44 := dn3 hX1_init_41
theorem dX1_init_44 : decode cX1_init 44 = .ok (.aload_n 0, 1) := dk42 hX1_init_44
theorem hX1_init_45 : cX1_init.data.toList.drop 45 = sX1_init_45 := dn1 hX1_init_44
theorem dX1_init_45 : decode cX1_init 45 = .ok (.bipush 18, 2) := dk16 hX1_init_45 (by decide)
theorem hX1_init_47 : cX1_init.data.toList.drop 47 = sX1_init_47 := dn2 hX1_init_45
set_option maxRecDepth 100000 in
theorem dX1_init_47 : decode cX1_init 47 = .ok (.newarray .int, 2) := by decide +kernel
theorem hX1_init_49 : cX1_init.data.toList.drop 49 = sX1_init_49 := dn2 hX1_init_47
theorem dX1_init_49 : decode cX1_init 49 = .ok (.putfield 27, 3) := dk181 hX1_init_49 rfl
theorem hX1_init_52 : cX1_init.data.toList.drop 52 = sX1_init_52 := dn3 hX1_init_49
theorem dX1_init_52 : decode cX1_init 52 = .ok (.aload_n 0, 1) := dk42 hX1_init_52
theorem hX1_init_53 : cX1_init.data.toList.drop 53 = sX1_init_53 := dn1 hX1_init_52
theorem dX1_init_53 : decode cX1_init 53 = .ok (.bipush 18, 2) := dk16 hX1_init_53 (by decide)
theorem hX1_init_55 : cX1_init.data.toList.drop 55 = sX1_init_55 := dn2 hX1_init_53
set_option maxRecDepth 100000 in
theorem dX1_init_55 : decode cX1_init 55 = .ok (.newarray .int, 2) := by decide +kernel
theorem hX1_init_57 : cX1_init.data.toList.drop 57 = sX1_init_57 := dn2 hX1_init_55
theorem dX1_init_57 : decode cX1_init 57 = .ok (.putfield 30, 3) := dk181 hX1_init_57 rfl
theorem hX1_init_60 : cX1_init.data.toList.drop 60 = sX1_init_60 := dn3 hX1_init_57
theorem dX1_init_60 : decode cX1_init 60 = .ok (.aload_n 0, 1) := dk42 hX1_init_60
theorem hX1_init_61 : cX1_init.data.toList.drop 61 = sX1_init_61 := dn1 hX1_init_60
theorem dX1_init_61 : decode cX1_init 61 = .ok (.bipush 18, 2) := dk16 hX1_init_61 (by decide)
theorem hX1_init_63 : cX1_init.data.toList.drop 63 = sX1_init_63 := dn2 hX1_init_61
set_option maxRecDepth 100000 in
theorem dX1_init_63 : decode cX1_init 63 = .ok (.newarray .int, 2) := by decide +kernel
theorem hX1_init_65 : cX1_init.data.toList.drop 65 = sX1_init_65 := dn2 hX1_init_63
theorem dX1_init_65 : decode cX1_init 65 = .ok (.putfield 33, 3) := dk181 hX1_init_65 rfl
theorem hX1_init_68 : cX1_init.data.toList.drop 68 = sX1_init_68 := dn3 hX1_init_65
theorem dX1_init_68 : decode cX1_init 68 = .ok (.aload_n 0, 1) := dk42 hX1_init_68
theorem hX1_init_69 : cX1_init.data.toList.drop 69 = sX1_init_69 := dn1 hX1_init_68
theorem dX1_init_69 : decode cX1_init 69 = .ok (.bipush 18, 2) := dk16 hX1_init_69 (by decide)
theorem hX1_init_71 : cX1_init.data.toList.drop 71 = sX1_init_71 := dn2 hX1_init_69
set_option maxRecDepth 100000 in
theorem dX1_init_71 : decode cX1_init 71 = .ok (.newarray .int, 2) := by decide +kernel
theorem hX1_init_73 : cX1_init.data.toList.drop 73 = sX1_init_73 := dn2 hX1_init_71
theorem dX1_init_73 : decode cX1_init 73 = .ok (.putfield 36, 3) := dk181 hX1_init_73 rfl
theorem hX1_init_76 : cX1_init.data.toList.drop 76 = sX1_init_76 := dn3 hX1_init_73
theorem dX1_init_76 : decode cX1_init 76 = .ok (.aload_n 0, 1) := dk42 hX1_init_76
theorem hX1_init_77 : cX1_init.data.toList.drop 77 = sX1_init_77 := dn1 hX1_init_76
theorem dX1_init_77 : decode cX1_init 77 = .ok (.iconst 4, 1) := dk7 hX1_init_77
theorem hX1_init_78 : cX1_init.data.toList.drop 78 = sX1_init_78 := dn1 hX1_init_77
set_option maxRecDepth 100000 in
theorem dX1_init_78 : decode cX1_init 78 = .ok (.newarray .int, 2) := by decide +kernel
theorem hX1_init_80 : cX1_init.data.toList.drop 80 = sX1_init_80 := dn2 hX1_init_78
theorem dX1_init_80 : decode cX1_init 80 = .ok (.putfield 39, 3) := dk181 hX1_init_80 rfl
theorem hX1_init_83 : cX1_init.data.toList.drop 83 = sX1_init_83 := dn3 hX1_init_80
theorem dX1_init_83 : decode cX1_init 83 = .ok (.aload_n 0, 1) := dk42 hX1_init_83
theorem hX1_init_84 : cX1_init.data.toList.drop 84 = sX1_init_84 := dn1 hX1_init_83
theorem dX1_init_84 : decode cX1_init 84 = .ok (.iconst 4, 1) := dk7 hX1_init_84
theorem hX1_init_85 : cX1_init.data.toList.drop 85 = sX1_init_85 := dn1 hX1_init_84
set_option maxRecDepth 100000 in
theorem dX1_init_85 : decode cX1_init 85 = .ok (.newarray .int, 2) := by decide +kernel
theorem hX1_init_87 : cX1_init.data.toList.drop 87 = sX1_init_87 := dn2 hX1_init_85
theorem dX1_init_87 : decode cX1_init 87 = .ok (.putfield 42, 3) := dk181 hX1_init_87 rfl
theorem hX1_init_90 : cX1_init.data.toList.drop 90 = sX1_init_90 := dn3 hX1_init_87
theorem dX1_init_90 : decode cX1_init 90 = .ok (.aload_n 0, 1) := dk42 hX1_init_90
theorem hX1_init_91 : cX1_init.data.toList.drop 91 = sX1_init_91 := dn1 hX1_init_90
theorem dX1_init_91 : decode cX1_init 91 = .ok (.iconst (-1), 1) := dk2 hX1_init_91
theorem hX1_init_92 : cX1_init.data.toList.drop 92 = sX1_init_92 := dn1 hX1_init_91
theorem dX1_init_92 : decode cX1_init 92 = .ok (.putfield 45, 3) := dk181 hX1_init_92 rfl
theorem hX1_init_95 : cX1_init.data.toList.drop 95 = sX1_init_95 := dn3 hX1_init_92
theorem dX1_init_95 : decode cX1_init 95 = .ok (.aload_n 0, 1) := dk42 hX1_init_95
theorem hX1_init_96 : cX1_init.data.toList.drop 96 = sX1_init_96 := dn1 hX1_init_95
theorem dX1_init_96 : decode cX1_init 96 = .ok (.iconst (-1), 1) := dk2 hX1_init_96
theorem hX1_init_97 : cX1_init.data.toList.drop 97 = sX1_init_97 := dn1 hX1_init_96
theorem dX1_init_97 : decode cX1_init 97 = .ok (.putfield 49, 3) := dk181 hX1_init_97 rfl
theorem hX1_init_100 : cX1_init.data.toList.drop 100 = sX1_init_100 := dn3 hX1_init_97
theorem dX1_init_100 : decode cX1_init 100 = .ok (.aload_n 0, 1) := dk42 hX1_init_100
theorem hX1_init_101 : cX1_init.data.toList.drop 101 = sX1_init_101 := dn1 hX1_init_100
theorem dX1_init_101 : decode cX1_init 101 = .ok (.iconst 1, 1) := dk4 hX1_init_101
theorem hX1_init_102 : cX1_init.data.toList.drop 102 = sX1_init_102 := dn1 hX1_init_101
theorem dX1_init_102 : decode cX1_init 102 = .ok (.putfield 52, 3) := dk181 hX1_init_102 rfl
theorem hX1_init_105 : cX1_init.data.toList.drop 105 = sX1_init_105 := dn3 hX1_init_102
theorem dX1_init_105 : decode cX1_init 105 = .ok (.return_, 1) := dk177 hX1_init_105
noncomputable def sX1_isUnsure_29 : List UInt8 := 172 :: []
noncomputable def sX1_isUnsure_28 : List UInt8 := 3 :: sX1_isUnsure_29
noncomputable def sX1_isUnsure_25 : List UInt8 := 167 :: 255 :: 233 :: sX1_isUnsure_28
noncomputable def sX1_isUnsure_22 : List UInt8 := 132 :: 2 :: 1 :: sX1_isUnsure_25
noncomputable def sX1_isUnsure_21 : List UInt8 := 172 :: sX1_isUnsure_22
noncomputable def sX1_isUnsure_20 : List UInt8 := 4 :: sX1_isUnsure_21
noncomputable def sX1_isUnsure_17 : List UInt8 := 160 :: 0 :: 5 :: sX1_isUnsure_20
noncomputable def sX1_isUnsure_16 : List UInt8 := 27 :: sX1_isUnsure_17
noncomputable def sX1_isUnsure_15 : List UInt8 := 46 :: sX1_isUnsure_16
noncomputable def sX1_isUnsure_14 : List UInt8 := 28 :: sX1_isUnsure_15
noncomputable def sX1_isUnsure_11 : List UInt8 := 180 :: 0 :: 39 :: sX1_isUnsure_14
noncomputable def sX1_isUnsure_10 : List UInt8 := 42 :: sX1_isUnsure_11
noncomputable def sX1_isUnsure_7 : List UInt8 := 162 :: 0 :: 21 :: sX1_isUnsure_10
noncomputable def sX1_isUnsure_4 : List UInt8 := 180 :: 0 :: 64 :: sX1_isUnsure_7
noncomputable def sX1_isUnsure_3 : List UInt8 := 42 :: sX1_isUnsure_4
noncomputable def sX1_isUnsure_2 : List UInt8 := 28 :: sX1_isUnsure_3
noncomputable def sX1_isUnsure_1 : List UInt8 := 61 :: sX1_isUnsure_2
noncomputable def sX1_isUnsure_0 : List UInt8 := 3 :: sX1_isUnsure_1
set_option maxRecDepth 100000 in
theorem hX1_isUnsure_0 : cX1_isUnsure.data.toList.drop 0 = sX1_isUnsure_0 := by decide +kernel
theorem dX1_isUnsure_0 : decode cX1_isUnsure 0 = .ok (.iconst 0, 1) := dk3 hX1_isUnsure_0
theorem hX1_isUnsure_1 : cX1_isUnsure.data.toList.drop 1 = sX1_isUnsure_1 := dn1 hX1_isUnsure_0
theorem dX1_isUnsure_1 : decode cX1_isUnsure 1 = .ok (.istore_n 2, 1) := dk61 hX1_isUnsure_1
theorem hX1_isUnsure_2 : cX1_isUnsure.data.toList.drop 2 = sX1_isUnsure_2 := dn1 hX1_isUnsure_1
theorem dX1_isUnsure_2 : decode cX1_isUnsure 2 = .ok (.iload_n 2, 1) := dk28 hX1_isUnsure_2
theorem hX1_isUnsure_3 : cX1_isUnsure.data.toList.drop 3 = sX1_isUnsure_3 := dn1 hX1_isUnsure_2
theorem dX1_isUnsure_3 : decode cX1_isUnsure 3 = .ok (.aload_n 0, 1) := dk42 hX1_isUnsure_3
theorem hX1_isUnsure_4 : cX1_isUnsure.data.toList.drop 4 = sX1_isUnsure_4 := dn1 hX1_isUnsure_3
theorem dX1_isUnsure_4 : decode cX1_isUnsure 4 = .ok (.getfield 64, 3) := dk180 hX1_isUnsure_4 rfl
theorem hX1_isUnsure_7 : cX1_isUnsure.data.toList.drop 7 = sX1_isUnsure_7 := dn3 hX1_isUnsure_4
theorem dX1_isUnsure_7 : decode cX1_isUnsure 7 = .ok (.if_icmp .ge 21, 3) := dk162 hX1_isUnsure_7 (by decide)
theorem hX1_isUnsure_10 : cX1_isUnsure.data.toList.drop 10 = sX1_isUnsure_10 := dn3 hX1_isUnsure_7
theorem dX1_isUnsure_10 : decode cX1_isUnsure 10 = .ok (.aload_n 0, 1) := dk42 hX1_isUnsure_10
theorem hX1_isUnsure_11 : cX1_isUnsure.data.toList.drop 11 = sX1_isUnsure_11 := dn1 hX1_isUnsure_10
theorem dX1_isUnsure_11 : decode cX1_isUnsure 11 = .ok (.getfield 39, 3) := dk180 hX1_isUnsure_11 rfl
theorem hX1_isUnsure_14 : cX1_isUnsure.data.toList.drop 14 = sX1_isUnsure_14 := dn3 hX1_isUnsure_11
theorem dX1_isUnsure_14 : decode cX1_isUnsure 14 = .ok (.iload_n 2, 1) := dk28 hX1_isUnsure_14
theorem hX1_isUnsure_15 : cX1_isUnsure.data.toList.drop 15 = sX1_isUnsure_15 := dn1 hX1_isUnsure_14
theorem dX1_isUnsure_15 : decode cX1_isUnsure 15 = .ok (.iaload, 1) := dk46 hX1_isUnsure_15
theorem hX1_isUnsure_16 : cX1_isUnsure.data.toList.drop 16 = sX1_isUnsure_16 := dn1 hX1_isUnsure_15
theorem dX1_isUnsure_16 : decode cX1_isUnsure 16 = .ok (.iload_n 1, 1) := dk27 hX1_isUnsure_16
theorem hX1_isUnsure_17 : cX1_isUnsure.data.toList.drop 17 = sX1_isUnsure_17 := dn1 hX1_isUnsure_16
theorem dX1_isUnsure_17 : decode cX1_isUnsure 17 = .ok (.if_icmp .ne 5, 3) := dk160 hX1_isUnsure_17 (by decide)
theorem hX1_isUnsure_20 : cX1_isUnsure.data.toList.drop 20 = sX1_isUnsure_20 := dn3 hX1_isUnsure_17
theorem dX1_isUnsure_20 : decode cX1_isUnsure 20 = .ok (.iconst 1, 1) := dk4 hX1_isUnsure_20
theorem hX1_isUnsure_21 : cX1_isUnsure.data.toList.drop 21 = sX1_isUnsure_21 := dn1 hX1_isUnsure_20
theorem dX1_isUnsure_21 : decode cX1_isUnsure 21 = .ok (.ireturn, 1) := dk172 hX1_isUnsure_21
theorem hX1_isUnsure_22 : cX1_isUnsure.data.toList.drop 22 = sX1_isUnsure_22 := dn1 hX1_isUnsure_21
theorem dX1_isUnsure_22 : decode cX1_isUnsure 22 = .ok (.iinc 2 1, 3) := dk132 hX1_isUnsure_22 rfl (by decide)
theorem hX1_isUnsure_25 : cX1_isUnsure.data.toList.drop 25 = sX1_isUnsure_25 := dn3 hX1_isUnsure_22
theorem dX1_isUnsure_25 : decode cX1_isUnsure 25 = .ok (.goto (-23), 3) := dk167 hX1_isUnsure_25 (by decide)
theorem hX1_isUnsure_28 : cX1_isUnsure.data.toList.drop 28 = sX1_isUnsure_28 := dn3 hX1_isUnsure_25
theorem dX1_isUnsure_28 : decode cX1_isUnsure 28 = .ok (.iconst 0, 1) := dk3 hX1_isUnsure_28
theorem hX1_isUnsure_29 : cX1_isUnsure.data.toList.drop 29 = sX1_isUnsure_29 := dn1 hX1_isUnsure_28
theorem dX1_isUnsure_29 : decode cX1_isUnsure 29 = .ok (.ireturn, 1) := dk172 hX1_isUnsure_29
noncomputable def sX1_likelihood_50 : List UInt8 := 173 :: []
noncomputable def sX1_likelihood_49 : List UInt8 := 32 :: sX1_likelihood_50
noncomputable def sX1_likelihood_46 : List UInt8 := 167 :: 255 :: 215 :: sX1_likelihood_49
noncomputable def sX1_likelihood_43 : List UInt8 := 132 :: 4 :: 1 :: sX1_likelihood_46
noncomputable def sX1_likelihood_42 : List UInt8 := 65 :: sX1_likelihood_43
noncomputable def sX1_likelihood_41 : List UInt8 := 105 :: sX1_likelihood_42
noncomputable def sX1_likelihood_40 : List UInt8 := 133 :: sX1_likelihood_41
noncomputable def sX1_likelihood_39 : List UInt8 := 100 :: sX1_likelihood_40
noncomputable def sX1_likelihood_36 : List UInt8 := 180 :: 0 :: 67 :: sX1_likelihood_39
noncomputable def sX1_likelihood_35 : List UInt8 := 42 :: sX1_likelihood_36
noncomputable def sX1_likelihood_33 : List UInt8 := 16 :: 100 :: sX1_likelihood_35
noncomputable def sX1_likelihood_30 : List UInt8 := 167 :: 0 :: 11 :: sX1_likelihood_33
noncomputable def sX1_likelihood_29 : List UInt8 := 133 :: sX1_likelihood_30
noncomputable def sX1_likelihood_26 : List UInt8 := 180 :: 0 :: 67 :: sX1_likelihood_29
noncomputable def sX1_likelihood_25 : List UInt8 := 42 :: sX1_likelihood_26
noncomputable def sX1_likelihood_22 : List UInt8 := 160 :: 0 :: 11 :: sX1_likelihood_25
noncomputable def sX1_likelihood_21 : List UInt8 := 4 :: sX1_likelihood_22
noncomputable def sX1_likelihood_20 : List UInt8 := 126 :: sX1_likelihood_21
noncomputable def sX1_likelihood_19 : List UInt8 := 4 :: sX1_likelihood_20
noncomputable def sX1_likelihood_18 : List UInt8 := 122 :: sX1_likelihood_19
noncomputable def sX1_likelihood_16 : List UInt8 := 21 :: 4 :: sX1_likelihood_18
noncomputable def sX1_likelihood_15 : List UInt8 := 27 :: sX1_likelihood_16
noncomputable def sX1_likelihood_14 : List UInt8 := 32 :: sX1_likelihood_15
noncomputable def sX1_likelihood_11 : List UInt8 := 162 :: 0 :: 38 :: sX1_likelihood_14
noncomputable def sX1_likelihood_8 : List UInt8 := 180 :: 0 :: 64 :: sX1_likelihood_11
noncomputable def sX1_likelihood_7 : List UInt8 := 42 :: sX1_likelihood_8
noncomputable def sX1_likelihood_5 : List UInt8 := 21 :: 4 :: sX1_likelihood_7
noncomputable def sX1_likelihood_3 : List UInt8 := 54 :: 4 :: sX1_likelihood_5
noncomputable def sX1_likelihood_2 : List UInt8 := 3 :: sX1_likelihood_3
noncomputable def sX1_likelihood_1 : List UInt8 := 65 :: sX1_likelihood_2
noncomputable def sX1_likelihood_0 : List UInt8 := 10 :: sX1_likelihood_1
set_option maxRecDepth 100000 in
theorem hX1_likelihood_0 : cX1_likelihood.data.toList.drop 0 = sX1_likelihood_0 := by decide +kernel
theorem dX1_likelihood_0 : decode cX1_likelihood 0 = .ok (.lconst 1, 1) := dk10 hX1_likelihood_0
theorem hX1_likelihood_1 : cX1_likelihood.data.toList.drop 1 = sX1_likelihood_1 := dn1 hX1_likelihood_0
theorem dX1_likelihood_1 : decode cX1_likelihood 1 = .ok (.lstore_n 2, 1) := dk65 hX1_likelihood_1
theorem hX1_likelihood_2 : cX1_likelihood.data.toList.drop 2 = sX1_likelihood_2 := dn1 hX1_likelihood_1
theorem dX1_likelihood_2 : decode cX1_likelihood 2 = .ok (.iconst 0, 1) := dk3 hX1_likelihood_2
theorem hX1_likelihood_3 : cX1_likelihood.data.toList.drop 3 = sX1_likelihood_3 := dn1 hX1_likelihood_2
theorem dX1_likelihood_3 : decode cX1_likelihood 3 = .ok (.istore 4, 2) := dk54 hX1_likelihood_3 rfl
theorem hX1_likelihood_5 : cX1_likelihood.data.toList.drop 5 = sX1_likelihood_5 := dn2 hX1_likelihood_3
theorem dX1_likelihood_5 : decode cX1_likelihood 5 = .ok (.iload 4, 2) := dk21 hX1_likelihood_5 rfl
theorem hX1_likelihood_7 : cX1_likelihood.data.toList.drop 7 = sX1_likelihood_7 := dn2 hX1_likelihood_5
theorem dX1_likelihood_7 : decode cX1_likelihood 7 = .ok (.aload_n 0, 1) := dk42 hX1_likelihood_7
theorem hX1_likelihood_8 : cX1_likelihood.data.toList.drop 8 = sX1_likelihood_8 := dn1 hX1_likelihood_7
theorem dX1_likelihood_8 : decode cX1_likelihood 8 = .ok (.getfield 64, 3) := dk180 hX1_likelihood_8 rfl
theorem hX1_likelihood_11 : cX1_likelihood.data.toList.drop 11 = sX1_likelihood_11 := dn3 hX1_likelihood_8
theorem dX1_likelihood_11 : decode cX1_likelihood 11 = .ok (.if_icmp .ge 38, 3) := dk162 hX1_likelihood_11 (by decide)
theorem hX1_likelihood_14 : cX1_likelihood.data.toList.drop 14 = sX1_likelihood_14 := dn3 hX1_likelihood_11
theorem dX1_likelihood_14 : decode cX1_likelihood 14 = .ok (.lload_n 2, 1) := dk32 hX1_likelihood_14
theorem hX1_likelihood_15 : cX1_likelihood.data.toList.drop 15 = sX1_likelihood_15 := dn1 hX1_likelihood_14
theorem dX1_likelihood_15 : decode cX1_likelihood 15 = .ok (.iload_n 1, 1) := dk27 hX1_likelihood_15
theorem hX1_likelihood_16 : cX1_likelihood.data.toList.drop 16 = sX1_likelihood_16 := dn1 hX1_likelihood_15
theorem dX1_likelihood_16 : decode cX1_likelihood 16 = .ok (.iload 4, 2) := dk21 hX1_likelihood_16 rfl
theorem hX1_likelihood_18 : cX1_likelihood.data.toList.drop 18 = sX1_likelihood_18 := dn2 hX1_likelihood_16
theorem dX1_likelihood_18 : decode cX1_likelihood 18 = .ok (.ishr, 1) := dk122 hX1_likelihood_18
theorem hX1_likelihood_19 : cX1_likelihood.data.toList.drop 19 = sX1_likelihood_19 := dn1 hX1_likelihood_18
theorem dX1_likelihood_19 : decode cX1_likelihood 19 = .ok (.iconst 1, 1) := dk4 hX1_likelihood_19
theorem hX1_likelihood_20 : cX1_likelihood.data.toList.drop 20 = sX1_likelihood_20 := dn1 hX1_likelihood_19
theorem dX1_likelihood_20 : decode cX1_likelihood 20 = .ok (.iand, 1) := dk126 hX1_likelihood_20
theorem hX1_likelihood_21 : cX1_likelihood.data.toList.drop 21 = sX1_likelihood_21 := dn1 hX1_likelihood_20
theorem dX1_likelihood_21 : decode cX1_likelihood 21 = .ok (.iconst 1, 1) := dk4 hX1_likelihood_21
theorem hX1_likelihood_22 : cX1_likelihood.data.toList.drop 22 = sX1_likelihood_22 := dn1 hX1_likelihood_21
theorem dX1_likelihood_22 : decode cX1_likelihood 22 = .ok (.if_icmp .ne 11, 3) := dk160 hX1_likelihood_22 (by decide)
theorem hX1_likelihood_25 : cX1_likelihood.data.toList.drop 25 = sX1_likelihood_25 := dn3 hX1_likelihood_22
theorem dX1_likelihood_25 : decode cX1_likelihood 25 = .ok (.aload_n 0, 1) := dk42 hX1_likelihood_25
theorem hX1_likelihood_26 : cX1_likelihood.data.toList.drop 26 = sX1_likelihood_26 := dn1 hX1_likelihood_25
theorem dX1_likelihood_26 : decode cX1_likelihood 26 = .ok (.getfield 67, 3) := dk180 hX1_likelihood_26 rfl
theorem hX1_likelihood_29 : cX1_likelihood.data.toList.drop 29 = sX1_likelihood_29 := dn3 hX1_likelihood_26
theorem dX1_likelihood_29 : decode cX1_likelihood 29 = .ok (.i2l, 1) := dk133 hX1_likelihood_29
theorem hX1_likelihood_30 : cX1_likelihood.data.toList.drop 30 = sX1_likelihood_30 := dn1 hX1_likelihood_29
theorem dX1_likelihood_30 : decode cX1_likelihood 30 = .ok (.goto 11, 3) := dk167 hX1_likelihood_30 (by decide)
theorem hX1_likelihood_33 : cX1_likelihood.data.toList.drop 33 = sX1_likelihood_33 := dn3 hX1_likelihood_30
theorem dX1_likelihood_33 : decode cX1_likelihood 33 = .ok (.bipush 100, 2) := dk16 hX1_likelihood_33 (by decide)
theorem hX1_likelihood_35 : cX1_likelihood.data.toList.drop 35 = sX1_likelihood_35 := dn2 hX1_likelihood_33
theorem dX1_likelihood_35 : decode cX1_likelihood 35 = .ok (.aload_n 0, 1) := dk42 hX1_likelihood_35
theorem hX1_likelihood_36 : cX1_likelihood.data.toList.drop 36 = sX1_likelihood_36 := dn1 hX1_likelihood_35
theorem dX1_likelihood_36 : decode cX1_likelihood 36 = .ok (.getfield 67, 3) := dk180 hX1_likelihood_36 rfl
theorem hX1_likelihood_39 : cX1_likelihood.data.toList.drop 39 = sX1_likelihood_39 := dn3 hX1_likelihood_36
theorem dX1_likelihood_39 : decode cX1_likelihood 39 = .ok (.isub, 1) := dk100 hX1_likelihood_39
theorem hX1_likelihood_40 : cX1_likelihood.data.toList.drop 40 = sX1_likelihood_40 := dn1 hX1_likelihood_39
theorem dX1_likelihood_40 : decode cX1_likelihood 40 = .ok (.i2l, 1) := dk133 hX1_likelihood_40
theorem hX1_likelihood_41 : cX1_likelihood.data.toList.drop 41 = sX1_likelihood_41 := dn1 hX1_likelihood_40
theorem dX1_likelihood_41 : decode cX1_likelihood 41 = .ok (.lmul, 1) := dk105 hX1_likelihood_41
theorem hX1_likelihood_42 : cX1_likelihood.data.toList.drop 42 = sX1_likelihood_42 := dn1 hX1_likelihood_41
theorem dX1_likelihood_42 : decode cX1_likelihood 42 = .ok (.lstore_n 2, 1) := dk65 hX1_likelihood_42
theorem hX1_likelihood_43 : cX1_likelihood.data.toList.drop 43 = sX1_likelihood_43 := dn1 hX1_likelihood_42
theorem dX1_likelihood_43 : decode cX1_likelihood 43 = .ok (.iinc 4 1, 3) := dk132 hX1_likelihood_43 rfl (by decide)
theorem hX1_likelihood_46 : cX1_likelihood.data.toList.drop 46 = sX1_likelihood_46 := dn3 hX1_likelihood_43
theorem dX1_likelihood_46 : decode cX1_likelihood 46 = .ok (.goto (-41), 3) := dk167 hX1_likelihood_46 (by decide)
theorem hX1_likelihood_49 : cX1_likelihood.data.toList.drop 49 = sX1_likelihood_49 := dn3 hX1_likelihood_46
theorem dX1_likelihood_49 : decode cX1_likelihood 49 = .ok (.lload_n 2, 1) := dk32 hX1_likelihood_49
theorem hX1_likelihood_50 : cX1_likelihood.data.toList.drop 50 = sX1_likelihood_50 := dn1 hX1_likelihood_49
theorem dX1_likelihood_50 : decode cX1_likelihood 50 = .ok (.lreturn, 1) := dk173 hX1_likelihood_50
noncomputable def sX1_placeOfPart_47 : List UInt8 := 172 :: []
noncomputable def sX1_placeOfPart_46 : List UInt8 := 2 :: sX1_placeOfPart_47
noncomputable def sX1_placeOfPart_43 : List UInt8 := 167 :: 255 :: 227 :: sX1_placeOfPart_46
noncomputable def sX1_placeOfPart_40 : List UInt8 := 132 :: 3 :: 1 :: sX1_placeOfPart_43
noncomputable def sX1_placeOfPart_39 : List UInt8 := 172 :: sX1_placeOfPart_40
noncomputable def sX1_placeOfPart_38 : List UInt8 := 29 :: sX1_placeOfPart_39
noncomputable def sX1_placeOfPart_35 : List UInt8 := 160 :: 0 :: 5 :: sX1_placeOfPart_38
noncomputable def sX1_placeOfPart_34 : List UInt8 := 28 :: sX1_placeOfPart_35
noncomputable def sX1_placeOfPart_33 : List UInt8 := 46 :: sX1_placeOfPart_34
noncomputable def sX1_placeOfPart_32 : List UInt8 := 96 :: sX1_placeOfPart_33
noncomputable def sX1_placeOfPart_31 : List UInt8 := 29 :: sX1_placeOfPart_32
noncomputable def sX1_placeOfPart_30 : List UInt8 := 104 :: sX1_placeOfPart_31
noncomputable def sX1_placeOfPart_29 : List UInt8 := 7 :: sX1_placeOfPart_30
noncomputable def sX1_placeOfPart_28 : List UInt8 := 27 :: sX1_placeOfPart_29
noncomputable def sX1_placeOfPart_25 : List UInt8 := 180 :: 0 :: 18 :: sX1_placeOfPart_28
noncomputable def sX1_placeOfPart_24 : List UInt8 := 42 :: sX1_placeOfPart_25
noncomputable def sX1_placeOfPart_21 : List UInt8 := 162 :: 0 :: 25 :: sX1_placeOfPart_24
noncomputable def sX1_placeOfPart_20 : List UInt8 := 46 :: sX1_placeOfPart_21
noncomputable def sX1_placeOfPart_19 : List UInt8 := 27 :: sX1_placeOfPart_20
noncomputable def sX1_placeOfPart_16 : List UInt8 := 180 :: 0 :: 15 :: sX1_placeOfPart_19
noncomputable def sX1_placeOfPart_15 : List UInt8 := 42 :: sX1_placeOfPart_16
noncomputable def sX1_placeOfPart_14 : List UInt8 := 29 :: sX1_placeOfPart_15
noncomputable def sX1_placeOfPart_13 : List UInt8 := 62 :: sX1_placeOfPart_14
noncomputable def sX1_placeOfPart_12 : List UInt8 := 3 :: sX1_placeOfPart_13
noncomputable def sX1_placeOfPart_11 : List UInt8 := 172 :: sX1_placeOfPart_12
noncomputable def sX1_placeOfPart_10 : List UInt8 := 2 :: sX1_placeOfPart_11
noncomputable def sX1_placeOfPart_7 : List UInt8 := 161 :: 0 :: 5 :: sX1_placeOfPart_10
noncomputable def sX1_placeOfPart_5 : List UInt8 := 16 :: 18 :: sX1_placeOfPart_7
noncomputable def sX1_placeOfPart_4 : List UInt8 := 27 :: sX1_placeOfPart_5
noncomputable def sX1_placeOfPart_1 : List UInt8 := 155 :: 0 :: 9 :: sX1_placeOfPart_4
noncomputable def sX1_placeOfPart_0 : List UInt8 := 27 :: sX1_placeOfPart_1
set_option maxRecDepth 100000 in
theorem hX1_placeOfPart_0 : cX1_placeOfPart.data.toList.drop 0 = sX1_placeOfPart_0 := by decide +kernel
theorem dX1_placeOfPart_0 : decode cX1_placeOfPart 0 = .ok (.iload_n 1, 1) := dk27 hX1_placeOfPart_0
theorem hX1_placeOfPart_1 : cX1_placeOfPart.data.toList.drop 1 = sX1_placeOfPart_1 := dn1 hX1_placeOfPart_0
theorem dX1_placeOfPart_1 : decode cX1_placeOfPart 1 = .ok (.ifCond .lt 9, 3) := dk155 hX1_placeOfPart_1 (by decide)
theorem hX1_placeOfPart_4 : cX1_placeOfPart.data.toList.drop 4 = sX1_placeOfPart_4 := dn3 hX1_placeOfPart_1
theorem dX1_placeOfPart_4 : decode cX1_placeOfPart 4 = .ok (.iload_n 1, 1) := dk27 hX1_placeOfPart_4
theorem hX1_placeOfPart_5 : cX1_placeOfPart.data.toList.drop 5 = sX1_placeOfPart_5 := dn1 hX1_placeOfPart_4
theorem dX1_placeOfPart_5 : decode cX1_placeOfPart 5 = .ok (.bipush 18, 2) := dk16 hX1_placeOfPart_5 (by decide)
theorem hX1_placeOfPart_7 : cX1_placeOfPart.data.toList.drop 7 = sX1_placeOfPart_7 := dn2 hX1_placeOfPart_5
theorem dX1_placeOfPart_7 : decode cX1_placeOfPart 7 = .ok (.if_icmp .lt 5, 3) := dk161 hX1_placeOfPart_7 (by decide)
theorem hX1_placeOfPart_10 : cX1_placeOfPart.data.toList.drop 10 = sX1_placeOfPart_10 := dn3 hX1_placeOfPart_7
theorem dX1_placeOfPart_10 : decode cX1_placeOfPart 10 = .ok (.iconst (-1), 1) := dk2 hX1_placeOfPart_10
theorem hX1_placeOfPart_11 : cX1_placeOfPart.data.toList.drop 11 = sX1_placeOfPart_11 := dn1 hX1_placeOfPart_10
theorem dX1_placeOfPart_11 : decode cX1_placeOfPart 11 = .ok (.ireturn, 1) := dk172 hX1_placeOfPart_11
theorem hX1_placeOfPart_12 : cX1_placeOfPart.data.toList.drop 12 = sX1_placeOfPart_12 := dn1 hX1_placeOfPart_11
theorem dX1_placeOfPart_12 : decode cX1_placeOfPart 12 = .ok (.iconst 0, 1) := dk3 hX1_placeOfPart_12
theorem hX1_placeOfPart_13 : cX1_placeOfPart.data.toList.drop 13 = sX1_placeOfPart_13 := dn1 hX1_placeOfPart_12
theorem dX1_placeOfPart_13 : decode cX1_placeOfPart 13 = .ok (.istore_n 3, 1) := dk62 hX1_placeOfPart_13
theorem hX1_placeOfPart_14 : cX1_placeOfPart.data.toList.drop 14 = sX1_placeOfPart_14 := dn1 hX1_placeOfPart_13
theorem dX1_placeOfPart_14 : decode cX1_placeOfPart 14 = .ok (.iload_n 3, 1) := dk29 hX1_placeOfPart_14
theorem hX1_placeOfPart_15 : cX1_placeOfPart.data.toList.drop 15 = sX1_placeOfPart_15 := dn1 hX1_placeOfPart_14
theorem dX1_placeOfPart_15 : decode cX1_placeOfPart 15 = .ok (.aload_n 0, 1) := dk42 hX1_placeOfPart_15
theorem hX1_placeOfPart_16 : cX1_placeOfPart.data.toList.drop 16 = sX1_placeOfPart_16 := dn1 hX1_placeOfPart_15
theorem dX1_placeOfPart_16 : decode cX1_placeOfPart 16 = .ok (.getfield 15, 3) := dk180 hX1_placeOfPart_16 rfl
theorem hX1_placeOfPart_19 : cX1_placeOfPart.data.toList.drop 19 = sX1_placeOfPart_19 := dn3 hX1_placeOfPart_16
theorem dX1_placeOfPart_19 : decode cX1_placeOfPart 19 = .ok (.iload_n 1, 1) := dk27 hX1_placeOfPart_19
theorem hX1_placeOfPart_20 : cX1_placeOfPart.data.toList.drop 20 = sX1_placeOfPart_20 := dn1 hX1_placeOfPart_19
theorem dX1_placeOfPart_20 : decode cX1_placeOfPart 20 = .ok (.iaload, 1) := dk46 hX1_placeOfPart_20
theorem hX1_placeOfPart_21 : cX1_placeOfPart.data.toList.drop 21 = sX1_placeOfPart_21 := dn1 hX1_placeOfPart_20
theorem dX1_placeOfPart_21 : decode cX1_placeOfPart 21 = .ok (.if_icmp .ge 25, 3) := dk162 hX1_placeOfPart_21 (by decide)
theorem hX1_placeOfPart_24 : cX1_placeOfPart.data.toList.drop 24 = sX1_placeOfPart_24 := dn3 hX1_placeOfPart_21
theorem dX1_placeOfPart_24 : decode cX1_placeOfPart 24 = .ok (.aload_n 0, 1) := dk42 hX1_placeOfPart_24
theorem hX1_placeOfPart_25 : cX1_placeOfPart.data.toList.drop 25 = sX1_placeOfPart_25 := dn1 hX1_placeOfPart_24
theorem dX1_placeOfPart_25 : decode cX1_placeOfPart 25 = .ok (.getfield 18, 3) := dk180 hX1_placeOfPart_25 rfl
theorem hX1_placeOfPart_28 : cX1_placeOfPart.data.toList.drop 28 = sX1_placeOfPart_28 := dn3 hX1_placeOfPart_25
theorem dX1_placeOfPart_28 : decode cX1_placeOfPart 28 = .ok (.iload_n 1, 1) := dk27 hX1_placeOfPart_28
theorem hX1_placeOfPart_29 : cX1_placeOfPart.data.toList.drop 29 = sX1_placeOfPart_29 := dn1 hX1_placeOfPart_28
theorem dX1_placeOfPart_29 : decode cX1_placeOfPart 29 = .ok (.iconst 4, 1) := dk7 hX1_placeOfPart_29
theorem hX1_placeOfPart_30 : cX1_placeOfPart.data.toList.drop 30 = sX1_placeOfPart_30 := dn1 hX1_placeOfPart_29
theorem dX1_placeOfPart_30 : decode cX1_placeOfPart 30 = .ok (.imul, 1) := dk104 hX1_placeOfPart_30
theorem hX1_placeOfPart_31 : cX1_placeOfPart.data.toList.drop 31 = sX1_placeOfPart_31 := dn1 hX1_placeOfPart_30
theorem dX1_placeOfPart_31 : decode cX1_placeOfPart 31 = .ok (.iload_n 3, 1) := dk29 hX1_placeOfPart_31
theorem hX1_placeOfPart_32 : cX1_placeOfPart.data.toList.drop 32 = sX1_placeOfPart_32 := dn1 hX1_placeOfPart_31
theorem dX1_placeOfPart_32 : decode cX1_placeOfPart 32 = .ok (.iadd, 1) := dk96 hX1_placeOfPart_32
theorem hX1_placeOfPart_33 : cX1_placeOfPart.data.toList.drop 33 = sX1_placeOfPart_33 := dn1 hX1_placeOfPart_32
theorem dX1_placeOfPart_33 : decode cX1_placeOfPart 33 = .ok (.iaload, 1) := dk46 hX1_placeOfPart_33
theorem hX1_placeOfPart_34 : cX1_placeOfPart.data.toList.drop 34 = sX1_placeOfPart_34 := dn1 hX1_placeOfPart_33
theorem dX1_placeOfPart_34 : decode cX1_placeOfPart 34 = .ok (.iload_n 2, 1) := dk28 hX1_placeOfPart_34
theorem hX1_placeOfPart_35 : cX1_placeOfPart.data.toList.drop 35 = sX1_placeOfPart_35 := dn1 hX1_placeOfPart_34
theorem dX1_placeOfPart_35 : decode cX1_placeOfPart 35 = .ok (.if_icmp .ne 5, 3) := dk160 hX1_placeOfPart_35 (by decide)
theorem hX1_placeOfPart_38 : cX1_placeOfPart.data.toList.drop 38 = sX1_placeOfPart_38 := dn3 hX1_placeOfPart_35
theorem dX1_placeOfPart_38 : decode cX1_placeOfPart 38 = .ok (.iload_n 3, 1) := dk29 hX1_placeOfPart_38
theorem hX1_placeOfPart_39 : cX1_placeOfPart.data.toList.drop 39 = sX1_placeOfPart_39 := dn1 hX1_placeOfPart_38
theorem dX1_placeOfPart_39 : decode cX1_placeOfPart 39 = .ok (.ireturn, 1) := dk172 hX1_placeOfPart_39
theorem hX1_placeOfPart_40 : cX1_placeOfPart.data.toList.drop 40 = sX1_placeOfPart_40 := dn1 hX1_placeOfPart_39
theorem dX1_placeOfPart_40 : decode cX1_placeOfPart 40 = .ok (.iinc 3 1, 3) := dk132 hX1_placeOfPart_40 rfl (by decide)
theorem hX1_placeOfPart_43 : cX1_placeOfPart.data.toList.drop 43 = sX1_placeOfPart_43 := dn3 hX1_placeOfPart_40
theorem dX1_placeOfPart_43 : decode cX1_placeOfPart 43 = .ok (.goto (-29), 3) := dk167 hX1_placeOfPart_43 (by decide)
theorem hX1_placeOfPart_46 : cX1_placeOfPart.data.toList.drop 46 = sX1_placeOfPart_46 := dn3 hX1_placeOfPart_43
theorem dX1_placeOfPart_46 : decode cX1_placeOfPart 46 = .ok (.iconst (-1), 1) := dk2 hX1_placeOfPart_46
theorem hX1_placeOfPart_47 : cX1_placeOfPart.data.toList.drop 47 = sX1_placeOfPart_47 := dn1 hX1_placeOfPart_46
theorem dX1_placeOfPart_47 : decode cX1_placeOfPart 47 = .ok (.ireturn, 1) := dk172 hX1_placeOfPart_47
noncomputable def sX1_unsureSets_6 : List UInt8 := 172 :: []
noncomputable def sX1_unsureSets_5 : List UInt8 := 120 :: sX1_unsureSets_6
noncomputable def sX1_unsureSets_2 : List UInt8 := 180 :: 0 :: 64 :: sX1_unsureSets_5
noncomputable def sX1_unsureSets_1 : List UInt8 := 42 :: sX1_unsureSets_2
noncomputable def sX1_unsureSets_0 : List UInt8 := 4 :: sX1_unsureSets_1
set_option maxRecDepth 100000 in
theorem hX1_unsureSets_0 : cX1_unsureSets.data.toList.drop 0 = sX1_unsureSets_0 := by decide +kernel
theorem dX1_unsureSets_0 : decode cX1_unsureSets 0 = .ok (.iconst 1, 1) := dk4 hX1_unsureSets_0
theorem hX1_unsureSets_1 : cX1_unsureSets.data.toList.drop 1 = sX1_unsureSets_1 := dn1 hX1_unsureSets_0
theorem dX1_unsureSets_1 : decode cX1_unsureSets 1 = .ok (.aload_n 0, 1) := dk42 hX1_unsureSets_1
theorem hX1_unsureSets_2 : cX1_unsureSets.data.toList.drop 2 = sX1_unsureSets_2 := dn1 hX1_unsureSets_1
theorem dX1_unsureSets_2 : decode cX1_unsureSets 2 = .ok (.getfield 64, 3) := dk180 hX1_unsureSets_2 rfl
theorem hX1_unsureSets_5 : cX1_unsureSets.data.toList.drop 5 = sX1_unsureSets_5 := dn3 hX1_unsureSets_2
theorem dX1_unsureSets_5 : decode cX1_unsureSets 5 = .ok (.ishl, 1) := dk120 hX1_unsureSets_5
theorem hX1_unsureSets_6 : cX1_unsureSets.data.toList.drop 6 = sX1_unsureSets_6 := dn1 hX1_unsureSets_5
theorem dX1_unsureSets_6 : decode cX1_unsureSets 6 = .ok (.ireturn, 1) := dk172 hX1_unsureSets_6
