noncomputable def sX2_aboveAll_7 : List UInt8 := 172 :: []
noncomputable def sX2_aboveAll_6 : List UInt8 := 104 :: sX2_aboveAll_7
noncomputable def sX2_aboveAll_3 : List UInt8 := 180 :: 0 :: 18 :: sX2_aboveAll_6
noncomputable def sX2_aboveAll_2 : List UInt8 := 42 :: sX2_aboveAll_3
noncomputable def sX2_aboveAll_0 : List UInt8 := 16 :: 100 :: sX2_aboveAll_2
set_option maxRecDepth 100000 in
theorem hX2_aboveAll_0 : cX2_aboveAll.data.toList.drop 0 = sX2_aboveAll_0 := by decide +kernel
theorem dX2_aboveAll_0 : decode cX2_aboveAll 0 = .ok (.bipush 100, 2) := dk16 hX2_aboveAll_0 (by decide)
theorem hX2_aboveAll_2 : cX2_aboveAll.data.toList.drop 2 = sX2_aboveAll_2 := dn2 hX2_aboveAll_0
theorem dX2_aboveAll_2 : decode cX2_aboveAll 2 = .ok (.aload_n 0, 1) := dk42 hX2_aboveAll_2
theorem hX2_aboveAll_3 : cX2_aboveAll.data.toList.drop 3 = sX2_aboveAll_3 := dn1 hX2_aboveAll_2
theorem dX2_aboveAll_3 : decode cX2_aboveAll 3 = .ok (.getfield 18, 3) := dk180 hX2_aboveAll_3 rfl
theorem hX2_aboveAll_6 : cX2_aboveAll.data.toList.drop 6 = sX2_aboveAll_6 := dn3 hX2_aboveAll_3
theorem dX2_aboveAll_6 : decode cX2_aboveAll 6 = .ok (.imul, 1) := dk104 hX2_aboveAll_6
theorem hX2_aboveAll_7 : cX2_aboveAll.data.toList.drop 7 = sX2_aboveAll_7 := dn1 hX2_aboveAll_6
theorem dX2_aboveAll_7 : decode cX2_aboveAll 7 = .ok (.ireturn, 1) := dk172 hX2_aboveAll_7
noncomputable def sX2_askByHalves_94 : List UInt8 := 177 :: []
noncomputable def sX2_askByHalves_91 : List UInt8 := 167 :: 255 :: 184 :: sX2_askByHalves_94
noncomputable def sX2_askByHalves_88 : List UInt8 := 132 :: 5 :: 1 :: sX2_askByHalves_91
noncomputable def sX2_askByHalves_85 : List UInt8 := 181 :: 0 :: 54 :: sX2_askByHalves_88
noncomputable def sX2_askByHalves_84 : List UInt8 := 96 :: sX2_askByHalves_85
noncomputable def sX2_askByHalves_83 : List UInt8 := 4 :: sX2_askByHalves_84
noncomputable def sX2_askByHalves_80 : List UInt8 := 180 :: 0 :: 54 :: sX2_askByHalves_83
noncomputable def sX2_askByHalves_79 : List UInt8 := 89 :: sX2_askByHalves_80
noncomputable def sX2_askByHalves_78 : List UInt8 := 42 :: sX2_askByHalves_79
noncomputable def sX2_askByHalves_75 : List UInt8 := 181 :: 0 :: 51 :: sX2_askByHalves_78
noncomputable def sX2_askByHalves_74 : List UInt8 := 96 :: sX2_askByHalves_75
noncomputable def sX2_askByHalves_71 : List UInt8 := 180 :: 0 :: 24 :: sX2_askByHalves_74
noncomputable def sX2_askByHalves_70 : List UInt8 := 42 :: sX2_askByHalves_71
noncomputable def sX2_askByHalves_67 : List UInt8 := 180 :: 0 :: 51 :: sX2_askByHalves_70
noncomputable def sX2_askByHalves_66 : List UInt8 := 89 :: sX2_askByHalves_67
noncomputable def sX2_askByHalves_65 : List UInt8 := 42 :: sX2_askByHalves_66
noncomputable def sX2_askByHalves_63 : List UInt8 := 54 :: 4 :: sX2_askByHalves_65
noncomputable def sX2_askByHalves_62 : List UInt8 := 100 :: sX2_askByHalves_63
noncomputable def sX2_askByHalves_61 : List UInt8 := 4 :: sX2_askByHalves_62
noncomputable def sX2_askByHalves_59 : List UInt8 := 21 :: 6 :: sX2_askByHalves_61
noncomputable def sX2_askByHalves_56 : List UInt8 := 167 :: 0 :: 9 :: sX2_askByHalves_59
noncomputable def sX2_askByHalves_55 : List UInt8 := 62 :: sX2_askByHalves_56
noncomputable def sX2_askByHalves_53 : List UInt8 := 21 :: 6 :: sX2_askByHalves_55
noncomputable def sX2_askByHalves_50 : List UInt8 := 153 :: 0 :: 9 :: sX2_askByHalves_53
noncomputable def sX2_askByHalves_47 : List UInt8 := 182 :: 0 :: 57 :: sX2_askByHalves_50
noncomputable def sX2_askByHalves_45 : List UInt8 := 21 :: 6 :: sX2_askByHalves_47
noncomputable def sX2_askByHalves_44 : List UInt8 := 44 :: sX2_askByHalves_45
noncomputable def sX2_askByHalves_43 : List UInt8 := 43 :: sX2_askByHalves_44
noncomputable def sX2_askByHalves_42 : List UInt8 := 42 :: sX2_askByHalves_43
noncomputable def sX2_askByHalves_40 : List UInt8 := 54 :: 6 :: sX2_askByHalves_42
noncomputable def sX2_askByHalves_39 : List UInt8 := 108 :: sX2_askByHalves_40
noncomputable def sX2_askByHalves_38 : List UInt8 := 5 :: sX2_askByHalves_39
noncomputable def sX2_askByHalves_37 : List UInt8 := 96 :: sX2_askByHalves_38
noncomputable def sX2_askByHalves_36 : List UInt8 := 4 :: sX2_askByHalves_37
noncomputable def sX2_askByHalves_35 : List UInt8 := 96 :: sX2_askByHalves_36
noncomputable def sX2_askByHalves_33 : List UInt8 := 21 :: 4 :: sX2_askByHalves_35
noncomputable def sX2_askByHalves_32 : List UInt8 := 29 :: sX2_askByHalves_33
noncomputable def sX2_askByHalves_29 : List UInt8 := 162 :: 0 :: 65 :: sX2_askByHalves_32
noncomputable def sX2_askByHalves_27 : List UInt8 := 21 :: 4 :: sX2_askByHalves_29
noncomputable def sX2_askByHalves_26 : List UInt8 := 29 :: sX2_askByHalves_27
noncomputable def sX2_askByHalves_23 : List UInt8 := 162 :: 0 :: 71 :: sX2_askByHalves_26
noncomputable def sX2_askByHalves_21 : List UInt8 := 16 :: 99 :: sX2_askByHalves_23
noncomputable def sX2_askByHalves_19 : List UInt8 := 21 :: 5 :: sX2_askByHalves_21
noncomputable def sX2_askByHalves_17 : List UInt8 := 54 :: 5 :: sX2_askByHalves_19
noncomputable def sX2_askByHalves_16 : List UInt8 := 3 :: sX2_askByHalves_17
noncomputable def sX2_askByHalves_14 : List UInt8 := 54 :: 4 :: sX2_askByHalves_16
noncomputable def sX2_askByHalves_12 : List UInt8 := 16 :: 99 :: sX2_askByHalves_14
noncomputable def sX2_askByHalves_11 : List UInt8 := 62 :: sX2_askByHalves_12
noncomputable def sX2_askByHalves_10 : List UInt8 := 3 :: sX2_askByHalves_11
noncomputable def sX2_askByHalves_7 : List UInt8 := 181 :: 0 :: 54 :: sX2_askByHalves_10
noncomputable def sX2_askByHalves_6 : List UInt8 := 3 :: sX2_askByHalves_7
noncomputable def sX2_askByHalves_5 : List UInt8 := 42 :: sX2_askByHalves_6
noncomputable def sX2_askByHalves_2 : List UInt8 := 181 :: 0 :: 51 :: sX2_askByHalves_5
noncomputable def sX2_askByHalves_1 : List UInt8 := 3 :: sX2_askByHalves_2
noncomputable def sX2_askByHalves_0 : List UInt8 := 42 :: sX2_askByHalves_1
set_option maxRecDepth 100000 in
theorem hX2_askByHalves_0 : cX2_askByHalves.data.toList.drop 0 = sX2_askByHalves_0 := by decide +kernel
theorem dX2_askByHalves_0 : decode cX2_askByHalves 0 = .ok (.aload_n 0, 1) := dk42 hX2_askByHalves_0
theorem hX2_askByHalves_1 : cX2_askByHalves.data.toList.drop 1 = sX2_askByHalves_1 := dn1 hX2_askByHalves_0
theorem dX2_askByHalves_1 : decode cX2_askByHalves 1 = .ok (.iconst 0, 1) := dk3 hX2_askByHalves_1
theorem hX2_askByHalves_2 : cX2_askByHalves.data.toList.drop 2 = sX2_askByHalves_2 := dn1 hX2_askByHalves_1
theorem dX2_askByHalves_2 : decode cX2_askByHalves 2 = .ok (.putfield 51, 3) := dk181 hX2_askByHalves_2 rfl
theorem hX2_askByHalves_5 : cX2_askByHalves.data.toList.drop 5 = sX2_askByHalves_5 := dn3 hX2_askByHalves_2
theorem dX2_askByHalves_5 : decode cX2_askByHalves 5 = .ok (.aload_n 0, 1) := dk42 hX2_askByHalves_5
theorem hX2_askByHalves_6 : cX2_askByHalves.data.toList.drop 6 = sX2_askByHalves_6 := dn1 hX2_askByHalves_5
theorem dX2_askByHalves_6 : decode cX2_askByHalves 6 = .ok (.iconst 0, 1) := dk3 hX2_askByHalves_6
theorem hX2_askByHalves_7 : cX2_askByHalves.data.toList.drop 7 = sX2_askByHalves_7 := dn1 hX2_askByHalves_6
theorem dX2_askByHalves_7 : decode cX2_askByHalves 7 = .ok (.putfield 54, 3) := dk181 hX2_askByHalves_7 rfl
theorem hX2_askByHalves_10 : cX2_askByHalves.data.toList.drop 10 = sX2_askByHalves_10 := dn3 hX2_askByHalves_7
theorem dX2_askByHalves_10 : decode cX2_askByHalves 10 = .ok (.iconst 0, 1) := dk3 hX2_askByHalves_10
theorem hX2_askByHalves_11 : cX2_askByHalves.data.toList.drop 11 = sX2_askByHalves_11 := dn1 hX2_askByHalves_10
theorem dX2_askByHalves_11 : decode cX2_askByHalves 11 = .ok (.istore_n 3, 1) := dk62 hX2_askByHalves_11
theorem hX2_askByHalves_12 : cX2_askByHalves.data.toList.drop 12 = sX2_askByHalves_12 := dn1 hX2_askByHalves_11
theorem dX2_askByHalves_12 : decode cX2_askByHalves 12 = .ok (.bipush 99, 2) := dk16 hX2_askByHalves_12 (by decide)
theorem hX2_askByHalves_14 : cX2_askByHalves.data.toList.drop 14 = sX2_askByHalves_14 := dn2 hX2_askByHalves_12
theorem dX2_askByHalves_14 : decode cX2_askByHalves 14 = .ok (.istore 4, 2) := dk54 hX2_askByHalves_14 rfl
theorem hX2_askByHalves_16 : cX2_askByHalves.data.toList.drop 16 = sX2_askByHalves_16 := dn2 hX2_askByHalves_14
theorem dX2_askByHalves_16 : decode cX2_askByHalves 16 = .ok (.iconst 0, 1) := dk3 hX2_askByHalves_16
theorem hX2_askByHalves_17 : cX2_askByHalves.data.toList.drop 17 = sX2_askByHalves_17 := dn1 hX2_askByHalves_16
theorem dX2_askByHalves_17 : decode cX2_askByHalves 17 = .ok (.istore 5, 2) := dk54 hX2_askByHalves_17 rfl
theorem hX2_askByHalves_19 : cX2_askByHalves.data.toList.drop 19 = sX2_askByHalves_19 := dn2 hX2_askByHalves_17
theorem dX2_askByHalves_19 : decode cX2_askByHalves 19 = .ok (.iload 5, 2) := dk21 hX2_askByHalves_19 rfl
theorem hX2_askByHalves_21 : cX2_askByHalves.data.toList.drop 21 = sX2_askByHalves_21 := dn2 hX2_askByHalves_19
theorem dX2_askByHalves_21 : decode cX2_askByHalves 21 = .ok (.bipush 99, 2) := dk16 hX2_askByHalves_21 (by decide)
theorem hX2_askByHalves_23 : cX2_askByHalves.data.toList.drop 23 = sX2_askByHalves_23 := dn2 hX2_askByHalves_21
theorem dX2_askByHalves_23 : decode cX2_askByHalves 23 = .ok (.if_icmp .ge 71, 3) := dk162 hX2_askByHalves_23 (by decide)
theorem hX2_askByHalves_26 : cX2_askByHalves.data.toList.drop 26 = sX2_askByHalves_26 := dn3 hX2_askByHalves_23
theorem dX2_askByHalves_26 : decode cX2_askByHalves 26 = .ok (.iload_n 3, 1) := dk29 hX2_askByHalves_26
theorem hX2_askByHalves_27 : cX2_askByHalves.data.toList.drop 27 = sX2_askByHalves_27 := dn1 hX2_askByHalves_26
theorem dX2_askByHalves_27 : decode cX2_askByHalves 27 = .ok (.iload 4, 2) := dk21 hX2_askByHalves_27 rfl
theorem hX2_askByHalves_29 : cX2_askByHalves.data.toList.drop 29 = sX2_askByHalves_29 := dn2 hX2_askByHalves_27
theorem dX2_askByHalves_29 : decode cX2_askByHalves 29 = .ok (.if_icmp .ge 65, 3) := dk162 hX2_askByHalves_29 (by decide)
theorem hX2_askByHalves_32 : cX2_askByHalves.data.toList.drop 32 = sX2_askByHalves_32 := dn3 hX2_askByHalves_29
theorem dX2_askByHalves_32 : decode cX2_askByHalves 32 = .ok (.iload_n 3, 1) := dk29 hX2_askByHalves_32
theorem hX2_askByHalves_33 : cX2_askByHalves.data.toList.drop 33 = sX2_askByHalves_33 := dn1 hX2_askByHalves_32
theorem dX2_askByHalves_33 : decode cX2_askByHalves 33 = .ok (.iload 4, 2) := dk21 hX2_askByHalves_33 rfl
theorem hX2_askByHalves_35 : cX2_askByHalves.data.toList.drop 35 = sX2_askByHalves_35 := dn2 hX2_askByHalves_33
theorem dX2_askByHalves_35 : decode cX2_askByHalves 35 = .ok (.iadd, 1) := dk96 hX2_askByHalves_35
theorem hX2_askByHalves_36 : cX2_askByHalves.data.toList.drop 36 = sX2_askByHalves_36 := dn1 hX2_askByHalves_35
theorem dX2_askByHalves_36 : decode cX2_askByHalves 36 = .ok (.iconst 1, 1) := dk4 hX2_askByHalves_36
theorem hX2_askByHalves_37 : cX2_askByHalves.data.toList.drop 37 = sX2_askByHalves_37 := dn1 hX2_askByHalves_36
theorem dX2_askByHalves_37 : decode cX2_askByHalves 37 = .ok (.iadd, 1) := dk96 hX2_askByHalves_37
theorem hX2_askByHalves_38 : cX2_askByHalves.data.toList.drop 38 = sX2_askByHalves_38 := dn1 hX2_askByHalves_37
theorem dX2_askByHalves_38 : decode cX2_askByHalves 38 = .ok (.iconst 2, 1) := dk5 hX2_askByHalves_38
theorem hX2_askByHalves_39 : cX2_askByHalves.data.toList.drop 39 = sX2_askByHalves_39 := dn1 hX2_askByHalves_38
theorem dX2_askByHalves_39 : decode cX2_askByHalves 39 = .ok (.idiv, 1) := dk108 hX2_askByHalves_39
theorem hX2_askByHalves_40 : cX2_askByHalves.data.toList.drop 40 = sX2_askByHalves_40 := dn1 hX2_askByHalves_39
theorem dX2_askByHalves_40 : decode cX2_askByHalves 40 = .ok (.istore 6, 2) := dk54 hX2_askByHalves_40 rfl
theorem hX2_askByHalves_42 : cX2_askByHalves.data.toList.drop 42 = sX2_askByHalves_42 := dn2 hX2_askByHalves_40
theorem dX2_askByHalves_42 : decode cX2_askByHalves 42 = .ok (.aload_n 0, 1) := dk42 hX2_askByHalves_42
theorem hX2_askByHalves_43 : cX2_askByHalves.data.toList.drop 43 = sX2_askByHalves_43 := dn1 hX2_askByHalves_42
theorem dX2_askByHalves_43 : decode cX2_askByHalves 43 = .ok (.aload_n 1, 1) := dk43 hX2_askByHalves_43
theorem hX2_askByHalves_44 : cX2_askByHalves.data.toList.drop 44 = sX2_askByHalves_44 := dn1 hX2_askByHalves_43
theorem dX2_askByHalves_44 : decode cX2_askByHalves 44 = .ok (.aload_n 2, 1) := dk44 hX2_askByHalves_44
theorem hX2_askByHalves_45 : cX2_askByHalves.data.toList.drop 45 = sX2_askByHalves_45 := dn1 hX2_askByHalves_44
theorem dX2_askByHalves_45 : decode cX2_askByHalves 45 = .ok (.iload 6, 2) := dk21 hX2_askByHalves_45 rfl
theorem hX2_askByHalves_47 : cX2_askByHalves.data.toList.drop 47 = sX2_askByHalves_47 := dn2 hX2_askByHalves_45
theorem dX2_askByHalves_47 : decode cX2_askByHalves 47 = .ok (.invokevirtual 57, 3) := dk182 hX2_askByHalves_47 rfl
theorem hX2_askByHalves_50 : cX2_askByHalves.data.toList.drop 50 = sX2_askByHalves_50 := dn3 hX2_askByHalves_47
theorem dX2_askByHalves_50 : decode cX2_askByHalves 50 = .ok (.ifCond .eq 9, 3) := dk153 hX2_askByHalves_50 (by decide)
theorem hX2_askByHalves_53 : cX2_askByHalves.data.toList.drop 53 = sX2_askByHalves_53 := dn3 hX2_askByHalves_50
theorem dX2_askByHalves_53 : decode cX2_askByHalves 53 = .ok (.iload 6, 2) := dk21 hX2_askByHalves_53 rfl
theorem hX2_askByHalves_55 : cX2_askByHalves.data.toList.drop 55 = sX2_askByHalves_55 := dn2 hX2_askByHalves_53
theorem dX2_askByHalves_55 : decode cX2_askByHalves 55 = .ok (.istore_n 3, 1) := dk62 hX2_askByHalves_55
theorem hX2_askByHalves_56 : cX2_askByHalves.data.toList.drop 56 = sX2_askByHalves_56 := dn1 hX2_askByHalves_55
theorem dX2_askByHalves_56 : decode cX2_askByHalves 56 = .ok (.goto 9, 3) := dk167 hX2_askByHalves_56 (by decide)
theorem hX2_askByHalves_59 : cX2_askByHalves.data.toList.drop 59 = sX2_askByHalves_59 := dn3 hX2_askByHalves_56
theorem dX2_askByHalves_59 : decode cX2_askByHalves 59 = .ok (.iload 6, 2) := dk21 hX2_askByHalves_59 rfl
theorem hX2_askByHalves_61 : cX2_askByHalves.data.toList.drop 61 = sX2_askByHalves_61 := dn2 hX2_askByHalves_59
theorem dX2_askByHalves_61 : decode cX2_askByHalves 61 = .ok (.iconst 1, 1) := dk4 hX2_askByHalves_61
theorem hX2_askByHalves_62 : cX2_askByHalves.data.toList.drop 62 = sX2_askByHalves_62 := dn1 hX2_askByHalves_61
theorem dX2_askByHalves_62 : decode cX2_askByHalves 62 = .ok (.isub, 1) := dk100 hX2_askByHalves_62
theorem hX2_askByHalves_63 : cX2_askByHalves.data.toList.drop 63 = sX2_askByHalves_63 := dn1 hX2_askByHalves_62
theorem dX2_askByHalves_63 : decode cX2_askByHalves 63 = .ok (.istore 4, 2) := dk54 hX2_askByHalves_63 rfl
theorem hX2_askByHalves_65 : cX2_askByHalves.data.toList.drop 65 = sX2_askByHalves_65 := dn2 hX2_askByHalves_63
theorem dX2_askByHalves_65 : decode cX2_askByHalves 65 = .ok (.aload_n 0, 1) := dk42 hX2_askByHalves_65
theorem hX2_askByHalves_66 : cX2_askByHalves.data.toList.drop 66 = sX2_askByHalves_66 := dn1 hX2_askByHalves_65
theorem dX2_askByHalves_66 : decode cX2_askByHalves 66 = .ok (.dup, 1) := dk89 hX2_askByHalves_66
theorem hX2_askByHalves_67 : cX2_askByHalves.data.toList.drop 67 = sX2_askByHalves_67 := dn1 hX2_askByHalves_66
theorem dX2_askByHalves_67 : decode cX2_askByHalves 67 = .ok (.getfield 51, 3) := dk180 hX2_askByHalves_67 rfl
theorem hX2_askByHalves_70 : cX2_askByHalves.data.toList.drop 70 = sX2_askByHalves_70 := dn3 hX2_askByHalves_67
theorem dX2_askByHalves_70 : decode cX2_askByHalves 70 = .ok (.aload_n 0, 1) := dk42 hX2_askByHalves_70
theorem hX2_askByHalves_71 : cX2_askByHalves.data.toList.drop 71 = sX2_askByHalves_71 := dn1 hX2_askByHalves_70
theorem dX2_askByHalves_71 : decode cX2_askByHalves 71 = .ok (.getfield 24, 3) := dk180 hX2_askByHalves_71 rfl
theorem hX2_askByHalves_74 : cX2_askByHalves.data.toList.drop 74 = sX2_askByHalves_74 := dn3 hX2_askByHalves_71
theorem dX2_askByHalves_74 : decode cX2_askByHalves 74 = .ok (.iadd, 1) := dk96 hX2_askByHalves_74
theorem hX2_askByHalves_75 : cX2_askByHalves.data.toList.drop 75 = sX2_askByHalves_75 := dn1 hX2_askByHalves_74
theorem dX2_askByHalves_75 : decode cX2_askByHalves 75 = .ok (.putfield 51, 3) := dk181 hX2_askByHalves_75 rfl
theorem hX2_askByHalves_78 : cX2_askByHalves.data.toList.drop 78 = sX2_askByHalves_78 := dn3 hX2_askByHalves_75
theorem dX2_askByHalves_78 : decode cX2_askByHalves 78 = .ok (.aload_n 0, 1) := dk42 hX2_askByHalves_78
theorem hX2_askByHalves_79 : cX2_askByHalves.data.toList.drop 79 = sX2_askByHalves_79 := dn1 hX2_askByHalves_78
theorem dX2_askByHalves_79 : decode cX2_askByHalves 79 = .ok (.dup, 1) := dk89 hX2_askByHalves_79
theorem hX2_askByHalves_80 : cX2_askByHalves.data.toList.drop 80 = sX2_askByHalves_80 := dn1 hX2_askByHalves_79
theorem dX2_askByHalves_80 : decode cX2_askByHalves 80 = .ok (.getfield 54, 3) := dk180 hX2_askByHalves_80 rfl
theorem hX2_askByHalves_83 : cX2_askByHalves.data.toList.drop 83 = sX2_askByHalves_83 := dn3 hX2_askByHalves_80
theorem dX2_askByHalves_83 : decode cX2_askByHalves 83 = .ok (.iconst 1, 1) := dk4 hX2_askByHalves_83
theorem hX2_askByHalves_84 : cX2_askByHalves.data.toList.drop 84 = sX2_askByHalves_84 := dn1 hX2_askByHalves_83
theorem dX2_askByHalves_84 : decode cX2_askByHalves 84 = .ok (.iadd, 1) := dk96 hX2_askByHalves_84
theorem hX2_askByHalves_85 : cX2_askByHalves.data.toList.drop 85 = sX2_askByHalves_85 := dn1 hX2_askByHalves_84
theorem dX2_askByHalves_85 : decode cX2_askByHalves 85 = .ok (.putfield 54, 3) := dk181 hX2_askByHalves_85 rfl
theorem hX2_askByHalves_88 : cX2_askByHalves.data.toList.drop 88 = sX2_askByHalves_88 := dn3 hX2_askByHalves_85
theorem dX2_askByHalves_88 : decode cX2_askByHalves 88 = .ok (.iinc 5 1, 3) := dk132 hX2_askByHalves_88 rfl (by decide)
theorem hX2_askByHalves_91 : cX2_askByHalves.data.toList.drop 91 = sX2_askByHalves_91 := dn3 hX2_askByHalves_88
theorem dX2_askByHalves_91 : decode cX2_askByHalves 91 = .ok (.goto (-72), 3) := dk167 hX2_askByHalves_91 (by decide)
theorem hX2_askByHalves_94 : cX2_askByHalves.data.toList.drop 94 = sX2_askByHalves_94 := dn3 hX2_askByHalves_91
theorem dX2_askByHalves_94 : decode cX2_askByHalves 94 = .ok (.return_, 1) := dk177 hX2_askByHalves_94
noncomputable def sX2_asked_21 : List UInt8 := 172 :: []
noncomputable def sX2_asked_18 : List UInt8 := 182 :: 0 :: 47 :: sX2_asked_21
noncomputable def sX2_asked_17 : List UInt8 := 3 :: sX2_asked_18
noncomputable def sX2_asked_16 : List UInt8 := 104 :: sX2_asked_17
noncomputable def sX2_asked_13 : List UInt8 := 180 :: 0 :: 18 :: sX2_asked_16
noncomputable def sX2_asked_12 : List UInt8 := 43 :: sX2_asked_13
noncomputable def sX2_asked_11 : List UInt8 := 29 :: sX2_asked_12
noncomputable def sX2_asked_8 : List UInt8 := 180 :: 0 :: 36 :: sX2_asked_11
noncomputable def sX2_asked_7 : List UInt8 := 43 :: sX2_asked_8
noncomputable def sX2_asked_6 : List UInt8 := 44 :: sX2_asked_7
noncomputable def sX2_asked_5 : List UInt8 := 43 :: sX2_asked_6
noncomputable def sX2_asked_4 : List UInt8 := 42 :: sX2_asked_5
noncomputable def sX2_asked_1 : List UInt8 := 182 :: 0 :: 33 :: sX2_asked_4
noncomputable def sX2_asked_0 : List UInt8 := 42 :: sX2_asked_1
set_option maxRecDepth 100000 in
theorem hX2_asked_0 : cX2_asked.data.toList.drop 0 = sX2_asked_0 := by decide +kernel
theorem dX2_asked_0 : decode cX2_asked 0 = .ok (.aload_n 0, 1) := dk42 hX2_asked_0
theorem hX2_asked_1 : cX2_asked.data.toList.drop 1 = sX2_asked_1 := dn1 hX2_asked_0
theorem dX2_asked_1 : decode cX2_asked 1 = .ok (.invokevirtual 33, 3) := dk182 hX2_asked_1 rfl
theorem hX2_asked_4 : cX2_asked.data.toList.drop 4 = sX2_asked_4 := dn3 hX2_asked_1
theorem dX2_asked_4 : decode cX2_asked 4 = .ok (.aload_n 0, 1) := dk42 hX2_asked_4
theorem hX2_asked_5 : cX2_asked.data.toList.drop 5 = sX2_asked_5 := dn1 hX2_asked_4
theorem dX2_asked_5 : decode cX2_asked 5 = .ok (.aload_n 1, 1) := dk43 hX2_asked_5
theorem hX2_asked_6 : cX2_asked.data.toList.drop 6 = sX2_asked_6 := dn1 hX2_asked_5
theorem dX2_asked_6 : decode cX2_asked 6 = .ok (.aload_n 2, 1) := dk44 hX2_asked_6
theorem hX2_asked_7 : cX2_asked.data.toList.drop 7 = sX2_asked_7 := dn1 hX2_asked_6
theorem dX2_asked_7 : decode cX2_asked 7 = .ok (.aload_n 1, 1) := dk43 hX2_asked_7
theorem hX2_asked_8 : cX2_asked.data.toList.drop 8 = sX2_asked_8 := dn1 hX2_asked_7
theorem dX2_asked_8 : decode cX2_asked 8 = .ok (.getfield 36, 3) := dk180 hX2_asked_8 rfl
theorem hX2_asked_11 : cX2_asked.data.toList.drop 11 = sX2_asked_11 := dn3 hX2_asked_8
theorem dX2_asked_11 : decode cX2_asked 11 = .ok (.iload_n 3, 1) := dk29 hX2_asked_11
theorem hX2_asked_12 : cX2_asked.data.toList.drop 12 = sX2_asked_12 := dn1 hX2_asked_11
theorem dX2_asked_12 : decode cX2_asked 12 = .ok (.aload_n 1, 1) := dk43 hX2_asked_12
theorem hX2_asked_13 : cX2_asked.data.toList.drop 13 = sX2_asked_13 := dn1 hX2_asked_12
theorem dX2_asked_13 : decode cX2_asked 13 = .ok (.getfield 18, 3) := dk180 hX2_asked_13 rfl
theorem hX2_asked_16 : cX2_asked.data.toList.drop 16 = sX2_asked_16 := dn3 hX2_asked_13
theorem dX2_asked_16 : decode cX2_asked 16 = .ok (.imul, 1) := dk104 hX2_asked_16
theorem hX2_asked_17 : cX2_asked.data.toList.drop 17 = sX2_asked_17 := dn1 hX2_asked_16
theorem dX2_asked_17 : decode cX2_asked 17 = .ok (.iconst 0, 1) := dk3 hX2_asked_17
theorem hX2_asked_18 : cX2_asked.data.toList.drop 18 = sX2_asked_18 := dn1 hX2_asked_17
theorem dX2_asked_18 : decode cX2_asked 18 = .ok (.invokevirtual 47, 3) := dk182 hX2_asked_18 rfl
theorem hX2_asked_21 : cX2_asked.data.toList.drop 21 = sX2_asked_21 := dn3 hX2_asked_18
theorem dX2_asked_21 : decode cX2_asked 21 = .ok (.ireturn, 1) := dk172 hX2_asked_21
noncomputable def sX2_begin_15 : List UInt8 := 177 :: []
noncomputable def sX2_begin_12 : List UInt8 := 181 :: 0 :: 30 :: sX2_begin_15
noncomputable def sX2_begin_11 : List UInt8 := 3 :: sX2_begin_12
noncomputable def sX2_begin_10 : List UInt8 := 42 :: sX2_begin_11
noncomputable def sX2_begin_7 : List UInt8 := 181 :: 0 :: 27 :: sX2_begin_10
noncomputable def sX2_begin_6 : List UInt8 := 3 :: sX2_begin_7
noncomputable def sX2_begin_5 : List UInt8 := 42 :: sX2_begin_6
noncomputable def sX2_begin_2 : List UInt8 := 181 :: 0 :: 24 :: sX2_begin_5
noncomputable def sX2_begin_1 : List UInt8 := 3 :: sX2_begin_2
noncomputable def sX2_begin_0 : List UInt8 := 42 :: sX2_begin_1
set_option maxRecDepth 100000 in
theorem hX2_begin_0 : cX2_begin.data.toList.drop 0 = sX2_begin_0 := by decide +kernel
theorem dX2_begin_0 : decode cX2_begin 0 = .ok (.aload_n 0, 1) := dk42 hX2_begin_0
theorem hX2_begin_1 : cX2_begin.data.toList.drop 1 = sX2_begin_1 := dn1 hX2_begin_0
theorem dX2_begin_1 : decode cX2_begin 1 = .ok (.iconst 0, 1) := dk3 hX2_begin_1
theorem hX2_begin_2 : cX2_begin.data.toList.drop 2 = sX2_begin_2 := dn1 hX2_begin_1
theorem dX2_begin_2 : decode cX2_begin 2 = .ok (.putfield 24, 3) := dk181 hX2_begin_2 rfl
theorem hX2_begin_5 : cX2_begin.data.toList.drop 5 = sX2_begin_5 := dn3 hX2_begin_2
theorem dX2_begin_5 : decode cX2_begin 5 = .ok (.aload_n 0, 1) := dk42 hX2_begin_5
theorem hX2_begin_6 : cX2_begin.data.toList.drop 6 = sX2_begin_6 := dn1 hX2_begin_5
theorem dX2_begin_6 : decode cX2_begin 6 = .ok (.iconst 0, 1) := dk3 hX2_begin_6
theorem hX2_begin_7 : cX2_begin.data.toList.drop 7 = sX2_begin_7 := dn1 hX2_begin_6
theorem dX2_begin_7 : decode cX2_begin 7 = .ok (.putfield 27, 3) := dk181 hX2_begin_7 rfl
theorem hX2_begin_10 : cX2_begin.data.toList.drop 10 = sX2_begin_10 := dn3 hX2_begin_7
theorem dX2_begin_10 : decode cX2_begin 10 = .ok (.aload_n 0, 1) := dk42 hX2_begin_10
theorem hX2_begin_11 : cX2_begin.data.toList.drop 11 = sX2_begin_11 := dn1 hX2_begin_10
theorem dX2_begin_11 : decode cX2_begin 11 = .ok (.iconst 0, 1) := dk3 hX2_begin_11
theorem hX2_begin_12 : cX2_begin.data.toList.drop 12 = sX2_begin_12 := dn1 hX2_begin_11
theorem dX2_begin_12 : decode cX2_begin 12 = .ok (.putfield 30, 3) := dk181 hX2_begin_12 rfl
theorem hX2_begin_15 : cX2_begin.data.toList.drop 15 = sX2_begin_15 := dn3 hX2_begin_12
theorem dX2_begin_15 : decode cX2_begin 15 = .ok (.return_, 1) := dk177 hX2_begin_15
noncomputable def sX2_breathsFreely_25 : List UInt8 := 172 :: []
noncomputable def sX2_breathsFreely_22 : List UInt8 := 180 :: 0 :: 24 :: sX2_breathsFreely_25
noncomputable def sX2_breathsFreely_21 : List UInt8 := 42 :: sX2_breathsFreely_22
noncomputable def sX2_breathsFreely_20 : List UInt8 := 87 :: sX2_breathsFreely_21
noncomputable def sX2_breathsFreely_17 : List UInt8 := 182 :: 0 :: 43 :: sX2_breathsFreely_20
noncomputable def sX2_breathsFreely_16 : List UInt8 := 3 :: sX2_breathsFreely_17
noncomputable def sX2_breathsFreely_13 : List UInt8 := 184 :: 0 :: 39 :: sX2_breathsFreely_16
noncomputable def sX2_breathsFreely_12 : List UInt8 := 43 :: sX2_breathsFreely_13
noncomputable def sX2_breathsFreely_11 : List UInt8 := 2 :: sX2_breathsFreely_12
noncomputable def sX2_breathsFreely_8 : List UInt8 := 180 :: 0 :: 36 :: sX2_breathsFreely_11
noncomputable def sX2_breathsFreely_7 : List UInt8 := 43 :: sX2_breathsFreely_8
noncomputable def sX2_breathsFreely_6 : List UInt8 := 44 :: sX2_breathsFreely_7
noncomputable def sX2_breathsFreely_5 : List UInt8 := 43 :: sX2_breathsFreely_6
noncomputable def sX2_breathsFreely_4 : List UInt8 := 42 :: sX2_breathsFreely_5
noncomputable def sX2_breathsFreely_1 : List UInt8 := 182 :: 0 :: 33 :: sX2_breathsFreely_4
noncomputable def sX2_breathsFreely_0 : List UInt8 := 42 :: sX2_breathsFreely_1
set_option maxRecDepth 100000 in
theorem hX2_breathsFreely_0 : cX2_breathsFreely.data.toList.drop 0 = sX2_breathsFreely_0 := by decide +kernel
theorem dX2_breathsFreely_0 : decode cX2_breathsFreely 0 = .ok (.aload_n 0, 1) := dk42 hX2_breathsFreely_0
theorem hX2_breathsFreely_1 : cX2_breathsFreely.data.toList.drop 1 = sX2_breathsFreely_1 := dn1 hX2_breathsFreely_0
theorem dX2_breathsFreely_1 : decode cX2_breathsFreely 1 = .ok (.invokevirtual 33, 3) := dk182 hX2_breathsFreely_1 rfl
theorem hX2_breathsFreely_4 : cX2_breathsFreely.data.toList.drop 4 = sX2_breathsFreely_4 := dn3 hX2_breathsFreely_1
theorem dX2_breathsFreely_4 : decode cX2_breathsFreely 4 = .ok (.aload_n 0, 1) := dk42 hX2_breathsFreely_4
theorem hX2_breathsFreely_5 : cX2_breathsFreely.data.toList.drop 5 = sX2_breathsFreely_5 := dn1 hX2_breathsFreely_4
theorem dX2_breathsFreely_5 : decode cX2_breathsFreely 5 = .ok (.aload_n 1, 1) := dk43 hX2_breathsFreely_5
theorem hX2_breathsFreely_6 : cX2_breathsFreely.data.toList.drop 6 = sX2_breathsFreely_6 := dn1 hX2_breathsFreely_5
theorem dX2_breathsFreely_6 : decode cX2_breathsFreely 6 = .ok (.aload_n 2, 1) := dk44 hX2_breathsFreely_6
theorem hX2_breathsFreely_7 : cX2_breathsFreely.data.toList.drop 7 = sX2_breathsFreely_7 := dn1 hX2_breathsFreely_6
theorem dX2_breathsFreely_7 : decode cX2_breathsFreely 7 = .ok (.aload_n 1, 1) := dk43 hX2_breathsFreely_7
theorem hX2_breathsFreely_8 : cX2_breathsFreely.data.toList.drop 8 = sX2_breathsFreely_8 := dn1 hX2_breathsFreely_7
theorem dX2_breathsFreely_8 : decode cX2_breathsFreely 8 = .ok (.getfield 36, 3) := dk180 hX2_breathsFreely_8 rfl
theorem hX2_breathsFreely_11 : cX2_breathsFreely.data.toList.drop 11 = sX2_breathsFreely_11 := dn3 hX2_breathsFreely_8
theorem dX2_breathsFreely_11 : decode cX2_breathsFreely 11 = .ok (.iconst (-1), 1) := dk2 hX2_breathsFreely_11
theorem hX2_breathsFreely_12 : cX2_breathsFreely.data.toList.drop 12 = sX2_breathsFreely_12 := dn1 hX2_breathsFreely_11
theorem dX2_breathsFreely_12 : decode cX2_breathsFreely 12 = .ok (.aload_n 1, 1) := dk43 hX2_breathsFreely_12
theorem hX2_breathsFreely_13 : cX2_breathsFreely.data.toList.drop 13 = sX2_breathsFreely_13 := dn1 hX2_breathsFreely_12
theorem dX2_breathsFreely_13 : decode cX2_breathsFreely 13 = .ok (.invokestatic 39, 3) := dk184 hX2_breathsFreely_13 rfl
theorem hX2_breathsFreely_16 : cX2_breathsFreely.data.toList.drop 16 = sX2_breathsFreely_16 := dn3 hX2_breathsFreely_13
theorem dX2_breathsFreely_16 : decode cX2_breathsFreely 16 = .ok (.iconst 0, 1) := dk3 hX2_breathsFreely_16
theorem hX2_breathsFreely_17 : cX2_breathsFreely.data.toList.drop 17 = sX2_breathsFreely_17 := dn1 hX2_breathsFreely_16
theorem dX2_breathsFreely_17 : decode cX2_breathsFreely 17 = .ok (.invokevirtual 43, 3) := dk182 hX2_breathsFreely_17 rfl
theorem hX2_breathsFreely_20 : cX2_breathsFreely.data.toList.drop 20 = sX2_breathsFreely_20 := dn3 hX2_breathsFreely_17
theorem dX2_breathsFreely_20 : decode cX2_breathsFreely 20 = .ok (.pop, 1) := dk87 hX2_breathsFreely_20
theorem hX2_breathsFreely_21 : cX2_breathsFreely.data.toList.drop 21 = sX2_breathsFreely_21 := dn1 hX2_breathsFreely_20
theorem dX2_breathsFreely_21 : decode cX2_breathsFreely 21 = .ok (.aload_n 0, 1) := dk42 hX2_breathsFreely_21
theorem hX2_breathsFreely_22 : cX2_breathsFreely.data.toList.drop 22 = sX2_breathsFreely_22 := dn1 hX2_breathsFreely_21
theorem dX2_breathsFreely_22 : decode cX2_breathsFreely 22 = .ok (.getfield 24, 3) := dk180 hX2_breathsFreely_22 rfl
theorem hX2_breathsFreely_25 : cX2_breathsFreely.data.toList.drop 25 = sX2_breathsFreely_25 := dn3 hX2_breathsFreely_22
theorem dX2_breathsFreely_25 : decode cX2_breathsFreely 25 = .ok (.ireturn, 1) := dk172 hX2_breathsFreely_25
noncomputable def sX2_cutPartAt_29 : List UInt8 := 172 :: []
noncomputable def sX2_cutPartAt_28 : List UInt8 := 2 :: sX2_cutPartAt_29
noncomputable def sX2_cutPartAt_25 : List UInt8 := 167 :: 0 :: 4 :: sX2_cutPartAt_28
noncomputable def sX2_cutPartAt_24 : List UInt8 := 46 :: sX2_cutPartAt_25
noncomputable def sX2_cutPartAt_23 : List UInt8 := 27 :: sX2_cutPartAt_24
noncomputable def sX2_cutPartAt_20 : List UInt8 := 180 :: 0 :: 15 :: sX2_cutPartAt_23
noncomputable def sX2_cutPartAt_19 : List UInt8 := 42 :: sX2_cutPartAt_20
noncomputable def sX2_cutPartAt_16 : List UInt8 := 162 :: 0 :: 12 :: sX2_cutPartAt_19
noncomputable def sX2_cutPartAt_13 : List UInt8 := 17 :: 2 :: 0 :: sX2_cutPartAt_16
noncomputable def sX2_cutPartAt_12 : List UInt8 := 27 :: sX2_cutPartAt_13
noncomputable def sX2_cutPartAt_9 : List UInt8 := 162 :: 0 :: 19 :: sX2_cutPartAt_12
noncomputable def sX2_cutPartAt_6 : List UInt8 := 180 :: 0 :: 30 :: sX2_cutPartAt_9
noncomputable def sX2_cutPartAt_5 : List UInt8 := 42 :: sX2_cutPartAt_6
noncomputable def sX2_cutPartAt_4 : List UInt8 := 27 :: sX2_cutPartAt_5
noncomputable def sX2_cutPartAt_1 : List UInt8 := 155 :: 0 :: 27 :: sX2_cutPartAt_4
noncomputable def sX2_cutPartAt_0 : List UInt8 := 27 :: sX2_cutPartAt_1
set_option maxRecDepth 100000 in
theorem hX2_cutPartAt_0 : cX2_cutPartAt.data.toList.drop 0 = sX2_cutPartAt_0 := by decide +kernel
theorem dX2_cutPartAt_0 : decode cX2_cutPartAt 0 = .ok (.iload_n 1, 1) := dk27 hX2_cutPartAt_0
theorem hX2_cutPartAt_1 : cX2_cutPartAt.data.toList.drop 1 = sX2_cutPartAt_1 := dn1 hX2_cutPartAt_0
theorem dX2_cutPartAt_1 : decode cX2_cutPartAt 1 = .ok (.ifCond .lt 27, 3) := dk155 hX2_cutPartAt_1 (by decide)
theorem hX2_cutPartAt_4 : cX2_cutPartAt.data.toList.drop 4 = sX2_cutPartAt_4 := dn3 hX2_cutPartAt_1
theorem dX2_cutPartAt_4 : decode cX2_cutPartAt 4 = .ok (.iload_n 1, 1) := dk27 hX2_cutPartAt_4
theorem hX2_cutPartAt_5 : cX2_cutPartAt.data.toList.drop 5 = sX2_cutPartAt_5 := dn1 hX2_cutPartAt_4
theorem dX2_cutPartAt_5 : decode cX2_cutPartAt 5 = .ok (.aload_n 0, 1) := dk42 hX2_cutPartAt_5
theorem hX2_cutPartAt_6 : cX2_cutPartAt.data.toList.drop 6 = sX2_cutPartAt_6 := dn1 hX2_cutPartAt_5
theorem dX2_cutPartAt_6 : decode cX2_cutPartAt 6 = .ok (.getfield 30, 3) := dk180 hX2_cutPartAt_6 rfl
theorem hX2_cutPartAt_9 : cX2_cutPartAt.data.toList.drop 9 = sX2_cutPartAt_9 := dn3 hX2_cutPartAt_6
theorem dX2_cutPartAt_9 : decode cX2_cutPartAt 9 = .ok (.if_icmp .ge 19, 3) := dk162 hX2_cutPartAt_9 (by decide)
theorem hX2_cutPartAt_12 : cX2_cutPartAt.data.toList.drop 12 = sX2_cutPartAt_12 := dn3 hX2_cutPartAt_9
theorem dX2_cutPartAt_12 : decode cX2_cutPartAt 12 = .ok (.iload_n 1, 1) := dk27 hX2_cutPartAt_12
theorem hX2_cutPartAt_13 : cX2_cutPartAt.data.toList.drop 13 = sX2_cutPartAt_13 := dn1 hX2_cutPartAt_12
theorem dX2_cutPartAt_13 : decode cX2_cutPartAt 13 = .ok (.sipush 512, 3) := dk17 hX2_cutPartAt_13 (by decide)
theorem hX2_cutPartAt_16 : cX2_cutPartAt.data.toList.drop 16 = sX2_cutPartAt_16 := dn3 hX2_cutPartAt_13
theorem dX2_cutPartAt_16 : decode cX2_cutPartAt 16 = .ok (.if_icmp .ge 12, 3) := dk162 hX2_cutPartAt_16 (by decide)
theorem hX2_cutPartAt_19 : cX2_cutPartAt.data.toList.drop 19 = sX2_cutPartAt_19 := dn3 hX2_cutPartAt_16
theorem dX2_cutPartAt_19 : decode cX2_cutPartAt 19 = .ok (.aload_n 0, 1) := dk42 hX2_cutPartAt_19
theorem hX2_cutPartAt_20 : cX2_cutPartAt.data.toList.drop 20 = sX2_cutPartAt_20 := dn1 hX2_cutPartAt_19
theorem dX2_cutPartAt_20 : decode cX2_cutPartAt 20 = .ok (.getfield 15, 3) := dk180 hX2_cutPartAt_20 rfl
theorem hX2_cutPartAt_23 : cX2_cutPartAt.data.toList.drop 23 = sX2_cutPartAt_23 := dn3 hX2_cutPartAt_20
theorem dX2_cutPartAt_23 : decode cX2_cutPartAt 23 = .ok (.iload_n 1, 1) := dk27 hX2_cutPartAt_23
theorem hX2_cutPartAt_24 : cX2_cutPartAt.data.toList.drop 24 = sX2_cutPartAt_24 := dn1 hX2_cutPartAt_23
theorem dX2_cutPartAt_24 : decode cX2_cutPartAt 24 = .ok (.iaload, 1) := dk46 hX2_cutPartAt_24
theorem hX2_cutPartAt_25 : cX2_cutPartAt.data.toList.drop 25 = sX2_cutPartAt_25 := dn1 hX2_cutPartAt_24
theorem dX2_cutPartAt_25 : decode cX2_cutPartAt 25 = .ok (.goto 4, 3) := dk167 hX2_cutPartAt_25 (by decide)
theorem hX2_cutPartAt_28 : cX2_cutPartAt.data.toList.drop 28 = sX2_cutPartAt_28 := dn3 hX2_cutPartAt_25
theorem dX2_cutPartAt_28 : decode cX2_cutPartAt 28 = .ok (.iconst (-1), 1) := dk2 hX2_cutPartAt_28
theorem hX2_cutPartAt_29 : cX2_cutPartAt.data.toList.drop 29 = sX2_cutPartAt_29 := dn1 hX2_cutPartAt_28
theorem dX2_cutPartAt_29 : decode cX2_cutPartAt 29 = .ok (.ireturn, 1) := dk172 hX2_cutPartAt_29
noncomputable def sX2_hearWithin_28 : List UInt8 := 172 :: []
noncomputable def sX2_hearWithin_25 : List UInt8 := 182 :: 0 :: 43 :: sX2_hearWithin_28
noncomputable def sX2_hearWithin_24 : List UInt8 := 3 :: sX2_hearWithin_25
noncomputable def sX2_hearWithin_23 : List UInt8 := 104 :: sX2_hearWithin_24
noncomputable def sX2_hearWithin_20 : List UInt8 := 180 :: 0 :: 18 :: sX2_hearWithin_23
noncomputable def sX2_hearWithin_19 : List UInt8 := 43 :: sX2_hearWithin_20
noncomputable def sX2_hearWithin_17 : List UInt8 := 21 :: 4 :: sX2_hearWithin_19
noncomputable def sX2_hearWithin_16 : List UInt8 := 104 :: sX2_hearWithin_17
noncomputable def sX2_hearWithin_13 : List UInt8 := 180 :: 0 :: 18 :: sX2_hearWithin_16
noncomputable def sX2_hearWithin_12 : List UInt8 := 43 :: sX2_hearWithin_13
noncomputable def sX2_hearWithin_11 : List UInt8 := 29 :: sX2_hearWithin_12
noncomputable def sX2_hearWithin_8 : List UInt8 := 180 :: 0 :: 36 :: sX2_hearWithin_11
noncomputable def sX2_hearWithin_7 : List UInt8 := 43 :: sX2_hearWithin_8
noncomputable def sX2_hearWithin_6 : List UInt8 := 44 :: sX2_hearWithin_7
noncomputable def sX2_hearWithin_5 : List UInt8 := 43 :: sX2_hearWithin_6
noncomputable def sX2_hearWithin_4 : List UInt8 := 42 :: sX2_hearWithin_5
noncomputable def sX2_hearWithin_1 : List UInt8 := 182 :: 0 :: 33 :: sX2_hearWithin_4
noncomputable def sX2_hearWithin_0 : List UInt8 := 42 :: sX2_hearWithin_1
set_option maxRecDepth 100000 in
theorem hX2_hearWithin_0 : cX2_hearWithin.data.toList.drop 0 = sX2_hearWithin_0 := by decide +kernel
theorem dX2_hearWithin_0 : decode cX2_hearWithin 0 = .ok (.aload_n 0, 1) := dk42 hX2_hearWithin_0
theorem hX2_hearWithin_1 : cX2_hearWithin.data.toList.drop 1 = sX2_hearWithin_1 := dn1 hX2_hearWithin_0
theorem dX2_hearWithin_1 : decode cX2_hearWithin 1 = .ok (.invokevirtual 33, 3) := dk182 hX2_hearWithin_1 rfl
theorem hX2_hearWithin_4 : cX2_hearWithin.data.toList.drop 4 = sX2_hearWithin_4 := dn3 hX2_hearWithin_1
theorem dX2_hearWithin_4 : decode cX2_hearWithin 4 = .ok (.aload_n 0, 1) := dk42 hX2_hearWithin_4
theorem hX2_hearWithin_5 : cX2_hearWithin.data.toList.drop 5 = sX2_hearWithin_5 := dn1 hX2_hearWithin_4
theorem dX2_hearWithin_5 : decode cX2_hearWithin 5 = .ok (.aload_n 1, 1) := dk43 hX2_hearWithin_5
theorem hX2_hearWithin_6 : cX2_hearWithin.data.toList.drop 6 = sX2_hearWithin_6 := dn1 hX2_hearWithin_5
theorem dX2_hearWithin_6 : decode cX2_hearWithin 6 = .ok (.aload_n 2, 1) := dk44 hX2_hearWithin_6
theorem hX2_hearWithin_7 : cX2_hearWithin.data.toList.drop 7 = sX2_hearWithin_7 := dn1 hX2_hearWithin_6
theorem dX2_hearWithin_7 : decode cX2_hearWithin 7 = .ok (.aload_n 1, 1) := dk43 hX2_hearWithin_7
theorem hX2_hearWithin_8 : cX2_hearWithin.data.toList.drop 8 = sX2_hearWithin_8 := dn1 hX2_hearWithin_7
theorem dX2_hearWithin_8 : decode cX2_hearWithin 8 = .ok (.getfield 36, 3) := dk180 hX2_hearWithin_8 rfl
theorem hX2_hearWithin_11 : cX2_hearWithin.data.toList.drop 11 = sX2_hearWithin_11 := dn3 hX2_hearWithin_8
theorem dX2_hearWithin_11 : decode cX2_hearWithin 11 = .ok (.iload_n 3, 1) := dk29 hX2_hearWithin_11
theorem hX2_hearWithin_12 : cX2_hearWithin.data.toList.drop 12 = sX2_hearWithin_12 := dn1 hX2_hearWithin_11
theorem dX2_hearWithin_12 : decode cX2_hearWithin 12 = .ok (.aload_n 1, 1) := dk43 hX2_hearWithin_12
theorem hX2_hearWithin_13 : cX2_hearWithin.data.toList.drop 13 = sX2_hearWithin_13 := dn1 hX2_hearWithin_12
theorem dX2_hearWithin_13 : decode cX2_hearWithin 13 = .ok (.getfield 18, 3) := dk180 hX2_hearWithin_13 rfl
theorem hX2_hearWithin_16 : cX2_hearWithin.data.toList.drop 16 = sX2_hearWithin_16 := dn3 hX2_hearWithin_13
theorem dX2_hearWithin_16 : decode cX2_hearWithin 16 = .ok (.imul, 1) := dk104 hX2_hearWithin_16
theorem hX2_hearWithin_17 : cX2_hearWithin.data.toList.drop 17 = sX2_hearWithin_17 := dn1 hX2_hearWithin_16
theorem dX2_hearWithin_17 : decode cX2_hearWithin 17 = .ok (.iload 4, 2) := dk21 hX2_hearWithin_17 rfl
theorem hX2_hearWithin_19 : cX2_hearWithin.data.toList.drop 19 = sX2_hearWithin_19 := dn2 hX2_hearWithin_17
theorem dX2_hearWithin_19 : decode cX2_hearWithin 19 = .ok (.aload_n 1, 1) := dk43 hX2_hearWithin_19
theorem hX2_hearWithin_20 : cX2_hearWithin.data.toList.drop 20 = sX2_hearWithin_20 := dn1 hX2_hearWithin_19
theorem dX2_hearWithin_20 : decode cX2_hearWithin 20 = .ok (.getfield 18, 3) := dk180 hX2_hearWithin_20 rfl
theorem hX2_hearWithin_23 : cX2_hearWithin.data.toList.drop 23 = sX2_hearWithin_23 := dn3 hX2_hearWithin_20
theorem dX2_hearWithin_23 : decode cX2_hearWithin 23 = .ok (.imul, 1) := dk104 hX2_hearWithin_23
theorem hX2_hearWithin_24 : cX2_hearWithin.data.toList.drop 24 = sX2_hearWithin_24 := dn1 hX2_hearWithin_23
theorem dX2_hearWithin_24 : decode cX2_hearWithin 24 = .ok (.iconst 0, 1) := dk3 hX2_hearWithin_24
theorem hX2_hearWithin_25 : cX2_hearWithin.data.toList.drop 25 = sX2_hearWithin_25 := dn1 hX2_hearWithin_24
theorem dX2_hearWithin_25 : decode cX2_hearWithin 25 = .ok (.invokevirtual 43, 3) := dk182 hX2_hearWithin_25 rfl
theorem hX2_hearWithin_28 : cX2_hearWithin.data.toList.drop 28 = sX2_hearWithin_28 := dn3 hX2_hearWithin_25
theorem dX2_hearWithin_28 : decode cX2_hearWithin 28 = .ok (.ireturn, 1) := dk172 hX2_hearWithin_28
noncomputable def sX2_init_22 : List UInt8 := 177 :: []
noncomputable def sX2_init_19 : List UInt8 := 181 :: 0 :: 15 :: sX2_init_22
noncomputable def sX2_init_17 : List UInt8 := 188 :: 10 :: sX2_init_19
noncomputable def sX2_init_14 : List UInt8 := 17 :: 2 :: 0 :: sX2_init_17
noncomputable def sX2_init_13 : List UInt8 := 42 :: sX2_init_14
noncomputable def sX2_init_10 : List UInt8 := 181 :: 0 :: 9 :: sX2_init_13
noncomputable def sX2_init_8 : List UInt8 := 188 :: 10 :: sX2_init_10
noncomputable def sX2_init_5 : List UInt8 := 17 :: 2 :: 0 :: sX2_init_8
noncomputable def sX2_init_4 : List UInt8 := 42 :: sX2_init_5
noncomputable def sX2_init_1 : List UInt8 := 183 :: 0 :: 3 :: sX2_init_4
noncomputable def sX2_init_0 : List UInt8 := 42 :: sX2_init_1
set_option maxRecDepth 100000 in
theorem hX2_init_0 : cX2_init.data.toList.drop 0 = sX2_init_0 := by decide +kernel
theorem dX2_init_0 : decode cX2_init 0 = .ok (.aload_n 0, 1) := dk42 hX2_init_0
theorem hX2_init_1 : cX2_init.data.toList.drop 1 = sX2_init_1 := dn1 hX2_init_0
theorem dX2_init_1 : decode cX2_init 1 = .ok (.invokespecial 3, 3) := dk183 hX2_init_1 rfl
theorem hX2_init_4 : cX2_init.data.toList.drop 4 = sX2_init_4 := dn3 hX2_init_1
theorem dX2_init_4 : decode cX2_init 4 = .ok (.aload_n 0, 1) := dk42 hX2_init_4
theorem hX2_init_5 : cX2_init.data.toList.drop 5 = sX2_init_5 := dn1 hX2_init_4
theorem dX2_init_5 : decode cX2_init 5 = .ok (.sipush 512, 3) := dk17 hX2_init_5 (by decide)
theorem hX2_init_8 : cX2_init.data.toList.drop 8 = sX2_init_8 := dn3 hX2_init_5
set_option maxRecDepth 100000 in
theorem dX2_init_8 : decode cX2_init 8 = .ok (.newarray .int, 2) := by decide +kernel
theorem hX2_init_10 : cX2_init.data.toList.drop 10 = sX2_init_10 := dn2 hX2_init_8
theorem dX2_init_10 : decode cX2_init 10 = .ok (.putfield 9, 3) := dk181 hX2_init_10 rfl
theorem hX2_init_13 : cX2_init.data.toList.drop 13 = sX2_init_13 := dn3 hX2_init_10
theorem dX2_init_13 : decode cX2_init 13 = .ok (.aload_n 0, 1) := dk42 hX2_init_13
theorem hX2_init_14 : cX2_init.data.toList.drop 14 = sX2_init_14 := dn1 hX2_init_13
theorem dX2_init_14 : decode cX2_init 14 = .ok (.sipush 512, 3) := dk17 hX2_init_14 (by decide)
theorem hX2_init_17 : cX2_init.data.toList.drop 17 = sX2_init_17 := dn3 hX2_init_14
set_option maxRecDepth 100000 in
theorem dX2_init_17 : decode cX2_init 17 = .ok (.newarray .int, 2) := by decide +kernel
theorem hX2_init_19 : cX2_init.data.toList.drop 19 = sX2_init_19 := dn2 hX2_init_17
theorem dX2_init_19 : decode cX2_init 19 = .ok (.putfield 15, 3) := dk181 hX2_init_19 rfl
theorem hX2_init_22 : cX2_init.data.toList.drop 22 = sX2_init_22 := dn3 hX2_init_19
theorem dX2_init_22 : decode cX2_init 22 = .ok (.return_, 1) := dk177 hX2_init_22
noncomputable def sX2_isSoMuch_136 : List UInt8 := 172 :: []
noncomputable def sX2_isSoMuch_135 : List UInt8 := 3 :: sX2_isSoMuch_136
noncomputable def sX2_isSoMuch_132 : List UInt8 := 167 :: 0 :: 4 :: sX2_isSoMuch_135
noncomputable def sX2_isSoMuch_131 : List UInt8 := 4 :: sX2_isSoMuch_132
noncomputable def sX2_isSoMuch_128 : List UInt8 := 154 :: 0 :: 7 :: sX2_isSoMuch_131
noncomputable def sX2_isSoMuch_126 : List UInt8 := 21 :: 6 :: sX2_isSoMuch_128
noncomputable def sX2_isSoMuch_123 : List UInt8 := 167 :: 255 :: 214 :: sX2_isSoMuch_126
noncomputable def sX2_isSoMuch_120 : List UInt8 := 132 :: 7 :: 1 :: sX2_isSoMuch_123
noncomputable def sX2_isSoMuch_119 : List UInt8 := 172 :: sX2_isSoMuch_120
noncomputable def sX2_isSoMuch_117 : List UInt8 := 21 :: 6 :: sX2_isSoMuch_119
noncomputable def sX2_isSoMuch_114 : List UInt8 := 160 :: 0 :: 6 :: sX2_isSoMuch_117
noncomputable def sX2_isSoMuch_112 : List UInt8 := 21 :: 6 :: sX2_isSoMuch_114
noncomputable def sX2_isSoMuch_109 : List UInt8 := 182 :: 0 :: 47 :: sX2_isSoMuch_112
noncomputable def sX2_isSoMuch_108 : List UInt8 := 96 :: sX2_isSoMuch_109
noncomputable def sX2_isSoMuch_107 : List UInt8 := 4 :: sX2_isSoMuch_108
noncomputable def sX2_isSoMuch_105 : List UInt8 := 21 :: 5 :: sX2_isSoMuch_107
noncomputable def sX2_isSoMuch_103 : List UInt8 := 21 :: 4 :: sX2_isSoMuch_105
noncomputable def sX2_isSoMuch_100 : List UInt8 := 182 :: 0 :: 87 :: sX2_isSoMuch_103
noncomputable def sX2_isSoMuch_98 : List UInt8 := 21 :: 7 :: sX2_isSoMuch_100
noncomputable def sX2_isSoMuch_97 : List UInt8 := 29 :: sX2_isSoMuch_98
noncomputable def sX2_isSoMuch_96 : List UInt8 := 43 :: sX2_isSoMuch_97
noncomputable def sX2_isSoMuch_95 : List UInt8 := 44 :: sX2_isSoMuch_96
noncomputable def sX2_isSoMuch_94 : List UInt8 := 44 :: sX2_isSoMuch_95
noncomputable def sX2_isSoMuch_93 : List UInt8 := 43 :: sX2_isSoMuch_94
noncomputable def sX2_isSoMuch_92 : List UInt8 := 42 :: sX2_isSoMuch_93
noncomputable def sX2_isSoMuch_89 : List UInt8 := 162 :: 0 :: 37 :: sX2_isSoMuch_92
noncomputable def sX2_isSoMuch_88 : List UInt8 := 46 :: sX2_isSoMuch_89
noncomputable def sX2_isSoMuch_87 : List UInt8 := 29 :: sX2_isSoMuch_88
noncomputable def sX2_isSoMuch_84 : List UInt8 := 180 :: 0 :: 84 :: sX2_isSoMuch_87
noncomputable def sX2_isSoMuch_83 : List UInt8 := 43 :: sX2_isSoMuch_84
noncomputable def sX2_isSoMuch_81 : List UInt8 := 21 :: 7 :: sX2_isSoMuch_83
noncomputable def sX2_isSoMuch_79 : List UInt8 := 54 :: 7 :: sX2_isSoMuch_81
noncomputable def sX2_isSoMuch_78 : List UInt8 := 3 :: sX2_isSoMuch_79
noncomputable def sX2_isSoMuch_76 : List UInt8 := 54 :: 6 :: sX2_isSoMuch_78
noncomputable def sX2_isSoMuch_75 : List UInt8 := 3 :: sX2_isSoMuch_76
noncomputable def sX2_isSoMuch_72 : List UInt8 := 167 :: 0 :: 4 :: sX2_isSoMuch_75
noncomputable def sX2_isSoMuch_71 : List UInt8 := 4 :: sX2_isSoMuch_72
noncomputable def sX2_isSoMuch_68 : List UInt8 := 160 :: 0 :: 7 :: sX2_isSoMuch_71
noncomputable def sX2_isSoMuch_67 : List UInt8 := 4 :: sX2_isSoMuch_68
noncomputable def sX2_isSoMuch_66 : List UInt8 := 46 :: sX2_isSoMuch_67
noncomputable def sX2_isSoMuch_65 : List UInt8 := 29 :: sX2_isSoMuch_66
noncomputable def sX2_isSoMuch_62 : List UInt8 := 180 :: 0 :: 65 :: sX2_isSoMuch_65
noncomputable def sX2_isSoMuch_61 : List UInt8 := 43 :: sX2_isSoMuch_62
noncomputable def sX2_isSoMuch_60 : List UInt8 := 172 :: sX2_isSoMuch_61
noncomputable def sX2_isSoMuch_59 : List UInt8 := 3 :: sX2_isSoMuch_60
noncomputable def sX2_isSoMuch_56 : List UInt8 := 167 :: 0 :: 4 :: sX2_isSoMuch_59
noncomputable def sX2_isSoMuch_55 : List UInt8 := 4 :: sX2_isSoMuch_56
noncomputable def sX2_isSoMuch_52 : List UInt8 := 161 :: 0 :: 7 :: sX2_isSoMuch_55
noncomputable def sX2_isSoMuch_50 : List UInt8 := 21 :: 4 :: sX2_isSoMuch_52
noncomputable def sX2_isSoMuch_47 : List UInt8 := 182 :: 0 :: 43 :: sX2_isSoMuch_50
noncomputable def sX2_isSoMuch_45 : List UInt8 := 21 :: 5 :: sX2_isSoMuch_47
noncomputable def sX2_isSoMuch_42 : List UInt8 := 184 :: 0 :: 39 :: sX2_isSoMuch_45
noncomputable def sX2_isSoMuch_41 : List UInt8 := 43 :: sX2_isSoMuch_42
noncomputable def sX2_isSoMuch_40 : List UInt8 := 2 :: sX2_isSoMuch_41
noncomputable def sX2_isSoMuch_39 : List UInt8 := 29 :: sX2_isSoMuch_40
noncomputable def sX2_isSoMuch_38 : List UInt8 := 44 :: sX2_isSoMuch_39
noncomputable def sX2_isSoMuch_37 : List UInt8 := 43 :: sX2_isSoMuch_38
noncomputable def sX2_isSoMuch_36 : List UInt8 := 42 :: sX2_isSoMuch_37
noncomputable def sX2_isSoMuch_33 : List UInt8 := 160 :: 0 :: 28 :: sX2_isSoMuch_36
noncomputable def sX2_isSoMuch_32 : List UInt8 := 6 :: sX2_isSoMuch_33
noncomputable def sX2_isSoMuch_31 : List UInt8 := 46 :: sX2_isSoMuch_32
noncomputable def sX2_isSoMuch_30 : List UInt8 := 29 :: sX2_isSoMuch_31
noncomputable def sX2_isSoMuch_27 : List UInt8 := 180 :: 0 :: 65 :: sX2_isSoMuch_30
noncomputable def sX2_isSoMuch_26 : List UInt8 := 43 :: sX2_isSoMuch_27
noncomputable def sX2_isSoMuch_23 : List UInt8 := 153 :: 0 :: 13 :: sX2_isSoMuch_26
noncomputable def sX2_isSoMuch_22 : List UInt8 := 46 :: sX2_isSoMuch_23
noncomputable def sX2_isSoMuch_21 : List UInt8 := 29 :: sX2_isSoMuch_22
noncomputable def sX2_isSoMuch_18 : List UInt8 := 180 :: 0 :: 65 :: sX2_isSoMuch_21
noncomputable def sX2_isSoMuch_17 : List UInt8 := 43 :: sX2_isSoMuch_18
noncomputable def sX2_isSoMuch_16 : List UInt8 := 172 :: sX2_isSoMuch_17
noncomputable def sX2_isSoMuch_15 : List UInt8 := 3 :: sX2_isSoMuch_16
noncomputable def sX2_isSoMuch_12 : List UInt8 := 154 :: 0 :: 5 :: sX2_isSoMuch_15
noncomputable def sX2_isSoMuch_9 : List UInt8 := 182 :: 0 :: 61 :: sX2_isSoMuch_12
noncomputable def sX2_isSoMuch_8 : List UInt8 := 29 :: sX2_isSoMuch_9
noncomputable def sX2_isSoMuch_7 : List UInt8 := 43 :: sX2_isSoMuch_8
noncomputable def sX2_isSoMuch_4 : List UInt8 := 163 :: 0 :: 11 :: sX2_isSoMuch_7
noncomputable def sX2_isSoMuch_2 : List UInt8 := 16 :: 12 :: sX2_isSoMuch_4
noncomputable def sX2_isSoMuch_0 : List UInt8 := 21 :: 5 :: sX2_isSoMuch_2
set_option maxRecDepth 100000 in
theorem hX2_isSoMuch_0 : cX2_isSoMuch.data.toList.drop 0 = sX2_isSoMuch_0 := by decide +kernel
theorem dX2_isSoMuch_0 : decode cX2_isSoMuch 0 = .ok (.iload 5, 2) := dk21 hX2_isSoMuch_0 rfl
theorem hX2_isSoMuch_2 : cX2_isSoMuch.data.toList.drop 2 = sX2_isSoMuch_2 := dn2 hX2_isSoMuch_0
theorem dX2_isSoMuch_2 : decode cX2_isSoMuch 2 = .ok (.bipush 12, 2) := dk16 hX2_isSoMuch_2 (by decide)
theorem hX2_isSoMuch_4 : cX2_isSoMuch.data.toList.drop 4 = sX2_isSoMuch_4 := dn2 hX2_isSoMuch_2
theorem dX2_isSoMuch_4 : decode cX2_isSoMuch 4 = .ok (.if_icmp .gt 11, 3) := dk163 hX2_isSoMuch_4 (by decide)
theorem hX2_isSoMuch_7 : cX2_isSoMuch.data.toList.drop 7 = sX2_isSoMuch_7 := dn3 hX2_isSoMuch_4
theorem dX2_isSoMuch_7 : decode cX2_isSoMuch 7 = .ok (.aload_n 1, 1) := dk43 hX2_isSoMuch_7
theorem hX2_isSoMuch_8 : cX2_isSoMuch.data.toList.drop 8 = sX2_isSoMuch_8 := dn1 hX2_isSoMuch_7
theorem dX2_isSoMuch_8 : decode cX2_isSoMuch 8 = .ok (.iload_n 3, 1) := dk29 hX2_isSoMuch_8
theorem hX2_isSoMuch_9 : cX2_isSoMuch.data.toList.drop 9 = sX2_isSoMuch_9 := dn1 hX2_isSoMuch_8
theorem dX2_isSoMuch_9 : decode cX2_isSoMuch 9 = .ok (.invokevirtual 61, 3) := dk182 hX2_isSoMuch_9 rfl
theorem hX2_isSoMuch_12 : cX2_isSoMuch.data.toList.drop 12 = sX2_isSoMuch_12 := dn3 hX2_isSoMuch_9
theorem dX2_isSoMuch_12 : decode cX2_isSoMuch 12 = .ok (.ifCond .ne 5, 3) := dk154 hX2_isSoMuch_12 (by decide)
theorem hX2_isSoMuch_15 : cX2_isSoMuch.data.toList.drop 15 = sX2_isSoMuch_15 := dn3 hX2_isSoMuch_12
theorem dX2_isSoMuch_15 : decode cX2_isSoMuch 15 = .ok (.iconst 0, 1) := dk3 hX2_isSoMuch_15
theorem hX2_isSoMuch_16 : cX2_isSoMuch.data.toList.drop 16 = sX2_isSoMuch_16 := dn1 hX2_isSoMuch_15
theorem dX2_isSoMuch_16 : decode cX2_isSoMuch 16 = .ok (.ireturn, 1) := dk172 hX2_isSoMuch_16
theorem hX2_isSoMuch_17 : cX2_isSoMuch.data.toList.drop 17 = sX2_isSoMuch_17 := dn1 hX2_isSoMuch_16
theorem dX2_isSoMuch_17 : decode cX2_isSoMuch 17 = .ok (.aload_n 1, 1) := dk43 hX2_isSoMuch_17
theorem hX2_isSoMuch_18 : cX2_isSoMuch.data.toList.drop 18 = sX2_isSoMuch_18 := dn1 hX2_isSoMuch_17
theorem dX2_isSoMuch_18 : decode cX2_isSoMuch 18 = .ok (.getfield 65, 3) := dk180 hX2_isSoMuch_18 rfl
theorem hX2_isSoMuch_21 : cX2_isSoMuch.data.toList.drop 21 = sX2_isSoMuch_21 := dn3 hX2_isSoMuch_18
theorem dX2_isSoMuch_21 : decode cX2_isSoMuch 21 = .ok (.iload_n 3, 1) := dk29 hX2_isSoMuch_21
theorem hX2_isSoMuch_22 : cX2_isSoMuch.data.toList.drop 22 = sX2_isSoMuch_22 := dn1 hX2_isSoMuch_21
theorem dX2_isSoMuch_22 : decode cX2_isSoMuch 22 = .ok (.iaload, 1) := dk46 hX2_isSoMuch_22
theorem hX2_isSoMuch_23 : cX2_isSoMuch.data.toList.drop 23 = sX2_isSoMuch_23 := dn1 hX2_isSoMuch_22
theorem dX2_isSoMuch_23 : decode cX2_isSoMuch 23 = .ok (.ifCond .eq 13, 3) := dk153 hX2_isSoMuch_23 (by decide)
theorem hX2_isSoMuch_26 : cX2_isSoMuch.data.toList.drop 26 = sX2_isSoMuch_26 := dn3 hX2_isSoMuch_23
theorem dX2_isSoMuch_26 : decode cX2_isSoMuch 26 = .ok (.aload_n 1, 1) := dk43 hX2_isSoMuch_26
theorem hX2_isSoMuch_27 : cX2_isSoMuch.data.toList.drop 27 = sX2_isSoMuch_27 := dn1 hX2_isSoMuch_26
theorem dX2_isSoMuch_27 : decode cX2_isSoMuch 27 = .ok (.getfield 65, 3) := dk180 hX2_isSoMuch_27 rfl
theorem hX2_isSoMuch_30 : cX2_isSoMuch.data.toList.drop 30 = sX2_isSoMuch_30 := dn3 hX2_isSoMuch_27
theorem dX2_isSoMuch_30 : decode cX2_isSoMuch 30 = .ok (.iload_n 3, 1) := dk29 hX2_isSoMuch_30
theorem hX2_isSoMuch_31 : cX2_isSoMuch.data.toList.drop 31 = sX2_isSoMuch_31 := dn1 hX2_isSoMuch_30
theorem dX2_isSoMuch_31 : decode cX2_isSoMuch 31 = .ok (.iaload, 1) := dk46 hX2_isSoMuch_31
theorem hX2_isSoMuch_32 : cX2_isSoMuch.data.toList.drop 32 = sX2_isSoMuch_32 := dn1 hX2_isSoMuch_31
theorem dX2_isSoMuch_32 : decode cX2_isSoMuch 32 = .ok (.iconst 3, 1) := dk6 hX2_isSoMuch_32
theorem hX2_isSoMuch_33 : cX2_isSoMuch.data.toList.drop 33 = sX2_isSoMuch_33 := dn1 hX2_isSoMuch_32
theorem dX2_isSoMuch_33 : decode cX2_isSoMuch 33 = .ok (.if_icmp .ne 28, 3) := dk160 hX2_isSoMuch_33 (by decide)
theorem hX2_isSoMuch_36 : cX2_isSoMuch.data.toList.drop 36 = sX2_isSoMuch_36 := dn3 hX2_isSoMuch_33
theorem dX2_isSoMuch_36 : decode cX2_isSoMuch 36 = .ok (.aload_n 0, 1) := dk42 hX2_isSoMuch_36
theorem hX2_isSoMuch_37 : cX2_isSoMuch.data.toList.drop 37 = sX2_isSoMuch_37 := dn1 hX2_isSoMuch_36
theorem dX2_isSoMuch_37 : decode cX2_isSoMuch 37 = .ok (.aload_n 1, 1) := dk43 hX2_isSoMuch_37
theorem hX2_isSoMuch_38 : cX2_isSoMuch.data.toList.drop 38 = sX2_isSoMuch_38 := dn1 hX2_isSoMuch_37
theorem dX2_isSoMuch_38 : decode cX2_isSoMuch 38 = .ok (.aload_n 2, 1) := dk44 hX2_isSoMuch_38
theorem hX2_isSoMuch_39 : cX2_isSoMuch.data.toList.drop 39 = sX2_isSoMuch_39 := dn1 hX2_isSoMuch_38
theorem dX2_isSoMuch_39 : decode cX2_isSoMuch 39 = .ok (.iload_n 3, 1) := dk29 hX2_isSoMuch_39
theorem hX2_isSoMuch_40 : cX2_isSoMuch.data.toList.drop 40 = sX2_isSoMuch_40 := dn1 hX2_isSoMuch_39
theorem dX2_isSoMuch_40 : decode cX2_isSoMuch 40 = .ok (.iconst (-1), 1) := dk2 hX2_isSoMuch_40
theorem hX2_isSoMuch_41 : cX2_isSoMuch.data.toList.drop 41 = sX2_isSoMuch_41 := dn1 hX2_isSoMuch_40
theorem dX2_isSoMuch_41 : decode cX2_isSoMuch 41 = .ok (.aload_n 1, 1) := dk43 hX2_isSoMuch_41
theorem hX2_isSoMuch_42 : cX2_isSoMuch.data.toList.drop 42 = sX2_isSoMuch_42 := dn1 hX2_isSoMuch_41
theorem dX2_isSoMuch_42 : decode cX2_isSoMuch 42 = .ok (.invokestatic 39, 3) := dk184 hX2_isSoMuch_42 rfl
theorem hX2_isSoMuch_45 : cX2_isSoMuch.data.toList.drop 45 = sX2_isSoMuch_45 := dn3 hX2_isSoMuch_42
theorem dX2_isSoMuch_45 : decode cX2_isSoMuch 45 = .ok (.iload 5, 2) := dk21 hX2_isSoMuch_45 rfl
theorem hX2_isSoMuch_47 : cX2_isSoMuch.data.toList.drop 47 = sX2_isSoMuch_47 := dn2 hX2_isSoMuch_45
theorem dX2_isSoMuch_47 : decode cX2_isSoMuch 47 = .ok (.invokevirtual 43, 3) := dk182 hX2_isSoMuch_47 rfl
theorem hX2_isSoMuch_50 : cX2_isSoMuch.data.toList.drop 50 = sX2_isSoMuch_50 := dn3 hX2_isSoMuch_47
theorem dX2_isSoMuch_50 : decode cX2_isSoMuch 50 = .ok (.iload 4, 2) := dk21 hX2_isSoMuch_50 rfl
theorem hX2_isSoMuch_52 : cX2_isSoMuch.data.toList.drop 52 = sX2_isSoMuch_52 := dn2 hX2_isSoMuch_50
theorem dX2_isSoMuch_52 : decode cX2_isSoMuch 52 = .ok (.if_icmp .lt 7, 3) := dk161 hX2_isSoMuch_52 (by decide)
theorem hX2_isSoMuch_55 : cX2_isSoMuch.data.toList.drop 55 = sX2_isSoMuch_55 := dn3 hX2_isSoMuch_52
theorem dX2_isSoMuch_55 : decode cX2_isSoMuch 55 = .ok (.iconst 1, 1) := dk4 hX2_isSoMuch_55
theorem hX2_isSoMuch_56 : cX2_isSoMuch.data.toList.drop 56 = sX2_isSoMuch_56 := dn1 hX2_isSoMuch_55
theorem dX2_isSoMuch_56 : decode cX2_isSoMuch 56 = .ok (.goto 4, 3) := dk167 hX2_isSoMuch_56 (by decide)
theorem hX2_isSoMuch_59 : cX2_isSoMuch.data.toList.drop 59 = sX2_isSoMuch_59 := dn3 hX2_isSoMuch_56
theorem dX2_isSoMuch_59 : decode cX2_isSoMuch 59 = .ok (.iconst 0, 1) := dk3 hX2_isSoMuch_59
theorem hX2_isSoMuch_60 : cX2_isSoMuch.data.toList.drop 60 = sX2_isSoMuch_60 := dn1 hX2_isSoMuch_59
theorem dX2_isSoMuch_60 : decode cX2_isSoMuch 60 = .ok (.ireturn, 1) := dk172 hX2_isSoMuch_60
theorem hX2_isSoMuch_61 : cX2_isSoMuch.data.toList.drop 61 = sX2_isSoMuch_61 := dn1 hX2_isSoMuch_60
theorem dX2_isSoMuch_61 : decode cX2_isSoMuch 61 = .ok (.aload_n 1, 1) := dk43 hX2_isSoMuch_61
theorem hX2_isSoMuch_62 : cX2_isSoMuch.data.toList.drop 62 = sX2_isSoMuch_62 := dn1 hX2_isSoMuch_61
theorem dX2_isSoMuch_62 : decode cX2_isSoMuch 62 = .ok (.getfield 65, 3) := dk180 hX2_isSoMuch_62 rfl
theorem hX2_isSoMuch_65 : cX2_isSoMuch.data.toList.drop 65 = sX2_isSoMuch_65 := dn3 hX2_isSoMuch_62
theorem dX2_isSoMuch_65 : decode cX2_isSoMuch 65 = .ok (.iload_n 3, 1) := dk29 hX2_isSoMuch_65
theorem hX2_isSoMuch_66 : cX2_isSoMuch.data.toList.drop 66 = sX2_isSoMuch_66 := dn1 hX2_isSoMuch_65
theorem dX2_isSoMuch_66 : decode cX2_isSoMuch 66 = .ok (.iaload, 1) := dk46 hX2_isSoMuch_66
theorem hX2_isSoMuch_67 : cX2_isSoMuch.data.toList.drop 67 = sX2_isSoMuch_67 := dn1 hX2_isSoMuch_66
theorem dX2_isSoMuch_67 : decode cX2_isSoMuch 67 = .ok (.iconst 1, 1) := dk4 hX2_isSoMuch_67
theorem hX2_isSoMuch_68 : cX2_isSoMuch.data.toList.drop 68 = sX2_isSoMuch_68 := dn1 hX2_isSoMuch_67
theorem dX2_isSoMuch_68 : decode cX2_isSoMuch 68 = .ok (.if_icmp .ne 7, 3) := dk160 hX2_isSoMuch_68 (by decide)
theorem hX2_isSoMuch_71 : cX2_isSoMuch.data.toList.drop 71 = sX2_isSoMuch_71 := dn3 hX2_isSoMuch_68
theorem dX2_isSoMuch_71 : decode cX2_isSoMuch 71 = .ok (.iconst 1, 1) := dk4 hX2_isSoMuch_71
theorem hX2_isSoMuch_72 : cX2_isSoMuch.data.toList.drop 72 = sX2_isSoMuch_72 := dn1 hX2_isSoMuch_71
theorem dX2_isSoMuch_72 : decode cX2_isSoMuch 72 = .ok (.goto 4, 3) := dk167 hX2_isSoMuch_72 (by decide)
theorem hX2_isSoMuch_75 : cX2_isSoMuch.data.toList.drop 75 = sX2_isSoMuch_75 := dn3 hX2_isSoMuch_72
theorem dX2_isSoMuch_75 : decode cX2_isSoMuch 75 = .ok (.iconst 0, 1) := dk3 hX2_isSoMuch_75
theorem hX2_isSoMuch_76 : cX2_isSoMuch.data.toList.drop 76 = sX2_isSoMuch_76 := dn1 hX2_isSoMuch_75
theorem dX2_isSoMuch_76 : decode cX2_isSoMuch 76 = .ok (.istore 6, 2) := dk54 hX2_isSoMuch_76 rfl
theorem hX2_isSoMuch_78 : cX2_isSoMuch.data.toList.drop 78 = sX2_isSoMuch_78 := dn2 hX2_isSoMuch_76
theorem dX2_isSoMuch_78 : decode cX2_isSoMuch 78 = .ok (.iconst 0, 1) := dk3 hX2_isSoMuch_78
theorem hX2_isSoMuch_79 : cX2_isSoMuch.data.toList.drop 79 = sX2_isSoMuch_79 := dn1 hX2_isSoMuch_78
theorem dX2_isSoMuch_79 : decode cX2_isSoMuch 79 = .ok (.istore 7, 2) := dk54 hX2_isSoMuch_79 rfl
theorem hX2_isSoMuch_81 : cX2_isSoMuch.data.toList.drop 81 = sX2_isSoMuch_81 := dn2 hX2_isSoMuch_79
theorem dX2_isSoMuch_81 : decode cX2_isSoMuch 81 = .ok (.iload 7, 2) := dk21 hX2_isSoMuch_81 rfl
theorem hX2_isSoMuch_83 : cX2_isSoMuch.data.toList.drop 83 = sX2_isSoMuch_83 := dn2 hX2_isSoMuch_81
theorem dX2_isSoMuch_83 : decode cX2_isSoMuch 83 = .ok (.aload_n 1, 1) := dk43 hX2_isSoMuch_83
theorem hX2_isSoMuch_84 : cX2_isSoMuch.data.toList.drop 84 = sX2_isSoMuch_84 := dn1 hX2_isSoMuch_83
theorem dX2_isSoMuch_84 : decode cX2_isSoMuch 84 = .ok (.getfield 84, 3) := dk180 hX2_isSoMuch_84 rfl
theorem hX2_isSoMuch_87 : cX2_isSoMuch.data.toList.drop 87 = sX2_isSoMuch_87 := dn3 hX2_isSoMuch_84
theorem dX2_isSoMuch_87 : decode cX2_isSoMuch 87 = .ok (.iload_n 3, 1) := dk29 hX2_isSoMuch_87
theorem hX2_isSoMuch_88 : cX2_isSoMuch.data.toList.drop 88 = sX2_isSoMuch_88 := dn1 hX2_isSoMuch_87
theorem dX2_isSoMuch_88 : decode cX2_isSoMuch 88 = .ok (.iaload, 1) := dk46 hX2_isSoMuch_88
theorem hX2_isSoMuch_89 : cX2_isSoMuch.data.toList.drop 89 = sX2_isSoMuch_89 := dn1 hX2_isSoMuch_88
theorem dX2_isSoMuch_89 : decode cX2_isSoMuch 89 = .ok (.if_icmp .ge 37, 3) := dk162 hX2_isSoMuch_89 (by decide)
theorem hX2_isSoMuch_92 : cX2_isSoMuch.data.toList.drop 92 = sX2_isSoMuch_92 := dn3 hX2_isSoMuch_89
theorem dX2_isSoMuch_92 : decode cX2_isSoMuch 92 = .ok (.aload_n 0, 1) := dk42 hX2_isSoMuch_92
theorem hX2_isSoMuch_93 : cX2_isSoMuch.data.toList.drop 93 = sX2_isSoMuch_93 := dn1 hX2_isSoMuch_92
theorem dX2_isSoMuch_93 : decode cX2_isSoMuch 93 = .ok (.aload_n 1, 1) := dk43 hX2_isSoMuch_93
theorem hX2_isSoMuch_94 : cX2_isSoMuch.data.toList.drop 94 = sX2_isSoMuch_94 := dn1 hX2_isSoMuch_93
theorem dX2_isSoMuch_94 : decode cX2_isSoMuch 94 = .ok (.aload_n 2, 1) := dk44 hX2_isSoMuch_94
theorem hX2_isSoMuch_95 : cX2_isSoMuch.data.toList.drop 95 = sX2_isSoMuch_95 := dn1 hX2_isSoMuch_94
theorem dX2_isSoMuch_95 : decode cX2_isSoMuch 95 = .ok (.aload_n 2, 1) := dk44 hX2_isSoMuch_95
theorem hX2_isSoMuch_96 : cX2_isSoMuch.data.toList.drop 96 = sX2_isSoMuch_96 := dn1 hX2_isSoMuch_95
theorem dX2_isSoMuch_96 : decode cX2_isSoMuch 96 = .ok (.aload_n 1, 1) := dk43 hX2_isSoMuch_96
theorem hX2_isSoMuch_97 : cX2_isSoMuch.data.toList.drop 97 = sX2_isSoMuch_97 := dn1 hX2_isSoMuch_96
theorem dX2_isSoMuch_97 : decode cX2_isSoMuch 97 = .ok (.iload_n 3, 1) := dk29 hX2_isSoMuch_97
theorem hX2_isSoMuch_98 : cX2_isSoMuch.data.toList.drop 98 = sX2_isSoMuch_98 := dn1 hX2_isSoMuch_97
theorem dX2_isSoMuch_98 : decode cX2_isSoMuch 98 = .ok (.iload 7, 2) := dk21 hX2_isSoMuch_98 rfl
theorem hX2_isSoMuch_100 : cX2_isSoMuch.data.toList.drop 100 = sX2_isSoMuch_100 := dn2 hX2_isSoMuch_98
theorem dX2_isSoMuch_100 : decode cX2_isSoMuch 100 = .ok (.invokevirtual 87, 3) := dk182 hX2_isSoMuch_100 rfl
theorem hX2_isSoMuch_103 : cX2_isSoMuch.data.toList.drop 103 = sX2_isSoMuch_103 := dn3 hX2_isSoMuch_100
theorem dX2_isSoMuch_103 : decode cX2_isSoMuch 103 = .ok (.iload 4, 2) := dk21 hX2_isSoMuch_103 rfl
theorem hX2_isSoMuch_105 : cX2_isSoMuch.data.toList.drop 105 = sX2_isSoMuch_105 := dn2 hX2_isSoMuch_103
theorem dX2_isSoMuch_105 : decode cX2_isSoMuch 105 = .ok (.iload 5, 2) := dk21 hX2_isSoMuch_105 rfl
theorem hX2_isSoMuch_107 : cX2_isSoMuch.data.toList.drop 107 = sX2_isSoMuch_107 := dn2 hX2_isSoMuch_105
theorem dX2_isSoMuch_107 : decode cX2_isSoMuch 107 = .ok (.iconst 1, 1) := dk4 hX2_isSoMuch_107
theorem hX2_isSoMuch_108 : cX2_isSoMuch.data.toList.drop 108 = sX2_isSoMuch_108 := dn1 hX2_isSoMuch_107
theorem dX2_isSoMuch_108 : decode cX2_isSoMuch 108 = .ok (.iadd, 1) := dk96 hX2_isSoMuch_108
theorem hX2_isSoMuch_109 : cX2_isSoMuch.data.toList.drop 109 = sX2_isSoMuch_109 := dn1 hX2_isSoMuch_108
theorem dX2_isSoMuch_109 : decode cX2_isSoMuch 109 = .ok (.invokevirtual 47, 3) := dk182 hX2_isSoMuch_109 rfl
theorem hX2_isSoMuch_112 : cX2_isSoMuch.data.toList.drop 112 = sX2_isSoMuch_112 := dn3 hX2_isSoMuch_109
theorem dX2_isSoMuch_112 : decode cX2_isSoMuch 112 = .ok (.iload 6, 2) := dk21 hX2_isSoMuch_112 rfl
theorem hX2_isSoMuch_114 : cX2_isSoMuch.data.toList.drop 114 = sX2_isSoMuch_114 := dn2 hX2_isSoMuch_112
theorem dX2_isSoMuch_114 : decode cX2_isSoMuch 114 = .ok (.if_icmp .ne 6, 3) := dk160 hX2_isSoMuch_114 (by decide)
theorem hX2_isSoMuch_117 : cX2_isSoMuch.data.toList.drop 117 = sX2_isSoMuch_117 := dn3 hX2_isSoMuch_114
theorem dX2_isSoMuch_117 : decode cX2_isSoMuch 117 = .ok (.iload 6, 2) := dk21 hX2_isSoMuch_117 rfl
theorem hX2_isSoMuch_119 : cX2_isSoMuch.data.toList.drop 119 = sX2_isSoMuch_119 := dn2 hX2_isSoMuch_117
theorem dX2_isSoMuch_119 : decode cX2_isSoMuch 119 = .ok (.ireturn, 1) := dk172 hX2_isSoMuch_119
theorem hX2_isSoMuch_120 : cX2_isSoMuch.data.toList.drop 120 = sX2_isSoMuch_120 := dn1 hX2_isSoMuch_119
theorem dX2_isSoMuch_120 : decode cX2_isSoMuch 120 = .ok (.iinc 7 1, 3) := dk132 hX2_isSoMuch_120 rfl (by decide)
theorem hX2_isSoMuch_123 : cX2_isSoMuch.data.toList.drop 123 = sX2_isSoMuch_123 := dn3 hX2_isSoMuch_120
theorem dX2_isSoMuch_123 : decode cX2_isSoMuch 123 = .ok (.goto (-42), 3) := dk167 hX2_isSoMuch_123 (by decide)
theorem hX2_isSoMuch_126 : cX2_isSoMuch.data.toList.drop 126 = sX2_isSoMuch_126 := dn3 hX2_isSoMuch_123
theorem dX2_isSoMuch_126 : decode cX2_isSoMuch 126 = .ok (.iload 6, 2) := dk21 hX2_isSoMuch_126 rfl
theorem hX2_isSoMuch_128 : cX2_isSoMuch.data.toList.drop 128 = sX2_isSoMuch_128 := dn2 hX2_isSoMuch_126
theorem dX2_isSoMuch_128 : decode cX2_isSoMuch 128 = .ok (.ifCond .ne 7, 3) := dk154 hX2_isSoMuch_128 (by decide)
theorem hX2_isSoMuch_131 : cX2_isSoMuch.data.toList.drop 131 = sX2_isSoMuch_131 := dn3 hX2_isSoMuch_128
theorem dX2_isSoMuch_131 : decode cX2_isSoMuch 131 = .ok (.iconst 1, 1) := dk4 hX2_isSoMuch_131
theorem hX2_isSoMuch_132 : cX2_isSoMuch.data.toList.drop 132 = sX2_isSoMuch_132 := dn1 hX2_isSoMuch_131
theorem dX2_isSoMuch_132 : decode cX2_isSoMuch 132 = .ok (.goto 4, 3) := dk167 hX2_isSoMuch_132 (by decide)
theorem hX2_isSoMuch_135 : cX2_isSoMuch.data.toList.drop 135 = sX2_isSoMuch_135 := dn3 hX2_isSoMuch_132
theorem dX2_isSoMuch_135 : decode cX2_isSoMuch 135 = .ok (.iconst 0, 1) := dk3 hX2_isSoMuch_135
theorem hX2_isSoMuch_136 : cX2_isSoMuch.data.toList.drop 136 = sX2_isSoMuch_136 := dn1 hX2_isSoMuch_135
theorem dX2_isSoMuch_136 : decode cX2_isSoMuch 136 = .ok (.ireturn, 1) := dk172 hX2_isSoMuch_136
noncomputable def sX2_listen_76 : List UInt8 := 172 :: []
noncomputable def sX2_listen_73 : List UInt8 := 182 :: 0 :: 81 :: sX2_listen_76
noncomputable def sX2_listen_71 : List UInt8 := 21 :: 6 :: sX2_listen_73
noncomputable def sX2_listen_69 : List UInt8 := 21 :: 5 :: sX2_listen_71
noncomputable def sX2_listen_67 : List UInt8 := 21 :: 4 :: sX2_listen_69
noncomputable def sX2_listen_66 : List UInt8 := 29 :: sX2_listen_67
noncomputable def sX2_listen_65 : List UInt8 := 44 :: sX2_listen_66
noncomputable def sX2_listen_64 : List UInt8 := 43 :: sX2_listen_65
noncomputable def sX2_listen_63 : List UInt8 := 42 :: sX2_listen_64
noncomputable def sX2_listen_62 : List UInt8 := 172 :: sX2_listen_63
noncomputable def sX2_listen_59 : List UInt8 := 182 :: 0 :: 77 :: sX2_listen_62
noncomputable def sX2_listen_57 : List UInt8 := 21 :: 6 :: sX2_listen_59
noncomputable def sX2_listen_56 : List UInt8 := 29 :: sX2_listen_57
noncomputable def sX2_listen_55 : List UInt8 := 44 :: sX2_listen_56
noncomputable def sX2_listen_54 : List UInt8 := 43 :: sX2_listen_55
noncomputable def sX2_listen_53 : List UInt8 := 42 :: sX2_listen_54
noncomputable def sX2_listen_50 : List UInt8 := 160 :: 0 :: 13 :: sX2_listen_53
noncomputable def sX2_listen_49 : List UInt8 := 6 :: sX2_listen_50
noncomputable def sX2_listen_48 : List UInt8 := 46 :: sX2_listen_49
noncomputable def sX2_listen_47 : List UInt8 := 29 :: sX2_listen_48
noncomputable def sX2_listen_44 : List UInt8 := 180 :: 0 :: 65 :: sX2_listen_47
noncomputable def sX2_listen_43 : List UInt8 := 43 :: sX2_listen_44
noncomputable def sX2_listen_42 : List UInt8 := 172 :: sX2_listen_43
noncomputable def sX2_listen_41 : List UInt8 := 104 :: sX2_listen_42
noncomputable def sX2_listen_38 : List UInt8 := 180 :: 0 :: 18 :: sX2_listen_41
noncomputable def sX2_listen_37 : List UInt8 := 43 :: sX2_listen_38
noncomputable def sX2_listen_36 : List UInt8 := 46 :: sX2_listen_37
noncomputable def sX2_listen_35 : List UInt8 := 29 :: sX2_listen_36
noncomputable def sX2_listen_32 : List UInt8 := 180 :: 0 :: 72 :: sX2_listen_35
noncomputable def sX2_listen_31 : List UInt8 := 44 :: sX2_listen_32
noncomputable def sX2_listen_28 : List UInt8 := 182 :: 0 :: 68 :: sX2_listen_31
noncomputable def sX2_listen_27 : List UInt8 := 29 :: sX2_listen_28
noncomputable def sX2_listen_26 : List UInt8 := 42 :: sX2_listen_27
noncomputable def sX2_listen_23 : List UInt8 := 154 :: 0 :: 20 :: sX2_listen_26
noncomputable def sX2_listen_22 : List UInt8 := 46 :: sX2_listen_23
noncomputable def sX2_listen_21 : List UInt8 := 29 :: sX2_listen_22
noncomputable def sX2_listen_18 : List UInt8 := 180 :: 0 :: 65 :: sX2_listen_21
noncomputable def sX2_listen_17 : List UInt8 := 43 :: sX2_listen_18
noncomputable def sX2_listen_16 : List UInt8 := 172 :: sX2_listen_17
noncomputable def sX2_listen_15 : List UInt8 := 3 :: sX2_listen_16
noncomputable def sX2_listen_12 : List UInt8 := 154 :: 0 :: 5 :: sX2_listen_15
noncomputable def sX2_listen_9 : List UInt8 := 182 :: 0 :: 61 :: sX2_listen_12
noncomputable def sX2_listen_8 : List UInt8 := 29 :: sX2_listen_9
noncomputable def sX2_listen_7 : List UInt8 := 43 :: sX2_listen_8
noncomputable def sX2_listen_4 : List UInt8 := 163 :: 0 :: 11 :: sX2_listen_7
noncomputable def sX2_listen_2 : List UInt8 := 16 :: 12 :: sX2_listen_4
noncomputable def sX2_listen_0 : List UInt8 := 21 :: 6 :: sX2_listen_2
set_option maxRecDepth 100000 in
theorem hX2_listen_0 : cX2_listen.data.toList.drop 0 = sX2_listen_0 := by decide +kernel
theorem dX2_listen_0 : decode cX2_listen 0 = .ok (.iload 6, 2) := dk21 hX2_listen_0 rfl
theorem hX2_listen_2 : cX2_listen.data.toList.drop 2 = sX2_listen_2 := dn2 hX2_listen_0
theorem dX2_listen_2 : decode cX2_listen 2 = .ok (.bipush 12, 2) := dk16 hX2_listen_2 (by decide)
theorem hX2_listen_4 : cX2_listen.data.toList.drop 4 = sX2_listen_4 := dn2 hX2_listen_2
theorem dX2_listen_4 : decode cX2_listen 4 = .ok (.if_icmp .gt 11, 3) := dk163 hX2_listen_4 (by decide)
theorem hX2_listen_7 : cX2_listen.data.toList.drop 7 = sX2_listen_7 := dn3 hX2_listen_4
theorem dX2_listen_7 : decode cX2_listen 7 = .ok (.aload_n 1, 1) := dk43 hX2_listen_7
theorem hX2_listen_8 : cX2_listen.data.toList.drop 8 = sX2_listen_8 := dn1 hX2_listen_7
theorem dX2_listen_8 : decode cX2_listen 8 = .ok (.iload_n 3, 1) := dk29 hX2_listen_8
theorem hX2_listen_9 : cX2_listen.data.toList.drop 9 = sX2_listen_9 := dn1 hX2_listen_8
theorem dX2_listen_9 : decode cX2_listen 9 = .ok (.invokevirtual 61, 3) := dk182 hX2_listen_9 rfl
theorem hX2_listen_12 : cX2_listen.data.toList.drop 12 = sX2_listen_12 := dn3 hX2_listen_9
theorem dX2_listen_12 : decode cX2_listen 12 = .ok (.ifCond .ne 5, 3) := dk154 hX2_listen_12 (by decide)
theorem hX2_listen_15 : cX2_listen.data.toList.drop 15 = sX2_listen_15 := dn3 hX2_listen_12
theorem dX2_listen_15 : decode cX2_listen 15 = .ok (.iconst 0, 1) := dk3 hX2_listen_15
theorem hX2_listen_16 : cX2_listen.data.toList.drop 16 = sX2_listen_16 := dn1 hX2_listen_15
theorem dX2_listen_16 : decode cX2_listen 16 = .ok (.ireturn, 1) := dk172 hX2_listen_16
theorem hX2_listen_17 : cX2_listen.data.toList.drop 17 = sX2_listen_17 := dn1 hX2_listen_16
theorem dX2_listen_17 : decode cX2_listen 17 = .ok (.aload_n 1, 1) := dk43 hX2_listen_17
theorem hX2_listen_18 : cX2_listen.data.toList.drop 18 = sX2_listen_18 := dn1 hX2_listen_17
theorem dX2_listen_18 : decode cX2_listen 18 = .ok (.getfield 65, 3) := dk180 hX2_listen_18 rfl
theorem hX2_listen_21 : cX2_listen.data.toList.drop 21 = sX2_listen_21 := dn3 hX2_listen_18
theorem dX2_listen_21 : decode cX2_listen 21 = .ok (.iload_n 3, 1) := dk29 hX2_listen_21
theorem hX2_listen_22 : cX2_listen.data.toList.drop 22 = sX2_listen_22 := dn1 hX2_listen_21
theorem dX2_listen_22 : decode cX2_listen 22 = .ok (.iaload, 1) := dk46 hX2_listen_22
theorem hX2_listen_23 : cX2_listen.data.toList.drop 23 = sX2_listen_23 := dn1 hX2_listen_22
theorem dX2_listen_23 : decode cX2_listen 23 = .ok (.ifCond .ne 20, 3) := dk154 hX2_listen_23 (by decide)
theorem hX2_listen_26 : cX2_listen.data.toList.drop 26 = sX2_listen_26 := dn3 hX2_listen_23
theorem dX2_listen_26 : decode cX2_listen 26 = .ok (.aload_n 0, 1) := dk42 hX2_listen_26
theorem hX2_listen_27 : cX2_listen.data.toList.drop 27 = sX2_listen_27 := dn1 hX2_listen_26
theorem dX2_listen_27 : decode cX2_listen 27 = .ok (.iload_n 3, 1) := dk29 hX2_listen_27
theorem hX2_listen_28 : cX2_listen.data.toList.drop 28 = sX2_listen_28 := dn1 hX2_listen_27
theorem dX2_listen_28 : decode cX2_listen 28 = .ok (.invokevirtual 68, 3) := dk182 hX2_listen_28 rfl
theorem hX2_listen_31 : cX2_listen.data.toList.drop 31 = sX2_listen_31 := dn3 hX2_listen_28
theorem dX2_listen_31 : decode cX2_listen 31 = .ok (.aload_n 2, 1) := dk44 hX2_listen_31
theorem hX2_listen_32 : cX2_listen.data.toList.drop 32 = sX2_listen_32 := dn1 hX2_listen_31
theorem dX2_listen_32 : decode cX2_listen 32 = .ok (.getfield 72, 3) := dk180 hX2_listen_32 rfl
theorem hX2_listen_35 : cX2_listen.data.toList.drop 35 = sX2_listen_35 := dn3 hX2_listen_32
theorem dX2_listen_35 : decode cX2_listen 35 = .ok (.iload_n 3, 1) := dk29 hX2_listen_35
theorem hX2_listen_36 : cX2_listen.data.toList.drop 36 = sX2_listen_36 := dn1 hX2_listen_35
theorem dX2_listen_36 : decode cX2_listen 36 = .ok (.iaload, 1) := dk46 hX2_listen_36
theorem hX2_listen_37 : cX2_listen.data.toList.drop 37 = sX2_listen_37 := dn1 hX2_listen_36
theorem dX2_listen_37 : decode cX2_listen 37 = .ok (.aload_n 1, 1) := dk43 hX2_listen_37
theorem hX2_listen_38 : cX2_listen.data.toList.drop 38 = sX2_listen_38 := dn1 hX2_listen_37
theorem dX2_listen_38 : decode cX2_listen 38 = .ok (.getfield 18, 3) := dk180 hX2_listen_38 rfl
theorem hX2_listen_41 : cX2_listen.data.toList.drop 41 = sX2_listen_41 := dn3 hX2_listen_38
theorem dX2_listen_41 : decode cX2_listen 41 = .ok (.imul, 1) := dk104 hX2_listen_41
theorem hX2_listen_42 : cX2_listen.data.toList.drop 42 = sX2_listen_42 := dn1 hX2_listen_41
theorem dX2_listen_42 : decode cX2_listen 42 = .ok (.ireturn, 1) := dk172 hX2_listen_42
theorem hX2_listen_43 : cX2_listen.data.toList.drop 43 = sX2_listen_43 := dn1 hX2_listen_42
theorem dX2_listen_43 : decode cX2_listen 43 = .ok (.aload_n 1, 1) := dk43 hX2_listen_43
theorem hX2_listen_44 : cX2_listen.data.toList.drop 44 = sX2_listen_44 := dn1 hX2_listen_43
theorem dX2_listen_44 : decode cX2_listen 44 = .ok (.getfield 65, 3) := dk180 hX2_listen_44 rfl
theorem hX2_listen_47 : cX2_listen.data.toList.drop 47 = sX2_listen_47 := dn3 hX2_listen_44
theorem dX2_listen_47 : decode cX2_listen 47 = .ok (.iload_n 3, 1) := dk29 hX2_listen_47
theorem hX2_listen_48 : cX2_listen.data.toList.drop 48 = sX2_listen_48 := dn1 hX2_listen_47
theorem dX2_listen_48 : decode cX2_listen 48 = .ok (.iaload, 1) := dk46 hX2_listen_48
theorem hX2_listen_49 : cX2_listen.data.toList.drop 49 = sX2_listen_49 := dn1 hX2_listen_48
theorem dX2_listen_49 : decode cX2_listen 49 = .ok (.iconst 3, 1) := dk6 hX2_listen_49
theorem hX2_listen_50 : cX2_listen.data.toList.drop 50 = sX2_listen_50 := dn1 hX2_listen_49
theorem dX2_listen_50 : decode cX2_listen 50 = .ok (.if_icmp .ne 13, 3) := dk160 hX2_listen_50 (by decide)
theorem hX2_listen_53 : cX2_listen.data.toList.drop 53 = sX2_listen_53 := dn3 hX2_listen_50
theorem dX2_listen_53 : decode cX2_listen 53 = .ok (.aload_n 0, 1) := dk42 hX2_listen_53
theorem hX2_listen_54 : cX2_listen.data.toList.drop 54 = sX2_listen_54 := dn1 hX2_listen_53
theorem dX2_listen_54 : decode cX2_listen 54 = .ok (.aload_n 1, 1) := dk43 hX2_listen_54
theorem hX2_listen_55 : cX2_listen.data.toList.drop 55 = sX2_listen_55 := dn1 hX2_listen_54
theorem dX2_listen_55 : decode cX2_listen 55 = .ok (.aload_n 2, 1) := dk44 hX2_listen_55
theorem hX2_listen_56 : cX2_listen.data.toList.drop 56 = sX2_listen_56 := dn1 hX2_listen_55
theorem dX2_listen_56 : decode cX2_listen 56 = .ok (.iload_n 3, 1) := dk29 hX2_listen_56
theorem hX2_listen_57 : cX2_listen.data.toList.drop 57 = sX2_listen_57 := dn1 hX2_listen_56
theorem dX2_listen_57 : decode cX2_listen 57 = .ok (.iload 6, 2) := dk21 hX2_listen_57 rfl
theorem hX2_listen_59 : cX2_listen.data.toList.drop 59 = sX2_listen_59 := dn2 hX2_listen_57
theorem dX2_listen_59 : decode cX2_listen 59 = .ok (.invokevirtual 77, 3) := dk182 hX2_listen_59 rfl
theorem hX2_listen_62 : cX2_listen.data.toList.drop 62 = sX2_listen_62 := dn3 hX2_listen_59
theorem dX2_listen_62 : decode cX2_listen 62 = .ok (.ireturn, 1) := dk172 hX2_listen_62
theorem hX2_listen_63 : cX2_listen.data.toList.drop 63 = sX2_listen_63 := dn1 hX2_listen_62
theorem dX2_listen_63 : decode cX2_listen 63 = .ok (.aload_n 0, 1) := dk42 hX2_listen_63
theorem hX2_listen_64 : cX2_listen.data.toList.drop 64 = sX2_listen_64 := dn1 hX2_listen_63
theorem dX2_listen_64 : decode cX2_listen 64 = .ok (.aload_n 1, 1) := dk43 hX2_listen_64
theorem hX2_listen_65 : cX2_listen.data.toList.drop 65 = sX2_listen_65 := dn1 hX2_listen_64
theorem dX2_listen_65 : decode cX2_listen 65 = .ok (.aload_n 2, 1) := dk44 hX2_listen_65
theorem hX2_listen_66 : cX2_listen.data.toList.drop 66 = sX2_listen_66 := dn1 hX2_listen_65
theorem dX2_listen_66 : decode cX2_listen 66 = .ok (.iload_n 3, 1) := dk29 hX2_listen_66
theorem hX2_listen_67 : cX2_listen.data.toList.drop 67 = sX2_listen_67 := dn1 hX2_listen_66
theorem dX2_listen_67 : decode cX2_listen 67 = .ok (.iload 4, 2) := dk21 hX2_listen_67 rfl
theorem hX2_listen_69 : cX2_listen.data.toList.drop 69 = sX2_listen_69 := dn2 hX2_listen_67
theorem dX2_listen_69 : decode cX2_listen 69 = .ok (.iload 5, 2) := dk21 hX2_listen_69 rfl
theorem hX2_listen_71 : cX2_listen.data.toList.drop 71 = sX2_listen_71 := dn2 hX2_listen_69
theorem dX2_listen_71 : decode cX2_listen 71 = .ok (.iload 6, 2) := dk21 hX2_listen_71 rfl
theorem hX2_listen_73 : cX2_listen.data.toList.drop 73 = sX2_listen_73 := dn2 hX2_listen_71
theorem dX2_listen_73 : decode cX2_listen 73 = .ok (.invokevirtual 81, 3) := dk182 hX2_listen_73 rfl
theorem hX2_listen_76 : cX2_listen.data.toList.drop 76 = sX2_listen_76 := dn3 hX2_listen_73
theorem dX2_listen_76 : decode cX2_listen 76 = .ok (.ireturn, 1) := dk172 hX2_listen_76
noncomputable def sX2_listenToChance_79 : List UInt8 := 172 :: []
noncomputable def sX2_listenToChance_76 : List UInt8 := 184 :: 0 :: 97 :: sX2_listenToChance_79
noncomputable def sX2_listenToChance_75 : List UInt8 := 46 :: sX2_listenToChance_76
noncomputable def sX2_listenToChance_74 : List UInt8 := 29 :: sX2_listenToChance_75
noncomputable def sX2_listenToChance_71 : List UInt8 := 180 :: 0 :: 94 :: sX2_listenToChance_74
noncomputable def sX2_listenToChance_70 : List UInt8 := 43 :: sX2_listenToChance_71
noncomputable def sX2_listenToChance_68 : List UInt8 := 21 :: 5 :: sX2_listenToChance_70
noncomputable def sX2_listenToChance_65 : List UInt8 := 167 :: 255 :: 197 :: sX2_listenToChance_68
noncomputable def sX2_listenToChance_62 : List UInt8 := 132 :: 6 :: 1 :: sX2_listenToChance_65
noncomputable def sX2_listenToChance_60 : List UInt8 := 54 :: 5 :: sX2_listenToChance_62
noncomputable def sX2_listenToChance_59 : List UInt8 := 96 :: sX2_listenToChance_60
noncomputable def sX2_listenToChance_58 : List UInt8 := 104 :: sX2_listenToChance_59
noncomputable def sX2_listenToChance_55 : List UInt8 := 182 :: 0 :: 91 :: sX2_listenToChance_58
noncomputable def sX2_listenToChance_53 : List UInt8 := 21 :: 6 :: sX2_listenToChance_55
noncomputable def sX2_listenToChance_52 : List UInt8 := 29 :: sX2_listenToChance_53
noncomputable def sX2_listenToChance_51 : List UInt8 := 43 :: sX2_listenToChance_52
noncomputable def sX2_listenToChance_50 : List UInt8 := 44 :: sX2_listenToChance_51
noncomputable def sX2_listenToChance_48 : List UInt8 := 21 :: 8 :: sX2_listenToChance_50
noncomputable def sX2_listenToChance_46 : List UInt8 := 21 :: 5 :: sX2_listenToChance_48
noncomputable def sX2_listenToChance_44 : List UInt8 := 54 :: 8 :: sX2_listenToChance_46
noncomputable def sX2_listenToChance_41 : List UInt8 := 182 :: 0 :: 43 :: sX2_listenToChance_44
noncomputable def sX2_listenToChance_40 : List UInt8 := 96 :: sX2_listenToChance_41
noncomputable def sX2_listenToChance_39 : List UInt8 := 4 :: sX2_listenToChance_40
noncomputable def sX2_listenToChance_37 : List UInt8 := 21 :: 4 :: sX2_listenToChance_39
noncomputable def sX2_listenToChance_34 : List UInt8 := 184 :: 0 :: 39 :: sX2_listenToChance_37
noncomputable def sX2_listenToChance_33 : List UInt8 := 43 :: sX2_listenToChance_34
noncomputable def sX2_listenToChance_32 : List UInt8 := 2 :: sX2_listenToChance_33
noncomputable def sX2_listenToChance_30 : List UInt8 := 21 :: 7 :: sX2_listenToChance_32
noncomputable def sX2_listenToChance_29 : List UInt8 := 44 :: sX2_listenToChance_30
noncomputable def sX2_listenToChance_28 : List UInt8 := 43 :: sX2_listenToChance_29
noncomputable def sX2_listenToChance_27 : List UInt8 := 42 :: sX2_listenToChance_28
noncomputable def sX2_listenToChance_25 : List UInt8 := 54 :: 7 :: sX2_listenToChance_27
noncomputable def sX2_listenToChance_22 : List UInt8 := 182 :: 0 :: 87 :: sX2_listenToChance_25
noncomputable def sX2_listenToChance_20 : List UInt8 := 21 :: 6 :: sX2_listenToChance_22
noncomputable def sX2_listenToChance_19 : List UInt8 := 29 :: sX2_listenToChance_20
noncomputable def sX2_listenToChance_18 : List UInt8 := 43 :: sX2_listenToChance_19
noncomputable def sX2_listenToChance_17 : List UInt8 := 44 :: sX2_listenToChance_18
noncomputable def sX2_listenToChance_14 : List UInt8 := 162 :: 0 :: 54 :: sX2_listenToChance_17
noncomputable def sX2_listenToChance_13 : List UInt8 := 46 :: sX2_listenToChance_14
noncomputable def sX2_listenToChance_12 : List UInt8 := 29 :: sX2_listenToChance_13
noncomputable def sX2_listenToChance_9 : List UInt8 := 180 :: 0 :: 84 :: sX2_listenToChance_12
noncomputable def sX2_listenToChance_8 : List UInt8 := 43 :: sX2_listenToChance_9
noncomputable def sX2_listenToChance_6 : List UInt8 := 21 :: 6 :: sX2_listenToChance_8
noncomputable def sX2_listenToChance_4 : List UInt8 := 54 :: 6 :: sX2_listenToChance_6
noncomputable def sX2_listenToChance_3 : List UInt8 := 3 :: sX2_listenToChance_4
noncomputable def sX2_listenToChance_1 : List UInt8 := 54 :: 5 :: sX2_listenToChance_3
noncomputable def sX2_listenToChance_0 : List UInt8 := 3 :: sX2_listenToChance_1
set_option maxRecDepth 100000 in
theorem hX2_listenToChance_0 : cX2_listenToChance.data.toList.drop 0 = sX2_listenToChance_0 := by decide +kernel
theorem dX2_listenToChance_0 : decode cX2_listenToChance 0 = .ok (.iconst 0, 1) := dk3 hX2_listenToChance_0
theorem hX2_listenToChance_1 : cX2_listenToChance.data.toList.drop 1 = sX2_listenToChance_1 := dn1 hX2_listenToChance_0
theorem dX2_listenToChance_1 : decode cX2_listenToChance 1 = .ok (.istore 5, 2) := dk54 hX2_listenToChance_1 rfl
theorem hX2_listenToChance_3 : cX2_listenToChance.data.toList.drop 3 = sX2_listenToChance_3 := dn2 hX2_listenToChance_1
theorem dX2_listenToChance_3 : decode cX2_listenToChance 3 = .ok (.iconst 0, 1) := dk3 hX2_listenToChance_3
theorem hX2_listenToChance_4 : cX2_listenToChance.data.toList.drop 4 = sX2_listenToChance_4 := dn1 hX2_listenToChance_3
theorem dX2_listenToChance_4 : decode cX2_listenToChance 4 = .ok (.istore 6, 2) := dk54 hX2_listenToChance_4 rfl
theorem hX2_listenToChance_6 : cX2_listenToChance.data.toList.drop 6 = sX2_listenToChance_6 := dn2 hX2_listenToChance_4
theorem dX2_listenToChance_6 : decode cX2_listenToChance 6 = .ok (.iload 6, 2) := dk21 hX2_listenToChance_6 rfl
theorem hX2_listenToChance_8 : cX2_listenToChance.data.toList.drop 8 = sX2_listenToChance_8 := dn2 hX2_listenToChance_6
theorem dX2_listenToChance_8 : decode cX2_listenToChance 8 = .ok (.aload_n 1, 1) := dk43 hX2_listenToChance_8
theorem hX2_listenToChance_9 : cX2_listenToChance.data.toList.drop 9 = sX2_listenToChance_9 := dn1 hX2_listenToChance_8
theorem dX2_listenToChance_9 : decode cX2_listenToChance 9 = .ok (.getfield 84, 3) := dk180 hX2_listenToChance_9 rfl
theorem hX2_listenToChance_12 : cX2_listenToChance.data.toList.drop 12 = sX2_listenToChance_12 := dn3 hX2_listenToChance_9
theorem dX2_listenToChance_12 : decode cX2_listenToChance 12 = .ok (.iload_n 3, 1) := dk29 hX2_listenToChance_12
theorem hX2_listenToChance_13 : cX2_listenToChance.data.toList.drop 13 = sX2_listenToChance_13 := dn1 hX2_listenToChance_12
theorem dX2_listenToChance_13 : decode cX2_listenToChance 13 = .ok (.iaload, 1) := dk46 hX2_listenToChance_13
theorem hX2_listenToChance_14 : cX2_listenToChance.data.toList.drop 14 = sX2_listenToChance_14 := dn1 hX2_listenToChance_13
theorem dX2_listenToChance_14 : decode cX2_listenToChance 14 = .ok (.if_icmp .ge 54, 3) := dk162 hX2_listenToChance_14 (by decide)
theorem hX2_listenToChance_17 : cX2_listenToChance.data.toList.drop 17 = sX2_listenToChance_17 := dn3 hX2_listenToChance_14
theorem dX2_listenToChance_17 : decode cX2_listenToChance 17 = .ok (.aload_n 2, 1) := dk44 hX2_listenToChance_17
theorem hX2_listenToChance_18 : cX2_listenToChance.data.toList.drop 18 = sX2_listenToChance_18 := dn1 hX2_listenToChance_17
theorem dX2_listenToChance_18 : decode cX2_listenToChance 18 = .ok (.aload_n 1, 1) := dk43 hX2_listenToChance_18
theorem hX2_listenToChance_19 : cX2_listenToChance.data.toList.drop 19 = sX2_listenToChance_19 := dn1 hX2_listenToChance_18
theorem dX2_listenToChance_19 : decode cX2_listenToChance 19 = .ok (.iload_n 3, 1) := dk29 hX2_listenToChance_19
theorem hX2_listenToChance_20 : cX2_listenToChance.data.toList.drop 20 = sX2_listenToChance_20 := dn1 hX2_listenToChance_19
theorem dX2_listenToChance_20 : decode cX2_listenToChance 20 = .ok (.iload 6, 2) := dk21 hX2_listenToChance_20 rfl
theorem hX2_listenToChance_22 : cX2_listenToChance.data.toList.drop 22 = sX2_listenToChance_22 := dn2 hX2_listenToChance_20
theorem dX2_listenToChance_22 : decode cX2_listenToChance 22 = .ok (.invokevirtual 87, 3) := dk182 hX2_listenToChance_22 rfl
theorem hX2_listenToChance_25 : cX2_listenToChance.data.toList.drop 25 = sX2_listenToChance_25 := dn3 hX2_listenToChance_22
theorem dX2_listenToChance_25 : decode cX2_listenToChance 25 = .ok (.istore 7, 2) := dk54 hX2_listenToChance_25 rfl
theorem hX2_listenToChance_27 : cX2_listenToChance.data.toList.drop 27 = sX2_listenToChance_27 := dn2 hX2_listenToChance_25
theorem dX2_listenToChance_27 : decode cX2_listenToChance 27 = .ok (.aload_n 0, 1) := dk42 hX2_listenToChance_27
theorem hX2_listenToChance_28 : cX2_listenToChance.data.toList.drop 28 = sX2_listenToChance_28 := dn1 hX2_listenToChance_27
theorem dX2_listenToChance_28 : decode cX2_listenToChance 28 = .ok (.aload_n 1, 1) := dk43 hX2_listenToChance_28
theorem hX2_listenToChance_29 : cX2_listenToChance.data.toList.drop 29 = sX2_listenToChance_29 := dn1 hX2_listenToChance_28
theorem dX2_listenToChance_29 : decode cX2_listenToChance 29 = .ok (.aload_n 2, 1) := dk44 hX2_listenToChance_29
theorem hX2_listenToChance_30 : cX2_listenToChance.data.toList.drop 30 = sX2_listenToChance_30 := dn1 hX2_listenToChance_29
theorem dX2_listenToChance_30 : decode cX2_listenToChance 30 = .ok (.iload 7, 2) := dk21 hX2_listenToChance_30 rfl
theorem hX2_listenToChance_32 : cX2_listenToChance.data.toList.drop 32 = sX2_listenToChance_32 := dn2 hX2_listenToChance_30
theorem dX2_listenToChance_32 : decode cX2_listenToChance 32 = .ok (.iconst (-1), 1) := dk2 hX2_listenToChance_32
theorem hX2_listenToChance_33 : cX2_listenToChance.data.toList.drop 33 = sX2_listenToChance_33 := dn1 hX2_listenToChance_32
theorem dX2_listenToChance_33 : decode cX2_listenToChance 33 = .ok (.aload_n 1, 1) := dk43 hX2_listenToChance_33
theorem hX2_listenToChance_34 : cX2_listenToChance.data.toList.drop 34 = sX2_listenToChance_34 := dn1 hX2_listenToChance_33
theorem dX2_listenToChance_34 : decode cX2_listenToChance 34 = .ok (.invokestatic 39, 3) := dk184 hX2_listenToChance_34 rfl
theorem hX2_listenToChance_37 : cX2_listenToChance.data.toList.drop 37 = sX2_listenToChance_37 := dn3 hX2_listenToChance_34
theorem dX2_listenToChance_37 : decode cX2_listenToChance 37 = .ok (.iload 4, 2) := dk21 hX2_listenToChance_37 rfl
theorem hX2_listenToChance_39 : cX2_listenToChance.data.toList.drop 39 = sX2_listenToChance_39 := dn2 hX2_listenToChance_37
theorem dX2_listenToChance_39 : decode cX2_listenToChance 39 = .ok (.iconst 1, 1) := dk4 hX2_listenToChance_39
theorem hX2_listenToChance_40 : cX2_listenToChance.data.toList.drop 40 = sX2_listenToChance_40 := dn1 hX2_listenToChance_39
theorem dX2_listenToChance_40 : decode cX2_listenToChance 40 = .ok (.iadd, 1) := dk96 hX2_listenToChance_40
theorem hX2_listenToChance_41 : cX2_listenToChance.data.toList.drop 41 = sX2_listenToChance_41 := dn1 hX2_listenToChance_40
theorem dX2_listenToChance_41 : decode cX2_listenToChance 41 = .ok (.invokevirtual 43, 3) := dk182 hX2_listenToChance_41 rfl
theorem hX2_listenToChance_44 : cX2_listenToChance.data.toList.drop 44 = sX2_listenToChance_44 := dn3 hX2_listenToChance_41
theorem dX2_listenToChance_44 : decode cX2_listenToChance 44 = .ok (.istore 8, 2) := dk54 hX2_listenToChance_44 rfl
theorem hX2_listenToChance_46 : cX2_listenToChance.data.toList.drop 46 = sX2_listenToChance_46 := dn2 hX2_listenToChance_44
theorem dX2_listenToChance_46 : decode cX2_listenToChance 46 = .ok (.iload 5, 2) := dk21 hX2_listenToChance_46 rfl
theorem hX2_listenToChance_48 : cX2_listenToChance.data.toList.drop 48 = sX2_listenToChance_48 := dn2 hX2_listenToChance_46
theorem dX2_listenToChance_48 : decode cX2_listenToChance 48 = .ok (.iload 8, 2) := dk21 hX2_listenToChance_48 rfl
theorem hX2_listenToChance_50 : cX2_listenToChance.data.toList.drop 50 = sX2_listenToChance_50 := dn2 hX2_listenToChance_48
theorem dX2_listenToChance_50 : decode cX2_listenToChance 50 = .ok (.aload_n 2, 1) := dk44 hX2_listenToChance_50
theorem hX2_listenToChance_51 : cX2_listenToChance.data.toList.drop 51 = sX2_listenToChance_51 := dn1 hX2_listenToChance_50
theorem dX2_listenToChance_51 : decode cX2_listenToChance 51 = .ok (.aload_n 1, 1) := dk43 hX2_listenToChance_51
theorem hX2_listenToChance_52 : cX2_listenToChance.data.toList.drop 52 = sX2_listenToChance_52 := dn1 hX2_listenToChance_51
theorem dX2_listenToChance_52 : decode cX2_listenToChance 52 = .ok (.iload_n 3, 1) := dk29 hX2_listenToChance_52
theorem hX2_listenToChance_53 : cX2_listenToChance.data.toList.drop 53 = sX2_listenToChance_53 := dn1 hX2_listenToChance_52
theorem dX2_listenToChance_53 : decode cX2_listenToChance 53 = .ok (.iload 6, 2) := dk21 hX2_listenToChance_53 rfl
theorem hX2_listenToChance_55 : cX2_listenToChance.data.toList.drop 55 = sX2_listenToChance_55 := dn2 hX2_listenToChance_53
theorem dX2_listenToChance_55 : decode cX2_listenToChance 55 = .ok (.invokevirtual 91, 3) := dk182 hX2_listenToChance_55 rfl
theorem hX2_listenToChance_58 : cX2_listenToChance.data.toList.drop 58 = sX2_listenToChance_58 := dn3 hX2_listenToChance_55
theorem dX2_listenToChance_58 : decode cX2_listenToChance 58 = .ok (.imul, 1) := dk104 hX2_listenToChance_58
theorem hX2_listenToChance_59 : cX2_listenToChance.data.toList.drop 59 = sX2_listenToChance_59 := dn1 hX2_listenToChance_58
theorem dX2_listenToChance_59 : decode cX2_listenToChance 59 = .ok (.iadd, 1) := dk96 hX2_listenToChance_59
theorem hX2_listenToChance_60 : cX2_listenToChance.data.toList.drop 60 = sX2_listenToChance_60 := dn1 hX2_listenToChance_59
theorem dX2_listenToChance_60 : decode cX2_listenToChance 60 = .ok (.istore 5, 2) := dk54 hX2_listenToChance_60 rfl
theorem hX2_listenToChance_62 : cX2_listenToChance.data.toList.drop 62 = sX2_listenToChance_62 := dn2 hX2_listenToChance_60
theorem dX2_listenToChance_62 : decode cX2_listenToChance 62 = .ok (.iinc 6 1, 3) := dk132 hX2_listenToChance_62 rfl (by decide)
theorem hX2_listenToChance_65 : cX2_listenToChance.data.toList.drop 65 = sX2_listenToChance_65 := dn3 hX2_listenToChance_62
theorem dX2_listenToChance_65 : decode cX2_listenToChance 65 = .ok (.goto (-59), 3) := dk167 hX2_listenToChance_65 (by decide)
theorem hX2_listenToChance_68 : cX2_listenToChance.data.toList.drop 68 = sX2_listenToChance_68 := dn3 hX2_listenToChance_65
theorem dX2_listenToChance_68 : decode cX2_listenToChance 68 = .ok (.iload 5, 2) := dk21 hX2_listenToChance_68 rfl
theorem hX2_listenToChance_70 : cX2_listenToChance.data.toList.drop 70 = sX2_listenToChance_70 := dn2 hX2_listenToChance_68
theorem dX2_listenToChance_70 : decode cX2_listenToChance 70 = .ok (.aload_n 1, 1) := dk43 hX2_listenToChance_70
theorem hX2_listenToChance_71 : cX2_listenToChance.data.toList.drop 71 = sX2_listenToChance_71 := dn1 hX2_listenToChance_70
theorem dX2_listenToChance_71 : decode cX2_listenToChance 71 = .ok (.getfield 94, 3) := dk180 hX2_listenToChance_71 rfl
theorem hX2_listenToChance_74 : cX2_listenToChance.data.toList.drop 74 = sX2_listenToChance_74 := dn3 hX2_listenToChance_71
theorem dX2_listenToChance_74 : decode cX2_listenToChance 74 = .ok (.iload_n 3, 1) := dk29 hX2_listenToChance_74
theorem hX2_listenToChance_75 : cX2_listenToChance.data.toList.drop 75 = sX2_listenToChance_75 := dn1 hX2_listenToChance_74
theorem dX2_listenToChance_75 : decode cX2_listenToChance 75 = .ok (.iaload, 1) := dk46 hX2_listenToChance_75
theorem hX2_listenToChance_76 : cX2_listenToChance.data.toList.drop 76 = sX2_listenToChance_76 := dn1 hX2_listenToChance_75
theorem dX2_listenToChance_76 : decode cX2_listenToChance 76 = .ok (.invokestatic 97, 3) := dk184 hX2_listenToChance_76 rfl
theorem hX2_listenToChance_79 : cX2_listenToChance.data.toList.drop 79 = sX2_listenToChance_79 := dn3 hX2_listenToChance_76
theorem dX2_listenToChance_79 : decode cX2_listenToChance 79 = .ok (.ireturn, 1) := dk172 hX2_listenToChance_79
noncomputable def sX2_listenToRuler_167 : List UInt8 := 172 :: []
noncomputable def sX2_listenToRuler_165 : List UInt8 := 21 :: 10 :: sX2_listenToRuler_167
noncomputable def sX2_listenToRuler_162 : List UInt8 := 167 :: 255 :: 125 :: sX2_listenToRuler_165
noncomputable def sX2_listenToRuler_159 : List UInt8 := 132 :: 11 :: 1 :: sX2_listenToRuler_162
noncomputable def sX2_listenToRuler_157 : List UInt8 := 54 :: 9 :: sX2_listenToRuler_159
noncomputable def sX2_listenToRuler_154 : List UInt8 := 184 :: 0 :: 110 :: sX2_listenToRuler_157
noncomputable def sX2_listenToRuler_152 : List UInt8 := 21 :: 10 :: sX2_listenToRuler_154
noncomputable def sX2_listenToRuler_150 : List UInt8 := 21 :: 9 :: sX2_listenToRuler_152
noncomputable def sX2_listenToRuler_147 : List UInt8 := 167 :: 0 :: 12 :: sX2_listenToRuler_150
noncomputable def sX2_listenToRuler_145 : List UInt8 := 54 :: 8 :: sX2_listenToRuler_147
noncomputable def sX2_listenToRuler_142 : List UInt8 := 184 :: 0 :: 105 :: sX2_listenToRuler_145
noncomputable def sX2_listenToRuler_140 : List UInt8 := 21 :: 10 :: sX2_listenToRuler_142
noncomputable def sX2_listenToRuler_138 : List UInt8 := 21 :: 8 :: sX2_listenToRuler_140
noncomputable def sX2_listenToRuler_135 : List UInt8 := 153 :: 0 :: 15 :: sX2_listenToRuler_138
noncomputable def sX2_listenToRuler_133 : List UInt8 := 21 :: 7 :: sX2_listenToRuler_135
noncomputable def sX2_listenToRuler_132 : List UInt8 := 172 :: sX2_listenToRuler_133
noncomputable def sX2_listenToRuler_130 : List UInt8 := 21 :: 10 :: sX2_listenToRuler_132
noncomputable def sX2_listenToRuler_127 : List UInt8 := 182 :: 0 :: 101 :: sX2_listenToRuler_130
noncomputable def sX2_listenToRuler_126 : List UInt8 := 96 :: sX2_listenToRuler_127
noncomputable def sX2_listenToRuler_125 : List UInt8 := 4 :: sX2_listenToRuler_126
noncomputable def sX2_listenToRuler_123 : List UInt8 := 21 :: 11 :: sX2_listenToRuler_125
noncomputable def sX2_listenToRuler_122 : List UInt8 := 29 :: sX2_listenToRuler_123
noncomputable def sX2_listenToRuler_121 : List UInt8 := 44 :: sX2_listenToRuler_122
noncomputable def sX2_listenToRuler_120 : List UInt8 := 43 :: sX2_listenToRuler_121
noncomputable def sX2_listenToRuler_119 : List UInt8 := 42 :: sX2_listenToRuler_120
noncomputable def sX2_listenToRuler_116 : List UInt8 := 163 :: 0 :: 17 :: sX2_listenToRuler_119
noncomputable def sX2_listenToRuler_114 : List UInt8 := 21 :: 8 :: sX2_listenToRuler_116
noncomputable def sX2_listenToRuler_112 : List UInt8 := 21 :: 10 :: sX2_listenToRuler_114
noncomputable def sX2_listenToRuler_109 : List UInt8 := 167 :: 0 :: 10 :: sX2_listenToRuler_112
noncomputable def sX2_listenToRuler_106 : List UInt8 := 161 :: 0 :: 27 :: sX2_listenToRuler_109
noncomputable def sX2_listenToRuler_104 : List UInt8 := 21 :: 9 :: sX2_listenToRuler_106
noncomputable def sX2_listenToRuler_102 : List UInt8 := 21 :: 10 :: sX2_listenToRuler_104
noncomputable def sX2_listenToRuler_99 : List UInt8 := 153 :: 0 :: 13 :: sX2_listenToRuler_102
noncomputable def sX2_listenToRuler_97 : List UInt8 := 21 :: 7 :: sX2_listenToRuler_99
noncomputable def sX2_listenToRuler_95 : List UInt8 := 54 :: 10 :: sX2_listenToRuler_97
noncomputable def sX2_listenToRuler_93 : List UInt8 := 21 :: 12 :: sX2_listenToRuler_95
noncomputable def sX2_listenToRuler_90 : List UInt8 := 162 :: 0 :: 7 :: sX2_listenToRuler_93
noncomputable def sX2_listenToRuler_88 : List UInt8 := 21 :: 10 :: sX2_listenToRuler_90
noncomputable def sX2_listenToRuler_86 : List UInt8 := 21 :: 12 :: sX2_listenToRuler_88
noncomputable def sX2_listenToRuler_83 : List UInt8 := 167 :: 0 :: 10 :: sX2_listenToRuler_86
noncomputable def sX2_listenToRuler_80 : List UInt8 := 164 :: 0 :: 17 :: sX2_listenToRuler_83
noncomputable def sX2_listenToRuler_78 : List UInt8 := 21 :: 10 :: sX2_listenToRuler_80
noncomputable def sX2_listenToRuler_76 : List UInt8 := 21 :: 12 :: sX2_listenToRuler_78
noncomputable def sX2_listenToRuler_73 : List UInt8 := 153 :: 0 :: 13 :: sX2_listenToRuler_76
noncomputable def sX2_listenToRuler_71 : List UInt8 := 21 :: 7 :: sX2_listenToRuler_73
noncomputable def sX2_listenToRuler_68 : List UInt8 := 153 :: 0 :: 25 :: sX2_listenToRuler_71
noncomputable def sX2_listenToRuler_66 : List UInt8 := 21 :: 11 :: sX2_listenToRuler_68
noncomputable def sX2_listenToRuler_64 : List UInt8 := 54 :: 12 :: sX2_listenToRuler_66
noncomputable def sX2_listenToRuler_61 : List UInt8 := 182 :: 0 :: 43 :: sX2_listenToRuler_64
noncomputable def sX2_listenToRuler_60 : List UInt8 := 96 :: sX2_listenToRuler_61
noncomputable def sX2_listenToRuler_59 : List UInt8 := 4 :: sX2_listenToRuler_60
noncomputable def sX2_listenToRuler_57 : List UInt8 := 21 :: 6 :: sX2_listenToRuler_59
noncomputable def sX2_listenToRuler_55 : List UInt8 := 21 :: 9 :: sX2_listenToRuler_57
noncomputable def sX2_listenToRuler_53 : List UInt8 := 21 :: 8 :: sX2_listenToRuler_55
noncomputable def sX2_listenToRuler_50 : List UInt8 := 182 :: 0 :: 87 :: sX2_listenToRuler_53
noncomputable def sX2_listenToRuler_48 : List UInt8 := 21 :: 11 :: sX2_listenToRuler_50
noncomputable def sX2_listenToRuler_47 : List UInt8 := 29 :: sX2_listenToRuler_48
noncomputable def sX2_listenToRuler_46 : List UInt8 := 43 :: sX2_listenToRuler_47
noncomputable def sX2_listenToRuler_45 : List UInt8 := 44 :: sX2_listenToRuler_46
noncomputable def sX2_listenToRuler_44 : List UInt8 := 44 :: sX2_listenToRuler_45
noncomputable def sX2_listenToRuler_43 : List UInt8 := 43 :: sX2_listenToRuler_44
noncomputable def sX2_listenToRuler_42 : List UInt8 := 42 :: sX2_listenToRuler_43
noncomputable def sX2_listenToRuler_39 : List UInt8 := 162 :: 0 :: 126 :: sX2_listenToRuler_42
noncomputable def sX2_listenToRuler_38 : List UInt8 := 46 :: sX2_listenToRuler_39
noncomputable def sX2_listenToRuler_37 : List UInt8 := 29 :: sX2_listenToRuler_38
noncomputable def sX2_listenToRuler_34 : List UInt8 := 180 :: 0 :: 84 :: sX2_listenToRuler_37
noncomputable def sX2_listenToRuler_33 : List UInt8 := 43 :: sX2_listenToRuler_34
noncomputable def sX2_listenToRuler_31 : List UInt8 := 21 :: 11 :: sX2_listenToRuler_33
noncomputable def sX2_listenToRuler_29 : List UInt8 := 54 :: 11 :: sX2_listenToRuler_31
noncomputable def sX2_listenToRuler_28 : List UInt8 := 3 :: sX2_listenToRuler_29
noncomputable def sX2_listenToRuler_26 : List UInt8 := 54 :: 10 :: sX2_listenToRuler_28
noncomputable def sX2_listenToRuler_25 : List UInt8 := 3 :: sX2_listenToRuler_26
noncomputable def sX2_listenToRuler_23 : List UInt8 := 54 :: 9 :: sX2_listenToRuler_25
noncomputable def sX2_listenToRuler_21 : List UInt8 := 21 :: 5 :: sX2_listenToRuler_23
noncomputable def sX2_listenToRuler_19 : List UInt8 := 54 :: 8 :: sX2_listenToRuler_21
noncomputable def sX2_listenToRuler_17 : List UInt8 := 21 :: 4 :: sX2_listenToRuler_19
noncomputable def sX2_listenToRuler_15 : List UInt8 := 54 :: 7 :: sX2_listenToRuler_17
noncomputable def sX2_listenToRuler_14 : List UInt8 := 3 :: sX2_listenToRuler_15
noncomputable def sX2_listenToRuler_11 : List UInt8 := 167 :: 0 :: 4 :: sX2_listenToRuler_14
noncomputable def sX2_listenToRuler_10 : List UInt8 := 4 :: sX2_listenToRuler_11
noncomputable def sX2_listenToRuler_7 : List UInt8 := 160 :: 0 :: 7 :: sX2_listenToRuler_10
noncomputable def sX2_listenToRuler_6 : List UInt8 := 4 :: sX2_listenToRuler_7
noncomputable def sX2_listenToRuler_5 : List UInt8 := 46 :: sX2_listenToRuler_6
noncomputable def sX2_listenToRuler_4 : List UInt8 := 29 :: sX2_listenToRuler_5
noncomputable def sX2_listenToRuler_1 : List UInt8 := 180 :: 0 :: 65 :: sX2_listenToRuler_4
noncomputable def sX2_listenToRuler_0 : List UInt8 := 43 :: sX2_listenToRuler_1
set_option maxRecDepth 100000 in
theorem hX2_listenToRuler_0 : cX2_listenToRuler.data.toList.drop 0 = sX2_listenToRuler_0 := by decide +kernel
theorem dX2_listenToRuler_0 : decode cX2_listenToRuler 0 = .ok (.aload_n 1, 1) := dk43 hX2_listenToRuler_0
theorem hX2_listenToRuler_1 : cX2_listenToRuler.data.toList.drop 1 = sX2_listenToRuler_1 := dn1 hX2_listenToRuler_0
theorem dX2_listenToRuler_1 : decode cX2_listenToRuler 1 = .ok (.getfield 65, 3) := dk180 hX2_listenToRuler_1 rfl
theorem hX2_listenToRuler_4 : cX2_listenToRuler.data.toList.drop 4 = sX2_listenToRuler_4 := dn3 hX2_listenToRuler_1
theorem dX2_listenToRuler_4 : decode cX2_listenToRuler 4 = .ok (.iload_n 3, 1) := dk29 hX2_listenToRuler_4
theorem hX2_listenToRuler_5 : cX2_listenToRuler.data.toList.drop 5 = sX2_listenToRuler_5 := dn1 hX2_listenToRuler_4
theorem dX2_listenToRuler_5 : decode cX2_listenToRuler 5 = .ok (.iaload, 1) := dk46 hX2_listenToRuler_5
theorem hX2_listenToRuler_6 : cX2_listenToRuler.data.toList.drop 6 = sX2_listenToRuler_6 := dn1 hX2_listenToRuler_5
theorem dX2_listenToRuler_6 : decode cX2_listenToRuler 6 = .ok (.iconst 1, 1) := dk4 hX2_listenToRuler_6
theorem hX2_listenToRuler_7 : cX2_listenToRuler.data.toList.drop 7 = sX2_listenToRuler_7 := dn1 hX2_listenToRuler_6
theorem dX2_listenToRuler_7 : decode cX2_listenToRuler 7 = .ok (.if_icmp .ne 7, 3) := dk160 hX2_listenToRuler_7 (by decide)
theorem hX2_listenToRuler_10 : cX2_listenToRuler.data.toList.drop 10 = sX2_listenToRuler_10 := dn3 hX2_listenToRuler_7
theorem dX2_listenToRuler_10 : decode cX2_listenToRuler 10 = .ok (.iconst 1, 1) := dk4 hX2_listenToRuler_10
theorem hX2_listenToRuler_11 : cX2_listenToRuler.data.toList.drop 11 = sX2_listenToRuler_11 := dn1 hX2_listenToRuler_10
theorem dX2_listenToRuler_11 : decode cX2_listenToRuler 11 = .ok (.goto 4, 3) := dk167 hX2_listenToRuler_11 (by decide)
theorem hX2_listenToRuler_14 : cX2_listenToRuler.data.toList.drop 14 = sX2_listenToRuler_14 := dn3 hX2_listenToRuler_11
theorem dX2_listenToRuler_14 : decode cX2_listenToRuler 14 = .ok (.iconst 0, 1) := dk3 hX2_listenToRuler_14
theorem hX2_listenToRuler_15 : cX2_listenToRuler.data.toList.drop 15 = sX2_listenToRuler_15 := dn1 hX2_listenToRuler_14
theorem dX2_listenToRuler_15 : decode cX2_listenToRuler 15 = .ok (.istore 7, 2) := dk54 hX2_listenToRuler_15 rfl
theorem hX2_listenToRuler_17 : cX2_listenToRuler.data.toList.drop 17 = sX2_listenToRuler_17 := dn2 hX2_listenToRuler_15
theorem dX2_listenToRuler_17 : decode cX2_listenToRuler 17 = .ok (.iload 4, 2) := dk21 hX2_listenToRuler_17 rfl
theorem hX2_listenToRuler_19 : cX2_listenToRuler.data.toList.drop 19 = sX2_listenToRuler_19 := dn2 hX2_listenToRuler_17
theorem dX2_listenToRuler_19 : decode cX2_listenToRuler 19 = .ok (.istore 8, 2) := dk54 hX2_listenToRuler_19 rfl
theorem hX2_listenToRuler_21 : cX2_listenToRuler.data.toList.drop 21 = sX2_listenToRuler_21 := dn2 hX2_listenToRuler_19
theorem dX2_listenToRuler_21 : decode cX2_listenToRuler 21 = .ok (.iload 5, 2) := dk21 hX2_listenToRuler_21 rfl
theorem hX2_listenToRuler_23 : cX2_listenToRuler.data.toList.drop 23 = sX2_listenToRuler_23 := dn2 hX2_listenToRuler_21
theorem dX2_listenToRuler_23 : decode cX2_listenToRuler 23 = .ok (.istore 9, 2) := dk54 hX2_listenToRuler_23 rfl
theorem hX2_listenToRuler_25 : cX2_listenToRuler.data.toList.drop 25 = sX2_listenToRuler_25 := dn2 hX2_listenToRuler_23
theorem dX2_listenToRuler_25 : decode cX2_listenToRuler 25 = .ok (.iconst 0, 1) := dk3 hX2_listenToRuler_25
theorem hX2_listenToRuler_26 : cX2_listenToRuler.data.toList.drop 26 = sX2_listenToRuler_26 := dn1 hX2_listenToRuler_25
theorem dX2_listenToRuler_26 : decode cX2_listenToRuler 26 = .ok (.istore 10, 2) := dk54 hX2_listenToRuler_26 rfl
theorem hX2_listenToRuler_28 : cX2_listenToRuler.data.toList.drop 28 = sX2_listenToRuler_28 := dn2 hX2_listenToRuler_26
theorem dX2_listenToRuler_28 : decode cX2_listenToRuler 28 = .ok (.iconst 0, 1) := dk3 hX2_listenToRuler_28
theorem hX2_listenToRuler_29 : cX2_listenToRuler.data.toList.drop 29 = sX2_listenToRuler_29 := dn1 hX2_listenToRuler_28
theorem dX2_listenToRuler_29 : decode cX2_listenToRuler 29 = .ok (.istore 11, 2) := dk54 hX2_listenToRuler_29 rfl
theorem hX2_listenToRuler_31 : cX2_listenToRuler.data.toList.drop 31 = sX2_listenToRuler_31 := dn2 hX2_listenToRuler_29
theorem dX2_listenToRuler_31 : decode cX2_listenToRuler 31 = .ok (.iload 11, 2) := dk21 hX2_listenToRuler_31 rfl
theorem hX2_listenToRuler_33 : cX2_listenToRuler.data.toList.drop 33 = sX2_listenToRuler_33 := dn2 hX2_listenToRuler_31
theorem dX2_listenToRuler_33 : decode cX2_listenToRuler 33 = .ok (.aload_n 1, 1) := dk43 hX2_listenToRuler_33
theorem hX2_listenToRuler_34 : cX2_listenToRuler.data.toList.drop 34 = sX2_listenToRuler_34 := dn1 hX2_listenToRuler_33
theorem dX2_listenToRuler_34 : decode cX2_listenToRuler 34 = .ok (.getfield 84, 3) := dk180 hX2_listenToRuler_34 rfl
theorem hX2_listenToRuler_37 : cX2_listenToRuler.data.toList.drop 37 = sX2_listenToRuler_37 := dn3 hX2_listenToRuler_34
theorem dX2_listenToRuler_37 : decode cX2_listenToRuler 37 = .ok (.iload_n 3, 1) := dk29 hX2_listenToRuler_37
theorem hX2_listenToRuler_38 : cX2_listenToRuler.data.toList.drop 38 = sX2_listenToRuler_38 := dn1 hX2_listenToRuler_37
theorem dX2_listenToRuler_38 : decode cX2_listenToRuler 38 = .ok (.iaload, 1) := dk46 hX2_listenToRuler_38
theorem hX2_listenToRuler_39 : cX2_listenToRuler.data.toList.drop 39 = sX2_listenToRuler_39 := dn1 hX2_listenToRuler_38
theorem dX2_listenToRuler_39 : decode cX2_listenToRuler 39 = .ok (.if_icmp .ge 126, 3) := dk162 hX2_listenToRuler_39 (by decide)
theorem hX2_listenToRuler_42 : cX2_listenToRuler.data.toList.drop 42 = sX2_listenToRuler_42 := dn3 hX2_listenToRuler_39
theorem dX2_listenToRuler_42 : decode cX2_listenToRuler 42 = .ok (.aload_n 0, 1) := dk42 hX2_listenToRuler_42
theorem hX2_listenToRuler_43 : cX2_listenToRuler.data.toList.drop 43 = sX2_listenToRuler_43 := dn1 hX2_listenToRuler_42
theorem dX2_listenToRuler_43 : decode cX2_listenToRuler 43 = .ok (.aload_n 1, 1) := dk43 hX2_listenToRuler_43
theorem hX2_listenToRuler_44 : cX2_listenToRuler.data.toList.drop 44 = sX2_listenToRuler_44 := dn1 hX2_listenToRuler_43
theorem dX2_listenToRuler_44 : decode cX2_listenToRuler 44 = .ok (.aload_n 2, 1) := dk44 hX2_listenToRuler_44
theorem hX2_listenToRuler_45 : cX2_listenToRuler.data.toList.drop 45 = sX2_listenToRuler_45 := dn1 hX2_listenToRuler_44
theorem dX2_listenToRuler_45 : decode cX2_listenToRuler 45 = .ok (.aload_n 2, 1) := dk44 hX2_listenToRuler_45
theorem hX2_listenToRuler_46 : cX2_listenToRuler.data.toList.drop 46 = sX2_listenToRuler_46 := dn1 hX2_listenToRuler_45
theorem dX2_listenToRuler_46 : decode cX2_listenToRuler 46 = .ok (.aload_n 1, 1) := dk43 hX2_listenToRuler_46
theorem hX2_listenToRuler_47 : cX2_listenToRuler.data.toList.drop 47 = sX2_listenToRuler_47 := dn1 hX2_listenToRuler_46
theorem dX2_listenToRuler_47 : decode cX2_listenToRuler 47 = .ok (.iload_n 3, 1) := dk29 hX2_listenToRuler_47
theorem hX2_listenToRuler_48 : cX2_listenToRuler.data.toList.drop 48 = sX2_listenToRuler_48 := dn1 hX2_listenToRuler_47
theorem dX2_listenToRuler_48 : decode cX2_listenToRuler 48 = .ok (.iload 11, 2) := dk21 hX2_listenToRuler_48 rfl
theorem hX2_listenToRuler_50 : cX2_listenToRuler.data.toList.drop 50 = sX2_listenToRuler_50 := dn2 hX2_listenToRuler_48
theorem dX2_listenToRuler_50 : decode cX2_listenToRuler 50 = .ok (.invokevirtual 87, 3) := dk182 hX2_listenToRuler_50 rfl
theorem hX2_listenToRuler_53 : cX2_listenToRuler.data.toList.drop 53 = sX2_listenToRuler_53 := dn3 hX2_listenToRuler_50
theorem dX2_listenToRuler_53 : decode cX2_listenToRuler 53 = .ok (.iload 8, 2) := dk21 hX2_listenToRuler_53 rfl
theorem hX2_listenToRuler_55 : cX2_listenToRuler.data.toList.drop 55 = sX2_listenToRuler_55 := dn2 hX2_listenToRuler_53
theorem dX2_listenToRuler_55 : decode cX2_listenToRuler 55 = .ok (.iload 9, 2) := dk21 hX2_listenToRuler_55 rfl
theorem hX2_listenToRuler_57 : cX2_listenToRuler.data.toList.drop 57 = sX2_listenToRuler_57 := dn2 hX2_listenToRuler_55
theorem dX2_listenToRuler_57 : decode cX2_listenToRuler 57 = .ok (.iload 6, 2) := dk21 hX2_listenToRuler_57 rfl
theorem hX2_listenToRuler_59 : cX2_listenToRuler.data.toList.drop 59 = sX2_listenToRuler_59 := dn2 hX2_listenToRuler_57
theorem dX2_listenToRuler_59 : decode cX2_listenToRuler 59 = .ok (.iconst 1, 1) := dk4 hX2_listenToRuler_59
theorem hX2_listenToRuler_60 : cX2_listenToRuler.data.toList.drop 60 = sX2_listenToRuler_60 := dn1 hX2_listenToRuler_59
theorem dX2_listenToRuler_60 : decode cX2_listenToRuler 60 = .ok (.iadd, 1) := dk96 hX2_listenToRuler_60
theorem hX2_listenToRuler_61 : cX2_listenToRuler.data.toList.drop 61 = sX2_listenToRuler_61 := dn1 hX2_listenToRuler_60
theorem dX2_listenToRuler_61 : decode cX2_listenToRuler 61 = .ok (.invokevirtual 43, 3) := dk182 hX2_listenToRuler_61 rfl
theorem hX2_listenToRuler_64 : cX2_listenToRuler.data.toList.drop 64 = sX2_listenToRuler_64 := dn3 hX2_listenToRuler_61
theorem dX2_listenToRuler_64 : decode cX2_listenToRuler 64 = .ok (.istore 12, 2) := dk54 hX2_listenToRuler_64 rfl
theorem hX2_listenToRuler_66 : cX2_listenToRuler.data.toList.drop 66 = sX2_listenToRuler_66 := dn2 hX2_listenToRuler_64
theorem dX2_listenToRuler_66 : decode cX2_listenToRuler 66 = .ok (.iload 11, 2) := dk21 hX2_listenToRuler_66 rfl
theorem hX2_listenToRuler_68 : cX2_listenToRuler.data.toList.drop 68 = sX2_listenToRuler_68 := dn2 hX2_listenToRuler_66
theorem dX2_listenToRuler_68 : decode cX2_listenToRuler 68 = .ok (.ifCond .eq 25, 3) := dk153 hX2_listenToRuler_68 (by decide)
theorem hX2_listenToRuler_71 : cX2_listenToRuler.data.toList.drop 71 = sX2_listenToRuler_71 := dn3 hX2_listenToRuler_68
theorem dX2_listenToRuler_71 : decode cX2_listenToRuler 71 = .ok (.iload 7, 2) := dk21 hX2_listenToRuler_71 rfl
theorem hX2_listenToRuler_73 : cX2_listenToRuler.data.toList.drop 73 = sX2_listenToRuler_73 := dn2 hX2_listenToRuler_71
theorem dX2_listenToRuler_73 : decode cX2_listenToRuler 73 = .ok (.ifCond .eq 13, 3) := dk153 hX2_listenToRuler_73 (by decide)
theorem hX2_listenToRuler_76 : cX2_listenToRuler.data.toList.drop 76 = sX2_listenToRuler_76 := dn3 hX2_listenToRuler_73
theorem dX2_listenToRuler_76 : decode cX2_listenToRuler 76 = .ok (.iload 12, 2) := dk21 hX2_listenToRuler_76 rfl
theorem hX2_listenToRuler_78 : cX2_listenToRuler.data.toList.drop 78 = sX2_listenToRuler_78 := dn2 hX2_listenToRuler_76
theorem dX2_listenToRuler_78 : decode cX2_listenToRuler 78 = .ok (.iload 10, 2) := dk21 hX2_listenToRuler_78 rfl
theorem hX2_listenToRuler_80 : cX2_listenToRuler.data.toList.drop 80 = sX2_listenToRuler_80 := dn2 hX2_listenToRuler_78
theorem dX2_listenToRuler_80 : decode cX2_listenToRuler 80 = .ok (.if_icmp .le 17, 3) := dk164 hX2_listenToRuler_80 (by decide)
theorem hX2_listenToRuler_83 : cX2_listenToRuler.data.toList.drop 83 = sX2_listenToRuler_83 := dn3 hX2_listenToRuler_80
theorem dX2_listenToRuler_83 : decode cX2_listenToRuler 83 = .ok (.goto 10, 3) := dk167 hX2_listenToRuler_83 (by decide)
theorem hX2_listenToRuler_86 : cX2_listenToRuler.data.toList.drop 86 = sX2_listenToRuler_86 := dn3 hX2_listenToRuler_83
theorem dX2_listenToRuler_86 : decode cX2_listenToRuler 86 = .ok (.iload 12, 2) := dk21 hX2_listenToRuler_86 rfl
theorem hX2_listenToRuler_88 : cX2_listenToRuler.data.toList.drop 88 = sX2_listenToRuler_88 := dn2 hX2_listenToRuler_86
theorem dX2_listenToRuler_88 : decode cX2_listenToRuler 88 = .ok (.iload 10, 2) := dk21 hX2_listenToRuler_88 rfl
theorem hX2_listenToRuler_90 : cX2_listenToRuler.data.toList.drop 90 = sX2_listenToRuler_90 := dn2 hX2_listenToRuler_88
theorem dX2_listenToRuler_90 : decode cX2_listenToRuler 90 = .ok (.if_icmp .ge 7, 3) := dk162 hX2_listenToRuler_90 (by decide)
theorem hX2_listenToRuler_93 : cX2_listenToRuler.data.toList.drop 93 = sX2_listenToRuler_93 := dn3 hX2_listenToRuler_90
theorem dX2_listenToRuler_93 : decode cX2_listenToRuler 93 = .ok (.iload 12, 2) := dk21 hX2_listenToRuler_93 rfl
theorem hX2_listenToRuler_95 : cX2_listenToRuler.data.toList.drop 95 = sX2_listenToRuler_95 := dn2 hX2_listenToRuler_93
theorem dX2_listenToRuler_95 : decode cX2_listenToRuler 95 = .ok (.istore 10, 2) := dk54 hX2_listenToRuler_95 rfl
theorem hX2_listenToRuler_97 : cX2_listenToRuler.data.toList.drop 97 = sX2_listenToRuler_97 := dn2 hX2_listenToRuler_95
theorem dX2_listenToRuler_97 : decode cX2_listenToRuler 97 = .ok (.iload 7, 2) := dk21 hX2_listenToRuler_97 rfl
theorem hX2_listenToRuler_99 : cX2_listenToRuler.data.toList.drop 99 = sX2_listenToRuler_99 := dn2 hX2_listenToRuler_97
theorem dX2_listenToRuler_99 : decode cX2_listenToRuler 99 = .ok (.ifCond .eq 13, 3) := dk153 hX2_listenToRuler_99 (by decide)
theorem hX2_listenToRuler_102 : cX2_listenToRuler.data.toList.drop 102 = sX2_listenToRuler_102 := dn3 hX2_listenToRuler_99
theorem dX2_listenToRuler_102 : decode cX2_listenToRuler 102 = .ok (.iload 10, 2) := dk21 hX2_listenToRuler_102 rfl
theorem hX2_listenToRuler_104 : cX2_listenToRuler.data.toList.drop 104 = sX2_listenToRuler_104 := dn2 hX2_listenToRuler_102
theorem dX2_listenToRuler_104 : decode cX2_listenToRuler 104 = .ok (.iload 9, 2) := dk21 hX2_listenToRuler_104 rfl
theorem hX2_listenToRuler_106 : cX2_listenToRuler.data.toList.drop 106 = sX2_listenToRuler_106 := dn2 hX2_listenToRuler_104
theorem dX2_listenToRuler_106 : decode cX2_listenToRuler 106 = .ok (.if_icmp .lt 27, 3) := dk161 hX2_listenToRuler_106 (by decide)
theorem hX2_listenToRuler_109 : cX2_listenToRuler.data.toList.drop 109 = sX2_listenToRuler_109 := dn3 hX2_listenToRuler_106
theorem dX2_listenToRuler_109 : decode cX2_listenToRuler 109 = .ok (.goto 10, 3) := dk167 hX2_listenToRuler_109 (by decide)
theorem hX2_listenToRuler_112 : cX2_listenToRuler.data.toList.drop 112 = sX2_listenToRuler_112 := dn3 hX2_listenToRuler_109
theorem dX2_listenToRuler_112 : decode cX2_listenToRuler 112 = .ok (.iload 10, 2) := dk21 hX2_listenToRuler_112 rfl
theorem hX2_listenToRuler_114 : cX2_listenToRuler.data.toList.drop 114 = sX2_listenToRuler_114 := dn2 hX2_listenToRuler_112
theorem dX2_listenToRuler_114 : decode cX2_listenToRuler 114 = .ok (.iload 8, 2) := dk21 hX2_listenToRuler_114 rfl
theorem hX2_listenToRuler_116 : cX2_listenToRuler.data.toList.drop 116 = sX2_listenToRuler_116 := dn2 hX2_listenToRuler_114
theorem dX2_listenToRuler_116 : decode cX2_listenToRuler 116 = .ok (.if_icmp .gt 17, 3) := dk163 hX2_listenToRuler_116 (by decide)
theorem hX2_listenToRuler_119 : cX2_listenToRuler.data.toList.drop 119 = sX2_listenToRuler_119 := dn3 hX2_listenToRuler_116
theorem dX2_listenToRuler_119 : decode cX2_listenToRuler 119 = .ok (.aload_n 0, 1) := dk42 hX2_listenToRuler_119
theorem hX2_listenToRuler_120 : cX2_listenToRuler.data.toList.drop 120 = sX2_listenToRuler_120 := dn1 hX2_listenToRuler_119
theorem dX2_listenToRuler_120 : decode cX2_listenToRuler 120 = .ok (.aload_n 1, 1) := dk43 hX2_listenToRuler_120
theorem hX2_listenToRuler_121 : cX2_listenToRuler.data.toList.drop 121 = sX2_listenToRuler_121 := dn1 hX2_listenToRuler_120
theorem dX2_listenToRuler_121 : decode cX2_listenToRuler 121 = .ok (.aload_n 2, 1) := dk44 hX2_listenToRuler_121
theorem hX2_listenToRuler_122 : cX2_listenToRuler.data.toList.drop 122 = sX2_listenToRuler_122 := dn1 hX2_listenToRuler_121
theorem dX2_listenToRuler_122 : decode cX2_listenToRuler 122 = .ok (.iload_n 3, 1) := dk29 hX2_listenToRuler_122
theorem hX2_listenToRuler_123 : cX2_listenToRuler.data.toList.drop 123 = sX2_listenToRuler_123 := dn1 hX2_listenToRuler_122
theorem dX2_listenToRuler_123 : decode cX2_listenToRuler 123 = .ok (.iload 11, 2) := dk21 hX2_listenToRuler_123 rfl
theorem hX2_listenToRuler_125 : cX2_listenToRuler.data.toList.drop 125 = sX2_listenToRuler_125 := dn2 hX2_listenToRuler_123
theorem dX2_listenToRuler_125 : decode cX2_listenToRuler 125 = .ok (.iconst 1, 1) := dk4 hX2_listenToRuler_125
theorem hX2_listenToRuler_126 : cX2_listenToRuler.data.toList.drop 126 = sX2_listenToRuler_126 := dn1 hX2_listenToRuler_125
theorem dX2_listenToRuler_126 : decode cX2_listenToRuler 126 = .ok (.iadd, 1) := dk96 hX2_listenToRuler_126
theorem hX2_listenToRuler_127 : cX2_listenToRuler.data.toList.drop 127 = sX2_listenToRuler_127 := dn1 hX2_listenToRuler_126
theorem dX2_listenToRuler_127 : decode cX2_listenToRuler 127 = .ok (.invokevirtual 101, 3) := dk182 hX2_listenToRuler_127 rfl
theorem hX2_listenToRuler_130 : cX2_listenToRuler.data.toList.drop 130 = sX2_listenToRuler_130 := dn3 hX2_listenToRuler_127
theorem dX2_listenToRuler_130 : decode cX2_listenToRuler 130 = .ok (.iload 10, 2) := dk21 hX2_listenToRuler_130 rfl
theorem hX2_listenToRuler_132 : cX2_listenToRuler.data.toList.drop 132 = sX2_listenToRuler_132 := dn2 hX2_listenToRuler_130
theorem dX2_listenToRuler_132 : decode cX2_listenToRuler 132 = .ok (.ireturn, 1) := dk172 hX2_listenToRuler_132
theorem hX2_listenToRuler_133 : cX2_listenToRuler.data.toList.drop 133 = sX2_listenToRuler_133 := dn1 hX2_listenToRuler_132
theorem dX2_listenToRuler_133 : decode cX2_listenToRuler 133 = .ok (.iload 7, 2) := dk21 hX2_listenToRuler_133 rfl
theorem hX2_listenToRuler_135 : cX2_listenToRuler.data.toList.drop 135 = sX2_listenToRuler_135 := dn2 hX2_listenToRuler_133
theorem dX2_listenToRuler_135 : decode cX2_listenToRuler 135 = .ok (.ifCond .eq 15, 3) := dk153 hX2_listenToRuler_135 (by decide)
theorem hX2_listenToRuler_138 : cX2_listenToRuler.data.toList.drop 138 = sX2_listenToRuler_138 := dn3 hX2_listenToRuler_135
theorem dX2_listenToRuler_138 : decode cX2_listenToRuler 138 = .ok (.iload 8, 2) := dk21 hX2_listenToRuler_138 rfl
theorem hX2_listenToRuler_140 : cX2_listenToRuler.data.toList.drop 140 = sX2_listenToRuler_140 := dn2 hX2_listenToRuler_138
theorem dX2_listenToRuler_140 : decode cX2_listenToRuler 140 = .ok (.iload 10, 2) := dk21 hX2_listenToRuler_140 rfl
theorem hX2_listenToRuler_142 : cX2_listenToRuler.data.toList.drop 142 = sX2_listenToRuler_142 := dn2 hX2_listenToRuler_140
theorem dX2_listenToRuler_142 : decode cX2_listenToRuler 142 = .ok (.invokestatic 105, 3) := dk184 hX2_listenToRuler_142 rfl
theorem hX2_listenToRuler_145 : cX2_listenToRuler.data.toList.drop 145 = sX2_listenToRuler_145 := dn3 hX2_listenToRuler_142
theorem dX2_listenToRuler_145 : decode cX2_listenToRuler 145 = .ok (.istore 8, 2) := dk54 hX2_listenToRuler_145 rfl
theorem hX2_listenToRuler_147 : cX2_listenToRuler.data.toList.drop 147 = sX2_listenToRuler_147 := dn2 hX2_listenToRuler_145
theorem dX2_listenToRuler_147 : decode cX2_listenToRuler 147 = .ok (.goto 12, 3) := dk167 hX2_listenToRuler_147 (by decide)
theorem hX2_listenToRuler_150 : cX2_listenToRuler.data.toList.drop 150 = sX2_listenToRuler_150 := dn3 hX2_listenToRuler_147
theorem dX2_listenToRuler_150 : decode cX2_listenToRuler 150 = .ok (.iload 9, 2) := dk21 hX2_listenToRuler_150 rfl
theorem hX2_listenToRuler_152 : cX2_listenToRuler.data.toList.drop 152 = sX2_listenToRuler_152 := dn2 hX2_listenToRuler_150
theorem dX2_listenToRuler_152 : decode cX2_listenToRuler 152 = .ok (.iload 10, 2) := dk21 hX2_listenToRuler_152 rfl
theorem hX2_listenToRuler_154 : cX2_listenToRuler.data.toList.drop 154 = sX2_listenToRuler_154 := dn2 hX2_listenToRuler_152
theorem dX2_listenToRuler_154 : decode cX2_listenToRuler 154 = .ok (.invokestatic 110, 3) := dk184 hX2_listenToRuler_154 rfl
theorem hX2_listenToRuler_157 : cX2_listenToRuler.data.toList.drop 157 = sX2_listenToRuler_157 := dn3 hX2_listenToRuler_154
theorem dX2_listenToRuler_157 : decode cX2_listenToRuler 157 = .ok (.istore 9, 2) := dk54 hX2_listenToRuler_157 rfl
theorem hX2_listenToRuler_159 : cX2_listenToRuler.data.toList.drop 159 = sX2_listenToRuler_159 := dn2 hX2_listenToRuler_157
theorem dX2_listenToRuler_159 : decode cX2_listenToRuler 159 = .ok (.iinc 11 1, 3) := dk132 hX2_listenToRuler_159 rfl (by decide)
theorem hX2_listenToRuler_162 : cX2_listenToRuler.data.toList.drop 162 = sX2_listenToRuler_162 := dn3 hX2_listenToRuler_159
theorem dX2_listenToRuler_162 : decode cX2_listenToRuler 162 = .ok (.goto (-131), 3) := dk167 hX2_listenToRuler_162 (by decide)
theorem hX2_listenToRuler_165 : cX2_listenToRuler.data.toList.drop 165 = sX2_listenToRuler_165 := dn3 hX2_listenToRuler_162
theorem dX2_listenToRuler_165 : decode cX2_listenToRuler 165 = .ok (.iload 10, 2) := dk21 hX2_listenToRuler_165 rfl
theorem hX2_listenToRuler_167 : cX2_listenToRuler.data.toList.drop 167 = sX2_listenToRuler_167 := dn2 hX2_listenToRuler_165
theorem dX2_listenToRuler_167 : decode cX2_listenToRuler 167 = .ok (.ireturn, 1) := dk172 hX2_listenToRuler_167
noncomputable def sX2_noteCuts_58 : List UInt8 := 177 :: []
noncomputable def sX2_noteCuts_55 : List UInt8 := 167 :: 255 :: 205 :: sX2_noteCuts_58
noncomputable def sX2_noteCuts_52 : List UInt8 := 132 :: 5 :: 1 :: sX2_noteCuts_55
noncomputable def sX2_noteCuts_49 : List UInt8 := 181 :: 0 :: 30 :: sX2_noteCuts_52
noncomputable def sX2_noteCuts_48 : List UInt8 := 96 :: sX2_noteCuts_49
noncomputable def sX2_noteCuts_47 : List UInt8 := 4 :: sX2_noteCuts_48
noncomputable def sX2_noteCuts_44 : List UInt8 := 180 :: 0 :: 30 :: sX2_noteCuts_47
noncomputable def sX2_noteCuts_43 : List UInt8 := 89 :: sX2_noteCuts_44
noncomputable def sX2_noteCuts_42 : List UInt8 := 42 :: sX2_noteCuts_43
noncomputable def sX2_noteCuts_41 : List UInt8 := 79 :: sX2_noteCuts_42
noncomputable def sX2_noteCuts_38 : List UInt8 := 182 :: 0 :: 87 :: sX2_noteCuts_41
noncomputable def sX2_noteCuts_36 : List UInt8 := 21 :: 5 :: sX2_noteCuts_38
noncomputable def sX2_noteCuts_35 : List UInt8 := 29 :: sX2_noteCuts_36
noncomputable def sX2_noteCuts_34 : List UInt8 := 43 :: sX2_noteCuts_35
noncomputable def sX2_noteCuts_33 : List UInt8 := 44 :: sX2_noteCuts_34
noncomputable def sX2_noteCuts_30 : List UInt8 := 180 :: 0 :: 30 :: sX2_noteCuts_33
noncomputable def sX2_noteCuts_29 : List UInt8 := 42 :: sX2_noteCuts_30
noncomputable def sX2_noteCuts_26 : List UInt8 := 180 :: 0 :: 15 :: sX2_noteCuts_29
noncomputable def sX2_noteCuts_25 : List UInt8 := 42 :: sX2_noteCuts_26
noncomputable def sX2_noteCuts_22 : List UInt8 := 162 :: 0 :: 20 :: sX2_noteCuts_25
noncomputable def sX2_noteCuts_19 : List UInt8 := 17 :: 2 :: 0 :: sX2_noteCuts_22
noncomputable def sX2_noteCuts_16 : List UInt8 := 180 :: 0 :: 30 :: sX2_noteCuts_19
noncomputable def sX2_noteCuts_15 : List UInt8 := 42 :: sX2_noteCuts_16
noncomputable def sX2_noteCuts_12 : List UInt8 := 162 :: 0 :: 46 :: sX2_noteCuts_15
noncomputable def sX2_noteCuts_11 : List UInt8 := 46 :: sX2_noteCuts_12
noncomputable def sX2_noteCuts_10 : List UInt8 := 29 :: sX2_noteCuts_11
noncomputable def sX2_noteCuts_7 : List UInt8 := 180 :: 0 :: 84 :: sX2_noteCuts_10
noncomputable def sX2_noteCuts_6 : List UInt8 := 43 :: sX2_noteCuts_7
noncomputable def sX2_noteCuts_4 : List UInt8 := 21 :: 5 :: sX2_noteCuts_6
noncomputable def sX2_noteCuts_2 : List UInt8 := 54 :: 5 :: sX2_noteCuts_4
noncomputable def sX2_noteCuts_0 : List UInt8 := 21 :: 4 :: sX2_noteCuts_2
set_option maxRecDepth 100000 in
theorem hX2_noteCuts_0 : cX2_noteCuts.data.toList.drop 0 = sX2_noteCuts_0 := by decide +kernel
theorem dX2_noteCuts_0 : decode cX2_noteCuts 0 = .ok (.iload 4, 2) := dk21 hX2_noteCuts_0 rfl
theorem hX2_noteCuts_2 : cX2_noteCuts.data.toList.drop 2 = sX2_noteCuts_2 := dn2 hX2_noteCuts_0
theorem dX2_noteCuts_2 : decode cX2_noteCuts 2 = .ok (.istore 5, 2) := dk54 hX2_noteCuts_2 rfl
theorem hX2_noteCuts_4 : cX2_noteCuts.data.toList.drop 4 = sX2_noteCuts_4 := dn2 hX2_noteCuts_2
theorem dX2_noteCuts_4 : decode cX2_noteCuts 4 = .ok (.iload 5, 2) := dk21 hX2_noteCuts_4 rfl
theorem hX2_noteCuts_6 : cX2_noteCuts.data.toList.drop 6 = sX2_noteCuts_6 := dn2 hX2_noteCuts_4
theorem dX2_noteCuts_6 : decode cX2_noteCuts 6 = .ok (.aload_n 1, 1) := dk43 hX2_noteCuts_6
theorem hX2_noteCuts_7 : cX2_noteCuts.data.toList.drop 7 = sX2_noteCuts_7 := dn1 hX2_noteCuts_6
theorem dX2_noteCuts_7 : decode cX2_noteCuts 7 = .ok (.getfield 84, 3) := dk180 hX2_noteCuts_7 rfl
theorem hX2_noteCuts_10 : cX2_noteCuts.data.toList.drop 10 = sX2_noteCuts_10 := dn3 hX2_noteCuts_7
theorem dX2_noteCuts_10 : decode cX2_noteCuts 10 = .ok (.iload_n 3, 1) := dk29 hX2_noteCuts_10
theorem hX2_noteCuts_11 : cX2_noteCuts.data.toList.drop 11 = sX2_noteCuts_11 := dn1 hX2_noteCuts_10
theorem dX2_noteCuts_11 : decode cX2_noteCuts 11 = .ok (.iaload, 1) := dk46 hX2_noteCuts_11
theorem hX2_noteCuts_12 : cX2_noteCuts.data.toList.drop 12 = sX2_noteCuts_12 := dn1 hX2_noteCuts_11
theorem dX2_noteCuts_12 : decode cX2_noteCuts 12 = .ok (.if_icmp .ge 46, 3) := dk162 hX2_noteCuts_12 (by decide)
theorem hX2_noteCuts_15 : cX2_noteCuts.data.toList.drop 15 = sX2_noteCuts_15 := dn3 hX2_noteCuts_12
theorem dX2_noteCuts_15 : decode cX2_noteCuts 15 = .ok (.aload_n 0, 1) := dk42 hX2_noteCuts_15
theorem hX2_noteCuts_16 : cX2_noteCuts.data.toList.drop 16 = sX2_noteCuts_16 := dn1 hX2_noteCuts_15
theorem dX2_noteCuts_16 : decode cX2_noteCuts 16 = .ok (.getfield 30, 3) := dk180 hX2_noteCuts_16 rfl
theorem hX2_noteCuts_19 : cX2_noteCuts.data.toList.drop 19 = sX2_noteCuts_19 := dn3 hX2_noteCuts_16
theorem dX2_noteCuts_19 : decode cX2_noteCuts 19 = .ok (.sipush 512, 3) := dk17 hX2_noteCuts_19 (by decide)
theorem hX2_noteCuts_22 : cX2_noteCuts.data.toList.drop 22 = sX2_noteCuts_22 := dn3 hX2_noteCuts_19
theorem dX2_noteCuts_22 : decode cX2_noteCuts 22 = .ok (.if_icmp .ge 20, 3) := dk162 hX2_noteCuts_22 (by decide)
theorem hX2_noteCuts_25 : cX2_noteCuts.data.toList.drop 25 = sX2_noteCuts_25 := dn3 hX2_noteCuts_22
theorem dX2_noteCuts_25 : decode cX2_noteCuts 25 = .ok (.aload_n 0, 1) := dk42 hX2_noteCuts_25
theorem hX2_noteCuts_26 : cX2_noteCuts.data.toList.drop 26 = sX2_noteCuts_26 := dn1 hX2_noteCuts_25
theorem dX2_noteCuts_26 : decode cX2_noteCuts 26 = .ok (.getfield 15, 3) := dk180 hX2_noteCuts_26 rfl
theorem hX2_noteCuts_29 : cX2_noteCuts.data.toList.drop 29 = sX2_noteCuts_29 := dn3 hX2_noteCuts_26
theorem dX2_noteCuts_29 : decode cX2_noteCuts 29 = .ok (.aload_n 0, 1) := dk42 hX2_noteCuts_29
theorem hX2_noteCuts_30 : cX2_noteCuts.data.toList.drop 30 = sX2_noteCuts_30 := dn1 hX2_noteCuts_29
theorem dX2_noteCuts_30 : decode cX2_noteCuts 30 = .ok (.getfield 30, 3) := dk180 hX2_noteCuts_30 rfl
theorem hX2_noteCuts_33 : cX2_noteCuts.data.toList.drop 33 = sX2_noteCuts_33 := dn3 hX2_noteCuts_30
theorem dX2_noteCuts_33 : decode cX2_noteCuts 33 = .ok (.aload_n 2, 1) := dk44 hX2_noteCuts_33
theorem hX2_noteCuts_34 : cX2_noteCuts.data.toList.drop 34 = sX2_noteCuts_34 := dn1 hX2_noteCuts_33
theorem dX2_noteCuts_34 : decode cX2_noteCuts 34 = .ok (.aload_n 1, 1) := dk43 hX2_noteCuts_34
theorem hX2_noteCuts_35 : cX2_noteCuts.data.toList.drop 35 = sX2_noteCuts_35 := dn1 hX2_noteCuts_34
theorem dX2_noteCuts_35 : decode cX2_noteCuts 35 = .ok (.iload_n 3, 1) := dk29 hX2_noteCuts_35
theorem hX2_noteCuts_36 : cX2_noteCuts.data.toList.drop 36 = sX2_noteCuts_36 := dn1 hX2_noteCuts_35
theorem dX2_noteCuts_36 : decode cX2_noteCuts 36 = .ok (.iload 5, 2) := dk21 hX2_noteCuts_36 rfl
theorem hX2_noteCuts_38 : cX2_noteCuts.data.toList.drop 38 = sX2_noteCuts_38 := dn2 hX2_noteCuts_36
theorem dX2_noteCuts_38 : decode cX2_noteCuts 38 = .ok (.invokevirtual 87, 3) := dk182 hX2_noteCuts_38 rfl
theorem hX2_noteCuts_41 : cX2_noteCuts.data.toList.drop 41 = sX2_noteCuts_41 := dn3 hX2_noteCuts_38
theorem dX2_noteCuts_41 : decode cX2_noteCuts 41 = .ok (.iastore, 1) := dk79 hX2_noteCuts_41
theorem hX2_noteCuts_42 : cX2_noteCuts.data.toList.drop 42 = sX2_noteCuts_42 := dn1 hX2_noteCuts_41
theorem dX2_noteCuts_42 : decode cX2_noteCuts 42 = .ok (.aload_n 0, 1) := dk42 hX2_noteCuts_42
theorem hX2_noteCuts_43 : cX2_noteCuts.data.toList.drop 43 = sX2_noteCuts_43 := dn1 hX2_noteCuts_42
theorem dX2_noteCuts_43 : decode cX2_noteCuts 43 = .ok (.dup, 1) := dk89 hX2_noteCuts_43
theorem hX2_noteCuts_44 : cX2_noteCuts.data.toList.drop 44 = sX2_noteCuts_44 := dn1 hX2_noteCuts_43
theorem dX2_noteCuts_44 : decode cX2_noteCuts 44 = .ok (.getfield 30, 3) := dk180 hX2_noteCuts_44 rfl
theorem hX2_noteCuts_47 : cX2_noteCuts.data.toList.drop 47 = sX2_noteCuts_47 := dn3 hX2_noteCuts_44
theorem dX2_noteCuts_47 : decode cX2_noteCuts 47 = .ok (.iconst 1, 1) := dk4 hX2_noteCuts_47
theorem hX2_noteCuts_48 : cX2_noteCuts.data.toList.drop 48 = sX2_noteCuts_48 := dn1 hX2_noteCuts_47
theorem dX2_noteCuts_48 : decode cX2_noteCuts 48 = .ok (.iadd, 1) := dk96 hX2_noteCuts_48
theorem hX2_noteCuts_49 : cX2_noteCuts.data.toList.drop 49 = sX2_noteCuts_49 := dn1 hX2_noteCuts_48
theorem dX2_noteCuts_49 : decode cX2_noteCuts 49 = .ok (.putfield 30, 3) := dk181 hX2_noteCuts_49 rfl
theorem hX2_noteCuts_52 : cX2_noteCuts.data.toList.drop 52 = sX2_noteCuts_52 := dn3 hX2_noteCuts_49
theorem dX2_noteCuts_52 : decode cX2_noteCuts 52 = .ok (.iinc 5 1, 3) := dk132 hX2_noteCuts_52 rfl (by decide)
theorem hX2_noteCuts_55 : cX2_noteCuts.data.toList.drop 55 = sX2_noteCuts_55 := dn3 hX2_noteCuts_52
theorem dX2_noteCuts_55 : decode cX2_noteCuts 55 = .ok (.goto (-51), 3) := dk167 hX2_noteCuts_55 (by decide)
theorem hX2_noteCuts_58 : cX2_noteCuts.data.toList.drop 58 = sX2_noteCuts_58 := dn3 hX2_noteCuts_55
theorem dX2_noteCuts_58 : decode cX2_noteCuts 58 = .ok (.return_, 1) := dk177 hX2_noteCuts_58
noncomputable def sX2_noteWord_42 : List UInt8 := 177 :: []
noncomputable def sX2_noteWord_39 : List UInt8 := 181 :: 0 :: 27 :: sX2_noteWord_42
noncomputable def sX2_noteWord_38 : List UInt8 := 128 :: sX2_noteWord_39
noncomputable def sX2_noteWord_37 : List UInt8 := 120 :: sX2_noteWord_38
noncomputable def sX2_noteWord_36 : List UInt8 := 27 :: sX2_noteWord_37
noncomputable def sX2_noteWord_35 : List UInt8 := 4 :: sX2_noteWord_36
noncomputable def sX2_noteWord_32 : List UInt8 := 180 :: 0 :: 27 :: sX2_noteWord_35
noncomputable def sX2_noteWord_31 : List UInt8 := 89 :: sX2_noteWord_32
noncomputable def sX2_noteWord_30 : List UInt8 := 42 :: sX2_noteWord_31
noncomputable def sX2_noteWord_27 : List UInt8 := 181 :: 0 :: 24 :: sX2_noteWord_30
noncomputable def sX2_noteWord_26 : List UInt8 := 96 :: sX2_noteWord_27
noncomputable def sX2_noteWord_25 : List UInt8 := 4 :: sX2_noteWord_26
noncomputable def sX2_noteWord_22 : List UInt8 := 180 :: 0 :: 24 :: sX2_noteWord_25
noncomputable def sX2_noteWord_21 : List UInt8 := 89 :: sX2_noteWord_22
noncomputable def sX2_noteWord_20 : List UInt8 := 42 :: sX2_noteWord_21
noncomputable def sX2_noteWord_19 : List UInt8 := 79 :: sX2_noteWord_20
noncomputable def sX2_noteWord_18 : List UInt8 := 27 :: sX2_noteWord_19
noncomputable def sX2_noteWord_15 : List UInt8 := 180 :: 0 :: 24 :: sX2_noteWord_18
noncomputable def sX2_noteWord_14 : List UInt8 := 42 :: sX2_noteWord_15
noncomputable def sX2_noteWord_11 : List UInt8 := 180 :: 0 :: 9 :: sX2_noteWord_14
noncomputable def sX2_noteWord_10 : List UInt8 := 42 :: sX2_noteWord_11
noncomputable def sX2_noteWord_7 : List UInt8 := 162 :: 0 :: 13 :: sX2_noteWord_10
noncomputable def sX2_noteWord_4 : List UInt8 := 17 :: 2 :: 0 :: sX2_noteWord_7
noncomputable def sX2_noteWord_1 : List UInt8 := 180 :: 0 :: 24 :: sX2_noteWord_4
noncomputable def sX2_noteWord_0 : List UInt8 := 42 :: sX2_noteWord_1
set_option maxRecDepth 100000 in
theorem hX2_noteWord_0 : cX2_noteWord.data.toList.drop 0 = sX2_noteWord_0 := by decide +kernel
theorem dX2_noteWord_0 : decode cX2_noteWord 0 = .ok (.aload_n 0, 1) := dk42 hX2_noteWord_0
theorem hX2_noteWord_1 : cX2_noteWord.data.toList.drop 1 = sX2_noteWord_1 := dn1 hX2_noteWord_0
theorem dX2_noteWord_1 : decode cX2_noteWord 1 = .ok (.getfield 24, 3) := dk180 hX2_noteWord_1 rfl
theorem hX2_noteWord_4 : cX2_noteWord.data.toList.drop 4 = sX2_noteWord_4 := dn3 hX2_noteWord_1
theorem dX2_noteWord_4 : decode cX2_noteWord 4 = .ok (.sipush 512, 3) := dk17 hX2_noteWord_4 (by decide)
theorem hX2_noteWord_7 : cX2_noteWord.data.toList.drop 7 = sX2_noteWord_7 := dn3 hX2_noteWord_4
theorem dX2_noteWord_7 : decode cX2_noteWord 7 = .ok (.if_icmp .ge 13, 3) := dk162 hX2_noteWord_7 (by decide)
theorem hX2_noteWord_10 : cX2_noteWord.data.toList.drop 10 = sX2_noteWord_10 := dn3 hX2_noteWord_7
theorem dX2_noteWord_10 : decode cX2_noteWord 10 = .ok (.aload_n 0, 1) := dk42 hX2_noteWord_10
theorem hX2_noteWord_11 : cX2_noteWord.data.toList.drop 11 = sX2_noteWord_11 := dn1 hX2_noteWord_10
theorem dX2_noteWord_11 : decode cX2_noteWord 11 = .ok (.getfield 9, 3) := dk180 hX2_noteWord_11 rfl
theorem hX2_noteWord_14 : cX2_noteWord.data.toList.drop 14 = sX2_noteWord_14 := dn3 hX2_noteWord_11
theorem dX2_noteWord_14 : decode cX2_noteWord 14 = .ok (.aload_n 0, 1) := dk42 hX2_noteWord_14
theorem hX2_noteWord_15 : cX2_noteWord.data.toList.drop 15 = sX2_noteWord_15 := dn1 hX2_noteWord_14
theorem dX2_noteWord_15 : decode cX2_noteWord 15 = .ok (.getfield 24, 3) := dk180 hX2_noteWord_15 rfl
theorem hX2_noteWord_18 : cX2_noteWord.data.toList.drop 18 = sX2_noteWord_18 := dn3 hX2_noteWord_15
theorem dX2_noteWord_18 : decode cX2_noteWord 18 = .ok (.iload_n 1, 1) := dk27 hX2_noteWord_18
theorem hX2_noteWord_19 : cX2_noteWord.data.toList.drop 19 = sX2_noteWord_19 := dn1 hX2_noteWord_18
theorem dX2_noteWord_19 : decode cX2_noteWord 19 = .ok (.iastore, 1) := dk79 hX2_noteWord_19
theorem hX2_noteWord_20 : cX2_noteWord.data.toList.drop 20 = sX2_noteWord_20 := dn1 hX2_noteWord_19
theorem dX2_noteWord_20 : decode cX2_noteWord 20 = .ok (.aload_n 0, 1) := dk42 hX2_noteWord_20
theorem hX2_noteWord_21 : cX2_noteWord.data.toList.drop 21 = sX2_noteWord_21 := dn1 hX2_noteWord_20
theorem dX2_noteWord_21 : decode cX2_noteWord 21 = .ok (.dup, 1) := dk89 hX2_noteWord_21
theorem hX2_noteWord_22 : cX2_noteWord.data.toList.drop 22 = sX2_noteWord_22 := dn1 hX2_noteWord_21
theorem dX2_noteWord_22 : decode cX2_noteWord 22 = .ok (.getfield 24, 3) := dk180 hX2_noteWord_22 rfl
theorem hX2_noteWord_25 : cX2_noteWord.data.toList.drop 25 = sX2_noteWord_25 := dn3 hX2_noteWord_22
theorem dX2_noteWord_25 : decode cX2_noteWord 25 = .ok (.iconst 1, 1) := dk4 hX2_noteWord_25
theorem hX2_noteWord_26 : cX2_noteWord.data.toList.drop 26 = sX2_noteWord_26 := dn1 hX2_noteWord_25
theorem dX2_noteWord_26 : decode cX2_noteWord 26 = .ok (.iadd, 1) := dk96 hX2_noteWord_26
theorem hX2_noteWord_27 : cX2_noteWord.data.toList.drop 27 = sX2_noteWord_27 := dn1 hX2_noteWord_26
theorem dX2_noteWord_27 : decode cX2_noteWord 27 = .ok (.putfield 24, 3) := dk181 hX2_noteWord_27 rfl
theorem hX2_noteWord_30 : cX2_noteWord.data.toList.drop 30 = sX2_noteWord_30 := dn3 hX2_noteWord_27
theorem dX2_noteWord_30 : decode cX2_noteWord 30 = .ok (.aload_n 0, 1) := dk42 hX2_noteWord_30
theorem hX2_noteWord_31 : cX2_noteWord.data.toList.drop 31 = sX2_noteWord_31 := dn1 hX2_noteWord_30
theorem dX2_noteWord_31 : decode cX2_noteWord 31 = .ok (.dup, 1) := dk89 hX2_noteWord_31
theorem hX2_noteWord_32 : cX2_noteWord.data.toList.drop 32 = sX2_noteWord_32 := dn1 hX2_noteWord_31
theorem dX2_noteWord_32 : decode cX2_noteWord 32 = .ok (.getfield 27, 3) := dk180 hX2_noteWord_32 rfl
theorem hX2_noteWord_35 : cX2_noteWord.data.toList.drop 35 = sX2_noteWord_35 := dn3 hX2_noteWord_32
theorem dX2_noteWord_35 : decode cX2_noteWord 35 = .ok (.iconst 1, 1) := dk4 hX2_noteWord_35
theorem hX2_noteWord_36 : cX2_noteWord.data.toList.drop 36 = sX2_noteWord_36 := dn1 hX2_noteWord_35
theorem dX2_noteWord_36 : decode cX2_noteWord 36 = .ok (.iload_n 1, 1) := dk27 hX2_noteWord_36
theorem hX2_noteWord_37 : cX2_noteWord.data.toList.drop 37 = sX2_noteWord_37 := dn1 hX2_noteWord_36
theorem dX2_noteWord_37 : decode cX2_noteWord 37 = .ok (.ishl, 1) := dk120 hX2_noteWord_37
theorem hX2_noteWord_38 : cX2_noteWord.data.toList.drop 38 = sX2_noteWord_38 := dn1 hX2_noteWord_37
theorem dX2_noteWord_38 : decode cX2_noteWord 38 = .ok (.ior, 1) := dk128 hX2_noteWord_38
theorem hX2_noteWord_39 : cX2_noteWord.data.toList.drop 39 = sX2_noteWord_39 := dn1 hX2_noteWord_38
theorem dX2_noteWord_39 : decode cX2_noteWord 39 = .ok (.putfield 27, 3) := dk181 hX2_noteWord_39 rfl
theorem hX2_noteWord_42 : cX2_noteWord.data.toList.drop 42 = sX2_noteWord_42 := dn3 hX2_noteWord_39
theorem dX2_noteWord_42 : decode cX2_noteWord 42 = .ok (.return_, 1) := dk177 hX2_noteWord_42
noncomputable def sX2_wordAt_29 : List UInt8 := 172 :: []
noncomputable def sX2_wordAt_28 : List UInt8 := 2 :: sX2_wordAt_29
noncomputable def sX2_wordAt_25 : List UInt8 := 167 :: 0 :: 4 :: sX2_wordAt_28
noncomputable def sX2_wordAt_24 : List UInt8 := 46 :: sX2_wordAt_25
noncomputable def sX2_wordAt_23 : List UInt8 := 27 :: sX2_wordAt_24
noncomputable def sX2_wordAt_20 : List UInt8 := 180 :: 0 :: 9 :: sX2_wordAt_23
noncomputable def sX2_wordAt_19 : List UInt8 := 42 :: sX2_wordAt_20
noncomputable def sX2_wordAt_16 : List UInt8 := 162 :: 0 :: 12 :: sX2_wordAt_19
noncomputable def sX2_wordAt_13 : List UInt8 := 17 :: 2 :: 0 :: sX2_wordAt_16
noncomputable def sX2_wordAt_12 : List UInt8 := 27 :: sX2_wordAt_13
noncomputable def sX2_wordAt_9 : List UInt8 := 162 :: 0 :: 19 :: sX2_wordAt_12
noncomputable def sX2_wordAt_6 : List UInt8 := 180 :: 0 :: 24 :: sX2_wordAt_9
noncomputable def sX2_wordAt_5 : List UInt8 := 42 :: sX2_wordAt_6
noncomputable def sX2_wordAt_4 : List UInt8 := 27 :: sX2_wordAt_5
noncomputable def sX2_wordAt_1 : List UInt8 := 155 :: 0 :: 27 :: sX2_wordAt_4
noncomputable def sX2_wordAt_0 : List UInt8 := 27 :: sX2_wordAt_1
set_option maxRecDepth 100000 in
theorem hX2_wordAt_0 : cX2_wordAt.data.toList.drop 0 = sX2_wordAt_0 := by decide +kernel
theorem dX2_wordAt_0 : decode cX2_wordAt 0 = .ok (.iload_n 1, 1) := dk27 hX2_wordAt_0
theorem hX2_wordAt_1 : cX2_wordAt.data.toList.drop 1 = sX2_wordAt_1 := dn1 hX2_wordAt_0
theorem dX2_wordAt_1 : decode cX2_wordAt 1 = .ok (.ifCond .lt 27, 3) := dk155 hX2_wordAt_1 (by decide)
theorem hX2_wordAt_4 : cX2_wordAt.data.toList.drop 4 = sX2_wordAt_4 := dn3 hX2_wordAt_1
theorem dX2_wordAt_4 : decode cX2_wordAt 4 = .ok (.iload_n 1, 1) := dk27 hX2_wordAt_4
theorem hX2_wordAt_5 : cX2_wordAt.data.toList.drop 5 = sX2_wordAt_5 := dn1 hX2_wordAt_4
theorem dX2_wordAt_5 : decode cX2_wordAt 5 = .ok (.aload_n 0, 1) := dk42 hX2_wordAt_5
theorem hX2_wordAt_6 : cX2_wordAt.data.toList.drop 6 = sX2_wordAt_6 := dn1 hX2_wordAt_5
theorem dX2_wordAt_6 : decode cX2_wordAt 6 = .ok (.getfield 24, 3) := dk180 hX2_wordAt_6 rfl
theorem hX2_wordAt_9 : cX2_wordAt.data.toList.drop 9 = sX2_wordAt_9 := dn3 hX2_wordAt_6
theorem dX2_wordAt_9 : decode cX2_wordAt 9 = .ok (.if_icmp .ge 19, 3) := dk162 hX2_wordAt_9 (by decide)
theorem hX2_wordAt_12 : cX2_wordAt.data.toList.drop 12 = sX2_wordAt_12 := dn3 hX2_wordAt_9
theorem dX2_wordAt_12 : decode cX2_wordAt 12 = .ok (.iload_n 1, 1) := dk27 hX2_wordAt_12
theorem hX2_wordAt_13 : cX2_wordAt.data.toList.drop 13 = sX2_wordAt_13 := dn1 hX2_wordAt_12
theorem dX2_wordAt_13 : decode cX2_wordAt 13 = .ok (.sipush 512, 3) := dk17 hX2_wordAt_13 (by decide)
theorem hX2_wordAt_16 : cX2_wordAt.data.toList.drop 16 = sX2_wordAt_16 := dn3 hX2_wordAt_13
theorem dX2_wordAt_16 : decode cX2_wordAt 16 = .ok (.if_icmp .ge 12, 3) := dk162 hX2_wordAt_16 (by decide)
theorem hX2_wordAt_19 : cX2_wordAt.data.toList.drop 19 = sX2_wordAt_19 := dn3 hX2_wordAt_16
theorem dX2_wordAt_19 : decode cX2_wordAt 19 = .ok (.aload_n 0, 1) := dk42 hX2_wordAt_19
theorem hX2_wordAt_20 : cX2_wordAt.data.toList.drop 20 = sX2_wordAt_20 := dn1 hX2_wordAt_19
theorem dX2_wordAt_20 : decode cX2_wordAt 20 = .ok (.getfield 9, 3) := dk180 hX2_wordAt_20 rfl
theorem hX2_wordAt_23 : cX2_wordAt.data.toList.drop 23 = sX2_wordAt_23 := dn3 hX2_wordAt_20
theorem dX2_wordAt_23 : decode cX2_wordAt 23 = .ok (.iload_n 1, 1) := dk27 hX2_wordAt_23
theorem hX2_wordAt_24 : cX2_wordAt.data.toList.drop 24 = sX2_wordAt_24 := dn1 hX2_wordAt_23
theorem dX2_wordAt_24 : decode cX2_wordAt 24 = .ok (.iaload, 1) := dk46 hX2_wordAt_24
theorem hX2_wordAt_25 : cX2_wordAt.data.toList.drop 25 = sX2_wordAt_25 := dn1 hX2_wordAt_24
theorem dX2_wordAt_25 : decode cX2_wordAt 25 = .ok (.goto 4, 3) := dk167 hX2_wordAt_25 (by decide)
theorem hX2_wordAt_28 : cX2_wordAt.data.toList.drop 28 = sX2_wordAt_28 := dn3 hX2_wordAt_25
theorem dX2_wordAt_28 : decode cX2_wordAt 28 = .ok (.iconst (-1), 1) := dk2 hX2_wordAt_28
theorem hX2_wordAt_29 : cX2_wordAt.data.toList.drop 29 = sX2_wordAt_29 := dn1 hX2_wordAt_28
theorem dX2_wordAt_29 : decode cX2_wordAt 29 = .ok (.ireturn, 1) := dk172 hX2_wordAt_29
