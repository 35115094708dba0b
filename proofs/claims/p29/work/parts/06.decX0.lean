noncomputable def sX0_dropOldest_62 : List UInt8 := 177 :: []
noncomputable def sX0_dropOldest_59 : List UInt8 := 181 :: 0 :: 22 :: sX0_dropOldest_62
noncomputable def sX0_dropOldest_57 : List UInt8 := 16 :: 15 :: sX0_dropOldest_59
noncomputable def sX0_dropOldest_56 : List UInt8 := 42 :: sX0_dropOldest_57
noncomputable def sX0_dropOldest_53 : List UInt8 := 167 :: 255 :: 205 :: sX0_dropOldest_56
noncomputable def sX0_dropOldest_50 : List UInt8 := 132 :: 1 :: 1 :: sX0_dropOldest_53
noncomputable def sX0_dropOldest_49 : List UInt8 := 84 :: sX0_dropOldest_50
noncomputable def sX0_dropOldest_48 : List UInt8 := 51 :: sX0_dropOldest_49
noncomputable def sX0_dropOldest_47 : List UInt8 := 27 :: sX0_dropOldest_48
noncomputable def sX0_dropOldest_44 : List UInt8 := 180 :: 0 :: 18 :: sX0_dropOldest_47
noncomputable def sX0_dropOldest_43 : List UInt8 := 42 :: sX0_dropOldest_44
noncomputable def sX0_dropOldest_42 : List UInt8 := 100 :: sX0_dropOldest_43
noncomputable def sX0_dropOldest_41 : List UInt8 := 4 :: sX0_dropOldest_42
noncomputable def sX0_dropOldest_40 : List UInt8 := 27 :: sX0_dropOldest_41
noncomputable def sX0_dropOldest_37 : List UInt8 := 180 :: 0 :: 18 :: sX0_dropOldest_40
noncomputable def sX0_dropOldest_36 : List UInt8 := 42 :: sX0_dropOldest_37
noncomputable def sX0_dropOldest_35 : List UInt8 := 79 :: sX0_dropOldest_36
noncomputable def sX0_dropOldest_34 : List UInt8 := 46 :: sX0_dropOldest_35
noncomputable def sX0_dropOldest_33 : List UInt8 := 27 :: sX0_dropOldest_34
noncomputable def sX0_dropOldest_30 : List UInt8 := 180 :: 0 :: 15 :: sX0_dropOldest_33
noncomputable def sX0_dropOldest_29 : List UInt8 := 42 :: sX0_dropOldest_30
noncomputable def sX0_dropOldest_28 : List UInt8 := 100 :: sX0_dropOldest_29
noncomputable def sX0_dropOldest_27 : List UInt8 := 4 :: sX0_dropOldest_28
noncomputable def sX0_dropOldest_26 : List UInt8 := 27 :: sX0_dropOldest_27
noncomputable def sX0_dropOldest_23 : List UInt8 := 180 :: 0 :: 15 :: sX0_dropOldest_26
noncomputable def sX0_dropOldest_22 : List UInt8 := 42 :: sX0_dropOldest_23
noncomputable def sX0_dropOldest_21 : List UInt8 := 79 :: sX0_dropOldest_22
noncomputable def sX0_dropOldest_20 : List UInt8 := 46 :: sX0_dropOldest_21
noncomputable def sX0_dropOldest_19 : List UInt8 := 27 :: sX0_dropOldest_20
noncomputable def sX0_dropOldest_16 : List UInt8 := 180 :: 0 :: 9 :: sX0_dropOldest_19
noncomputable def sX0_dropOldest_15 : List UInt8 := 42 :: sX0_dropOldest_16
noncomputable def sX0_dropOldest_14 : List UInt8 := 100 :: sX0_dropOldest_15
noncomputable def sX0_dropOldest_13 : List UInt8 := 4 :: sX0_dropOldest_14
noncomputable def sX0_dropOldest_12 : List UInt8 := 27 :: sX0_dropOldest_13
noncomputable def sX0_dropOldest_9 : List UInt8 := 180 :: 0 :: 9 :: sX0_dropOldest_12
noncomputable def sX0_dropOldest_8 : List UInt8 := 42 :: sX0_dropOldest_9
noncomputable def sX0_dropOldest_5 : List UInt8 := 162 :: 0 :: 51 :: sX0_dropOldest_8
noncomputable def sX0_dropOldest_3 : List UInt8 := 16 :: 16 :: sX0_dropOldest_5
noncomputable def sX0_dropOldest_2 : List UInt8 := 27 :: sX0_dropOldest_3
noncomputable def sX0_dropOldest_1 : List UInt8 := 60 :: sX0_dropOldest_2
noncomputable def sX0_dropOldest_0 : List UInt8 := 4 :: sX0_dropOldest_1
set_option maxRecDepth 100000 in
theorem hX0_dropOldest_0 : cX0_dropOldest.data.toList.drop 0 = sX0_dropOldest_0 := by decide +kernel
theorem dX0_dropOldest_0 : decode cX0_dropOldest 0 = .ok (.iconst 1, 1) := dk4 hX0_dropOldest_0
theorem hX0_dropOldest_1 : cX0_dropOldest.data.toList.drop 1 = sX0_dropOldest_1 := dn1 hX0_dropOldest_0
theorem dX0_dropOldest_1 : decode cX0_dropOldest 1 = .ok (.istore_n 1, 1) := dk60 hX0_dropOldest_1
theorem hX0_dropOldest_2 : cX0_dropOldest.data.toList.drop 2 = sX0_dropOldest_2 := dn1 hX0_dropOldest_1
theorem dX0_dropOldest_2 : decode cX0_dropOldest 2 = .ok (.iload_n 1, 1) := dk27 hX0_dropOldest_2
theorem hX0_dropOldest_3 : cX0_dropOldest.data.toList.drop 3 = sX0_dropOldest_3 := dn1 hX0_dropOldest_2
theorem dX0_dropOldest_3 : decode cX0_dropOldest 3 = .ok (.bipush 16, 2) := dk16 hX0_dropOldest_3 (by decide)
theorem hX0_dropOldest_5 : cX0_dropOldest.data.toList.drop 5 = sX0_dropOldest_5 := dn2 hX0_dropOldest_3
theorem dX0_dropOldest_5 : decode cX0_dropOldest 5 = .ok (.if_icmp .ge 51, 3) := dk162 hX0_dropOldest_5 (by decide)
theorem hX0_dropOldest_8 : cX0_dropOldest.data.toList.drop 8 = sX0_dropOldest_8 := dn3 hX0_dropOldest_5
theorem dX0_dropOldest_8 : decode cX0_dropOldest 8 = .ok (.aload_n 0, 1) := dk42 hX0_dropOldest_8
theorem hX0_dropOldest_9 : cX0_dropOldest.data.toList.drop 9 = sX0_dropOldest_9 := dn1 hX0_dropOldest_8
theorem dX0_dropOldest_9 : decode cX0_dropOldest 9 = .ok (.getfield 9, 3) := dk180 hX0_dropOldest_9 rfl
theorem hX0_dropOldest_12 : cX0_dropOldest.data.toList.drop 12 = sX0_dropOldest_12 := dn3 hX0_dropOldest_9
theorem dX0_dropOldest_12 : decode cX0_dropOldest 12 = .ok (.iload_n 1, 1) := dk27 hX0_dropOldest_12
theorem hX0_dropOldest_13 : cX0_dropOldest.data.toList.drop 13 = sX0_dropOldest_13 := dn1 hX0_dropOldest_12
theorem dX0_dropOldest_13 : decode cX0_dropOldest 13 = .ok (.iconst 1, 1) := dk4 hX0_dropOldest_13
theorem hX0_dropOldest_14 : cX0_dropOldest.data.toList.drop 14 = sX0_dropOldest_14 := dn1 hX0_dropOldest_13
theorem dX0_dropOldest_14 : decode cX0_dropOldest 14 = .ok (.isub, 1) := dk100 hX0_dropOldest_14
theorem hX0_dropOldest_15 : cX0_dropOldest.data.toList.drop 15 = sX0_dropOldest_15 := dn1 hX0_dropOldest_14
theorem dX0_dropOldest_15 : decode cX0_dropOldest 15 = .ok (.aload_n 0, 1) := dk42 hX0_dropOldest_15
theorem hX0_dropOldest_16 : cX0_dropOldest.data.toList.drop 16 = sX0_dropOldest_16 := dn1 hX0_dropOldest_15
theorem dX0_dropOldest_16 : decode cX0_dropOldest 16 = .ok (.getfield 9, 3) := dk180 hX0_dropOldest_16 rfl
theorem hX0_dropOldest_19 : cX0_dropOldest.data.toList.drop 19 = sX0_dropOldest_19 := dn3 hX0_dropOldest_16
theorem dX0_dropOldest_19 : decode cX0_dropOldest 19 = .ok (.iload_n 1, 1) := dk27 hX0_dropOldest_19
theorem hX0_dropOldest_20 : cX0_dropOldest.data.toList.drop 20 = sX0_dropOldest_20 := dn1 hX0_dropOldest_19
theorem dX0_dropOldest_20 : decode cX0_dropOldest 20 = .ok (.iaload, 1) := dk46 hX0_dropOldest_20
theorem hX0_dropOldest_21 : cX0_dropOldest.data.toList.drop 21 = sX0_dropOldest_21 := dn1 hX0_dropOldest_20
theorem dX0_dropOldest_21 : decode cX0_dropOldest 21 = .ok (.iastore, 1) := dk79 hX0_dropOldest_21
theorem hX0_dropOldest_22 : cX0_dropOldest.data.toList.drop 22 = sX0_dropOldest_22 := dn1 hX0_dropOldest_21
theorem dX0_dropOldest_22 : decode cX0_dropOldest 22 = .ok (.aload_n 0, 1) := dk42 hX0_dropOldest_22
theorem hX0_dropOldest_23 : cX0_dropOldest.data.toList.drop 23 = sX0_dropOldest_23 := dn1 hX0_dropOldest_22
theorem dX0_dropOldest_23 : decode cX0_dropOldest 23 = .ok (.getfield 15, 3) := dk180 hX0_dropOldest_23 rfl
theorem hX0_dropOldest_26 : cX0_dropOldest.data.toList.drop 26 = sX0_dropOldest_26 := dn3 hX0_dropOldest_23
theorem dX0_dropOldest_26 : decode cX0_dropOldest 26 = .ok (.iload_n 1, 1) := dk27 hX0_dropOldest_26
theorem hX0_dropOldest_27 : cX0_dropOldest.data.toList.drop 27 = sX0_dropOldest_27 := dn1 hX0_dropOldest_26
theorem dX0_dropOldest_27 : decode cX0_dropOldest 27 = .ok (.iconst 1, 1) := dk4 hX0_dropOldest_27
theorem hX0_dropOldest_28 : cX0_dropOldest.data.toList.drop 28 = sX0_dropOldest_28 := dn1 hX0_dropOldest_27
theorem dX0_dropOldest_28 : decode cX0_dropOldest 28 = .ok (.isub, 1) := dk100 hX0_dropOldest_28
theorem hX0_dropOldest_29 : cX0_dropOldest.data.toList.drop 29 = sX0_dropOldest_29 := dn1 hX0_dropOldest_28
theorem dX0_dropOldest_29 : decode cX0_dropOldest 29 = .ok (.aload_n 0, 1) := dk42 hX0_dropOldest_29
theorem hX0_dropOldest_30 : cX0_dropOldest.data.toList.drop 30 = sX0_dropOldest_30 := dn1 hX0_dropOldest_29
theorem dX0_dropOldest_30 : decode cX0_dropOldest 30 = .ok (.getfield 15, 3) := dk180 hX0_dropOldest_30 rfl
theorem hX0_dropOldest_33 : cX0_dropOldest.data.toList.drop 33 = sX0_dropOldest_33 := dn3 hX0_dropOldest_30
theorem dX0_dropOldest_33 : decode cX0_dropOldest 33 = .ok (.iload_n 1, 1) := dk27 hX0_dropOldest_33
theorem hX0_dropOldest_34 : cX0_dropOldest.data.toList.drop 34 = sX0_dropOldest_34 := dn1 hX0_dropOldest_33
theorem dX0_dropOldest_34 : decode cX0_dropOldest 34 = .ok (.iaload, 1) := dk46 hX0_dropOldest_34
theorem hX0_dropOldest_35 : cX0_dropOldest.data.toList.drop 35 = sX0_dropOldest_35 := dn1 hX0_dropOldest_34
theorem dX0_dropOldest_35 : decode cX0_dropOldest 35 = .ok (.iastore, 1) := dk79 hX0_dropOldest_35
theorem hX0_dropOldest_36 : cX0_dropOldest.data.toList.drop 36 = sX0_dropOldest_36 := dn1 hX0_dropOldest_35
theorem dX0_dropOldest_36 : decode cX0_dropOldest 36 = .ok (.aload_n 0, 1) := dk42 hX0_dropOldest_36
theorem hX0_dropOldest_37 : cX0_dropOldest.data.toList.drop 37 = sX0_dropOldest_37 := dn1 hX0_dropOldest_36
theorem dX0_dropOldest_37 : decode cX0_dropOldest 37 = .ok (.getfield 18, 3) := dk180 hX0_dropOldest_37 rfl
theorem hX0_dropOldest_40 : cX0_dropOldest.data.toList.drop 40 = sX0_dropOldest_40 := dn3 hX0_dropOldest_37
theorem dX0_dropOldest_40 : decode cX0_dropOldest 40 = .ok (.iload_n 1, 1) := dk27 hX0_dropOldest_40
theorem hX0_dropOldest_41 : cX0_dropOldest.data.toList.drop 41 = sX0_dropOldest_41 := dn1 hX0_dropOldest_40
theorem dX0_dropOldest_41 : decode cX0_dropOldest 41 = .ok (.iconst 1, 1) := dk4 hX0_dropOldest_41
theorem hX0_dropOldest_42 : cX0_dropOldest.data.toList.drop 42 = sX0_dropOldest_42 := dn1 hX0_dropOldest_41
theorem dX0_dropOldest_42 : decode cX0_dropOldest 42 = .ok (.isub, 1) := dk100 hX0_dropOldest_42
theorem hX0_dropOldest_43 : cX0_dropOldest.data.toList.drop 43 = sX0_dropOldest_43 := dn1 hX0_dropOldest_42
theorem dX0_dropOldest_43 : decode cX0_dropOldest 43 = .ok (.aload_n 0, 1) := dk42 hX0_dropOldest_43
theorem hX0_dropOldest_44 : cX0_dropOldest.data.toList.drop 44 = sX0_dropOldest_44 := dn1 hX0_dropOldest_43
theorem dX0_dropOldest_44 : decode cX0_dropOldest 44 = .ok (.getfield 18, 3) := dk180 hX0_dropOldest_44 rfl
theorem hX0_dropOldest_47 : cX0_dropOldest.data.toList.drop 47 = sX0_dropOldest_47 := dn3 hX0_dropOldest_44
theorem dX0_dropOldest_47 : decode cX0_dropOldest 47 = .ok (.iload_n 1, 1) := dk27 hX0_dropOldest_47
theorem hX0_dropOldest_48 : cX0_dropOldest.data.toList.drop 48 = sX0_dropOldest_48 := dn1 hX0_dropOldest_47
theorem dX0_dropOldest_48 : decode cX0_dropOldest 48 = .ok (.baload, 1) := dk51 hX0_dropOldest_48
theorem hX0_dropOldest_49 : cX0_dropOldest.data.toList.drop 49 = sX0_dropOldest_49 := dn1 hX0_dropOldest_48
theorem dX0_dropOldest_49 : decode cX0_dropOldest 49 = .ok (.bastore, 1) := dk84 hX0_dropOldest_49
theorem hX0_dropOldest_50 : cX0_dropOldest.data.toList.drop 50 = sX0_dropOldest_50 := dn1 hX0_dropOldest_49
theorem dX0_dropOldest_50 : decode cX0_dropOldest 50 = .ok (.iinc 1 1, 3) := dk132 hX0_dropOldest_50 rfl (by decide)
theorem hX0_dropOldest_53 : cX0_dropOldest.data.toList.drop 53 = sX0_dropOldest_53 := dn3 hX0_dropOldest_50
theorem dX0_dropOldest_53 : decode cX0_dropOldest 53 = .ok (.goto (-51), 3) := dk167 hX0_dropOldest_53 (by decide)
theorem hX0_dropOldest_56 : cX0_dropOldest.data.toList.drop 56 = sX0_dropOldest_56 := dn3 hX0_dropOldest_53
theorem dX0_dropOldest_56 : decode cX0_dropOldest 56 = .ok (.aload_n 0, 1) := dk42 hX0_dropOldest_56
theorem hX0_dropOldest_57 : cX0_dropOldest.data.toList.drop 57 = sX0_dropOldest_57 := dn1 hX0_dropOldest_56
theorem dX0_dropOldest_57 : decode cX0_dropOldest 57 = .ok (.bipush 15, 2) := dk16 hX0_dropOldest_57 (by decide)
theorem hX0_dropOldest_59 : cX0_dropOldest.data.toList.drop 59 = sX0_dropOldest_59 := dn2 hX0_dropOldest_57
theorem dX0_dropOldest_59 : decode cX0_dropOldest 59 = .ok (.putfield 22, 3) := dk181 hX0_dropOldest_59 rfl
theorem hX0_dropOldest_62 : cX0_dropOldest.data.toList.drop 62 = sX0_dropOldest_62 := dn3 hX0_dropOldest_59
theorem dX0_dropOldest_62 : decode cX0_dropOldest 62 = .ok (.return_, 1) := dk177 hX0_dropOldest_62
noncomputable def sX0_forget_5 : List UInt8 := 177 :: []
noncomputable def sX0_forget_2 : List UInt8 := 181 :: 0 :: 22 :: sX0_forget_5
noncomputable def sX0_forget_1 : List UInt8 := 3 :: sX0_forget_2
noncomputable def sX0_forget_0 : List UInt8 := 42 :: sX0_forget_1
set_option maxRecDepth 100000 in
theorem hX0_forget_0 : cX0_forget.data.toList.drop 0 = sX0_forget_0 := by decide +kernel
theorem dX0_forget_0 : decode cX0_forget 0 = .ok (.aload_n 0, 1) := dk42 hX0_forget_0
theorem hX0_forget_1 : cX0_forget.data.toList.drop 1 = sX0_forget_1 := dn1 hX0_forget_0
theorem dX0_forget_1 : decode cX0_forget 1 = .ok (.iconst 0, 1) := dk3 hX0_forget_1
theorem hX0_forget_2 : cX0_forget.data.toList.drop 2 = sX0_forget_2 := dn1 hX0_forget_1
theorem dX0_forget_2 : decode cX0_forget 2 = .ok (.putfield 22, 3) := dk181 hX0_forget_2 rfl
theorem hX0_forget_5 : cX0_forget.data.toList.drop 5 = sX0_forget_5 := dn3 hX0_forget_2
theorem dX0_forget_5 : decode cX0_forget 5 = .ok (.return_, 1) := dk177 hX0_forget_5
noncomputable def sX0_init_28 : List UInt8 := 177 :: []
noncomputable def sX0_init_25 : List UInt8 := 181 :: 0 :: 18 :: sX0_init_28
noncomputable def sX0_init_23 : List UInt8 := 188 :: 4 :: sX0_init_25
noncomputable def sX0_init_21 : List UInt8 := 16 :: 16 :: sX0_init_23
noncomputable def sX0_init_20 : List UInt8 := 42 :: sX0_init_21
noncomputable def sX0_init_17 : List UInt8 := 181 :: 0 :: 15 :: sX0_init_20
noncomputable def sX0_init_15 : List UInt8 := 188 :: 10 :: sX0_init_17
noncomputable def sX0_init_13 : List UInt8 := 16 :: 16 :: sX0_init_15
noncomputable def sX0_init_12 : List UInt8 := 42 :: sX0_init_13
noncomputable def sX0_init_9 : List UInt8 := 181 :: 0 :: 9 :: sX0_init_12
noncomputable def sX0_init_7 : List UInt8 := 188 :: 10 :: sX0_init_9
noncomputable def sX0_init_5 : List UInt8 := 16 :: 16 :: sX0_init_7
noncomputable def sX0_init_4 : List UInt8 := 42 :: sX0_init_5
noncomputable def sX0_init_1 : List UInt8 := 183 :: 0 :: 3 :: sX0_init_4
noncomputable def sX0_init_0 : List UInt8 := 42 :: sX0_init_1
set_option maxRecDepth 100000 in
theorem hX0_init_0 : cX0_init.data.toList.drop 0 = sX0_init_0 := by decide +kernel
theorem dX0_init_0 : decode cX0_init 0 = .ok (.aload_n 0, 1) := dk42 hX0_init_0
theorem hX0_init_1 : cX0_init.data.toList.drop 1 = sX0_init_1 := dn1 hX0_init_0
theorem dX0_init_1 : decode cX0_init 1 = .ok (.invokespecial 3, 3) := dk183 hX0_init_1 rfl
theorem hX0_init_4 : cX0_init.data.toList.drop 4 = sX0_init_4 := dn3 hX0_init_1
theorem dX0_init_4 : decode cX0_init 4 = .ok (.aload_n 0, 1) := dk42 hX0_init_4
theorem hX0_init_5 : cX0_init.data.toList.drop 5 = sX0_init_5 := dn1 hX0_init_4
theorem dX0_init_5 : decode cX0_init 5 = .ok (.bipush 16, 2) := dk16 hX0_init_5 (by decide)
theorem hX0_init_7 : cX0_init.data.toList.drop 7 = sX0_init_7 := dn2 hX0_init_5
set_option maxRecDepth 100000 in
theorem dX0_init_7 : decode cX0_init 7 = .ok (.newarray .int, 2) := by decide +kernel
theorem hX0_init_9 : cX0_init.data.toList.drop 9 = sX0_init_9 := dn2 hX0_init_7
theorem dX0_init_9 : decode cX0_init 9 = .ok (.putfield 9, 3) := dk181 hX0_init_9 rfl
theorem hX0_init_12 : cX0_init.data.toList.drop 12 = sX0_init_12 := dn3 hX0_init_9
theorem dX0_init_12 : decode cX0_init 12 = .ok (.aload_n 0, 1) := dk42 hX0_init_12
theorem hX0_init_13 : cX0_init.data.toList.drop 13 = sX0_init_13 := dn1 hX0_init_12
theorem dX0_init_13 : decode cX0_init 13 = .ok (.bipush 16, 2) := dk16 hX0_init_13 (by decide)
theorem hX0_init_15 : cX0_init.data.toList.drop 15 = sX0_init_15 := dn2 hX0_init_13
set_option maxRecDepth 100000 in
theorem dX0_init_15 : decode cX0_init 15 = .ok (.newarray .int, 2) := by decide +kernel
theorem hX0_init_17 : cX0_init.data.toList.drop 17 = sX0_init_17 := dn2 hX0_init_15
theorem dX0_init_17 : decode cX0_init 17 = .ok (.putfield 15, 3) := dk181 hX0_init_17 rfl
theorem hX0_init_20 : cX0_init.data.toList.drop 20 = sX0_init_20 := dn3 hX0_init_17
theorem dX0_init_20 : decode cX0_init 20 = .ok (.aload_n 0, 1) := dk42 hX0_init_20
theorem hX0_init_21 : cX0_init.data.toList.drop 21 = sX0_init_21 := dn1 hX0_init_20
theorem dX0_init_21 : decode cX0_init 21 = .ok (.bipush 16, 2) := dk16 hX0_init_21 (by decide)
theorem hX0_init_23 : cX0_init.data.toList.drop 23 = sX0_init_23 := dn2 hX0_init_21
set_option maxRecDepth 100000 in
theorem dX0_init_23 : decode cX0_init 23 = .ok (.newarray .boolean, 2) := by decide +kernel
theorem hX0_init_25 : cX0_init.data.toList.drop 25 = sX0_init_25 := dn2 hX0_init_23
theorem dX0_init_25 : decode cX0_init 25 = .ok (.putfield 18, 3) := dk181 hX0_init_25 rfl
theorem hX0_init_28 : cX0_init.data.toList.drop 28 = sX0_init_28 := dn3 hX0_init_25
theorem dX0_init_28 : decode cX0_init 28 = .ok (.return_, 1) := dk177 hX0_init_28
noncomputable def sX0_keep_53 : List UInt8 := 177 :: []
noncomputable def sX0_keep_50 : List UInt8 := 181 :: 0 :: 22 :: sX0_keep_53
noncomputable def sX0_keep_49 : List UInt8 := 96 :: sX0_keep_50
noncomputable def sX0_keep_48 : List UInt8 := 4 :: sX0_keep_49
noncomputable def sX0_keep_45 : List UInt8 := 180 :: 0 :: 22 :: sX0_keep_48
noncomputable def sX0_keep_44 : List UInt8 := 89 :: sX0_keep_45
noncomputable def sX0_keep_43 : List UInt8 := 42 :: sX0_keep_44
noncomputable def sX0_keep_42 : List UInt8 := 84 :: sX0_keep_43
noncomputable def sX0_keep_41 : List UInt8 := 29 :: sX0_keep_42
noncomputable def sX0_keep_38 : List UInt8 := 180 :: 0 :: 22 :: sX0_keep_41
noncomputable def sX0_keep_37 : List UInt8 := 42 :: sX0_keep_38
noncomputable def sX0_keep_34 : List UInt8 := 180 :: 0 :: 18 :: sX0_keep_37
noncomputable def sX0_keep_33 : List UInt8 := 42 :: sX0_keep_34
noncomputable def sX0_keep_32 : List UInt8 := 79 :: sX0_keep_33
noncomputable def sX0_keep_31 : List UInt8 := 28 :: sX0_keep_32
noncomputable def sX0_keep_28 : List UInt8 := 180 :: 0 :: 22 :: sX0_keep_31
noncomputable def sX0_keep_27 : List UInt8 := 42 :: sX0_keep_28
noncomputable def sX0_keep_24 : List UInt8 := 180 :: 0 :: 15 :: sX0_keep_27
noncomputable def sX0_keep_23 : List UInt8 := 42 :: sX0_keep_24
noncomputable def sX0_keep_22 : List UInt8 := 79 :: sX0_keep_23
noncomputable def sX0_keep_21 : List UInt8 := 27 :: sX0_keep_22
noncomputable def sX0_keep_18 : List UInt8 := 180 :: 0 :: 22 :: sX0_keep_21
noncomputable def sX0_keep_17 : List UInt8 := 42 :: sX0_keep_18
noncomputable def sX0_keep_14 : List UInt8 := 180 :: 0 :: 9 :: sX0_keep_17
noncomputable def sX0_keep_13 : List UInt8 := 42 :: sX0_keep_14
noncomputable def sX0_keep_10 : List UInt8 := 182 :: 0 :: 26 :: sX0_keep_13
noncomputable def sX0_keep_9 : List UInt8 := 42 :: sX0_keep_10
noncomputable def sX0_keep_6 : List UInt8 := 160 :: 0 :: 7 :: sX0_keep_9
noncomputable def sX0_keep_4 : List UInt8 := 16 :: 16 :: sX0_keep_6
noncomputable def sX0_keep_1 : List UInt8 := 180 :: 0 :: 22 :: sX0_keep_4
noncomputable def sX0_keep_0 : List UInt8 := 42 :: sX0_keep_1
set_option maxRecDepth 100000 in
theorem hX0_keep_0 : cX0_keep.data.toList.drop 0 = sX0_keep_0 := by decide +kernel
theorem dX0_keep_0 : decode cX0_keep 0 = .ok (.aload_n 0, 1) := dk42 hX0_keep_0
theorem hX0_keep_1 : cX0_keep.data.toList.drop 1 = sX0_keep_1 := dn1 hX0_keep_0
theorem dX0_keep_1 : decode cX0_keep 1 = .ok (.getfield 22, 3) := dk180 hX0_keep_1 rfl
theorem hX0_keep_4 : cX0_keep.data.toList.drop 4 = sX0_keep_4 := dn3 hX0_keep_1
theorem dX0_keep_4 : decode cX0_keep 4 = .ok (.bipush 16, 2) := dk16 hX0_keep_4 (by decide)
theorem hX0_keep_6 : cX0_keep.data.toList.drop 6 = sX0_keep_6 := dn2 hX0_keep_4
theorem dX0_keep_6 : decode cX0_keep 6 = .ok (.if_icmp .ne 7, 3) := dk160 hX0_keep_6 (by decide)
theorem hX0_keep_9 : cX0_keep.data.toList.drop 9 = sX0_keep_9 := dn3 hX0_keep_6
theorem dX0_keep_9 : decode cX0_keep 9 = .ok (.aload_n 0, 1) := dk42 hX0_keep_9
theorem hX0_keep_10 : cX0_keep.data.toList.drop 10 = sX0_keep_10 := dn1 hX0_keep_9
theorem dX0_keep_10 : decode cX0_keep 10 = .ok (.invokevirtual 26, 3) := dk182 hX0_keep_10 rfl
theorem hX0_keep_13 : cX0_keep.data.toList.drop 13 = sX0_keep_13 := dn3 hX0_keep_10
theorem dX0_keep_13 : decode cX0_keep 13 = .ok (.aload_n 0, 1) := dk42 hX0_keep_13
theorem hX0_keep_14 : cX0_keep.data.toList.drop 14 = sX0_keep_14 := dn1 hX0_keep_13
theorem dX0_keep_14 : decode cX0_keep 14 = .ok (.getfield 9, 3) := dk180 hX0_keep_14 rfl
theorem hX0_keep_17 : cX0_keep.data.toList.drop 17 = sX0_keep_17 := dn3 hX0_keep_14
theorem dX0_keep_17 : decode cX0_keep 17 = .ok (.aload_n 0, 1) := dk42 hX0_keep_17
theorem hX0_keep_18 : cX0_keep.data.toList.drop 18 = sX0_keep_18 := dn1 hX0_keep_17
theorem dX0_keep_18 : decode cX0_keep 18 = .ok (.getfield 22, 3) := dk180 hX0_keep_18 rfl
theorem hX0_keep_21 : cX0_keep.data.toList.drop 21 = sX0_keep_21 := dn3 hX0_keep_18
theorem dX0_keep_21 : decode cX0_keep 21 = .ok (.iload_n 1, 1) := dk27 hX0_keep_21
theorem hX0_keep_22 : cX0_keep.data.toList.drop 22 = sX0_keep_22 := dn1 hX0_keep_21
theorem dX0_keep_22 : decode cX0_keep 22 = .ok (.iastore, 1) := dk79 hX0_keep_22
theorem hX0_keep_23 : cX0_keep.data.toList.drop 23 = sX0_keep_23 := dn1 hX0_keep_22
theorem dX0_keep_23 : decode cX0_keep 23 = .ok (.aload_n 0, 1) := dk42 hX0_keep_23
theorem hX0_keep_24 : cX0_keep.data.toList.drop 24 = sX0_keep_24 := dn1 hX0_keep_23
theorem dX0_keep_24 : decode cX0_keep 24 = .ok (.getfield 15, 3) := dk180 hX0_keep_24 rfl
theorem hX0_keep_27 : cX0_keep.data.toList.drop 27 = sX0_keep_27 := dn3 hX0_keep_24
theorem dX0_keep_27 : decode cX0_keep 27 = .ok (.aload_n 0, 1) := dk42 hX0_keep_27
theorem hX0_keep_28 : cX0_keep.data.toList.drop 28 = sX0_keep_28 := dn1 hX0_keep_27
theorem dX0_keep_28 : decode cX0_keep 28 = .ok (.getfield 22, 3) := dk180 hX0_keep_28 rfl
theorem hX0_keep_31 : cX0_keep.data.toList.drop 31 = sX0_keep_31 := dn3 hX0_keep_28
theorem dX0_keep_31 : decode cX0_keep 31 = .ok (.iload_n 2, 1) := dk28 hX0_keep_31
theorem hX0_keep_32 : cX0_keep.data.toList.drop 32 = sX0_keep_32 := dn1 hX0_keep_31
theorem dX0_keep_32 : decode cX0_keep 32 = .ok (.iastore, 1) := dk79 hX0_keep_32
theorem hX0_keep_33 : cX0_keep.data.toList.drop 33 = sX0_keep_33 := dn1 hX0_keep_32
theorem dX0_keep_33 : decode cX0_keep 33 = .ok (.aload_n 0, 1) := dk42 hX0_keep_33
theorem hX0_keep_34 : cX0_keep.data.toList.drop 34 = sX0_keep_34 := dn1 hX0_keep_33
theorem dX0_keep_34 : decode cX0_keep 34 = .ok (.getfield 18, 3) := dk180 hX0_keep_34 rfl
theorem hX0_keep_37 : cX0_keep.data.toList.drop 37 = sX0_keep_37 := dn3 hX0_keep_34
theorem dX0_keep_37 : decode cX0_keep 37 = .ok (.aload_n 0, 1) := dk42 hX0_keep_37
theorem hX0_keep_38 : cX0_keep.data.toList.drop 38 = sX0_keep_38 := dn1 hX0_keep_37
theorem dX0_keep_38 : decode cX0_keep 38 = .ok (.getfield 22, 3) := dk180 hX0_keep_38 rfl
theorem hX0_keep_41 : cX0_keep.data.toList.drop 41 = sX0_keep_41 := dn3 hX0_keep_38
theorem dX0_keep_41 : decode cX0_keep 41 = .ok (.iload_n 3, 1) := dk29 hX0_keep_41
theorem hX0_keep_42 : cX0_keep.data.toList.drop 42 = sX0_keep_42 := dn1 hX0_keep_41
theorem dX0_keep_42 : decode cX0_keep 42 = .ok (.bastore, 1) := dk84 hX0_keep_42
theorem hX0_keep_43 : cX0_keep.data.toList.drop 43 = sX0_keep_43 := dn1 hX0_keep_42
theorem dX0_keep_43 : decode cX0_keep 43 = .ok (.aload_n 0, 1) := dk42 hX0_keep_43
theorem hX0_keep_44 : cX0_keep.data.toList.drop 44 = sX0_keep_44 := dn1 hX0_keep_43
theorem dX0_keep_44 : decode cX0_keep 44 = .ok (.dup, 1) := dk89 hX0_keep_44
theorem hX0_keep_45 : cX0_keep.data.toList.drop 45 = sX0_keep_45 := dn1 hX0_keep_44
theorem dX0_keep_45 : decode cX0_keep 45 = .ok (.getfield 22, 3) := dk180 hX0_keep_45 rfl
theorem hX0_keep_48 : cX0_keep.data.toList.drop 48 = sX0_keep_48 := dn3 hX0_keep_45
theorem dX0_keep_48 : decode cX0_keep 48 = .ok (.iconst 1, 1) := dk4 hX0_keep_48
theorem hX0_keep_49 : cX0_keep.data.toList.drop 49 = sX0_keep_49 := dn1 hX0_keep_48
theorem dX0_keep_49 : decode cX0_keep 49 = .ok (.iadd, 1) := dk96 hX0_keep_49
theorem hX0_keep_50 : cX0_keep.data.toList.drop 50 = sX0_keep_50 := dn1 hX0_keep_49
theorem dX0_keep_50 : decode cX0_keep 50 = .ok (.putfield 22, 3) := dk181 hX0_keep_50 rfl
theorem hX0_keep_53 : cX0_keep.data.toList.drop 53 = sX0_keep_53 := dn3 hX0_keep_50
theorem dX0_keep_53 : decode cX0_keep 53 = .ok (.return_, 1) := dk177 hX0_keep_53
noncomputable def sX0_takeBack_80 : List UInt8 := 172 :: []
noncomputable def sX0_takeBack_79 : List UInt8 := 4 :: sX0_takeBack_80
noncomputable def sX0_takeBack_76 : List UInt8 := 182 :: 0 :: 34 :: sX0_takeBack_79
noncomputable def sX0_takeBack_75 : List UInt8 := 46 :: sX0_takeBack_76
noncomputable def sX0_takeBack_72 : List UInt8 := 180 :: 0 :: 22 :: sX0_takeBack_75
noncomputable def sX0_takeBack_71 : List UInt8 := 42 :: sX0_takeBack_72
noncomputable def sX0_takeBack_68 : List UInt8 := 180 :: 0 :: 15 :: sX0_takeBack_71
noncomputable def sX0_takeBack_67 : List UInt8 := 42 :: sX0_takeBack_68
noncomputable def sX0_takeBack_66 : List UInt8 := 46 :: sX0_takeBack_67
noncomputable def sX0_takeBack_63 : List UInt8 := 180 :: 0 :: 22 :: sX0_takeBack_66
noncomputable def sX0_takeBack_62 : List UInt8 := 42 :: sX0_takeBack_63
noncomputable def sX0_takeBack_59 : List UInt8 := 180 :: 0 :: 9 :: sX0_takeBack_62
noncomputable def sX0_takeBack_58 : List UInt8 := 42 :: sX0_takeBack_59
noncomputable def sX0_takeBack_57 : List UInt8 := 43 :: sX0_takeBack_58
noncomputable def sX0_takeBack_54 : List UInt8 := 167 :: 0 :: 25 :: sX0_takeBack_57
noncomputable def sX0_takeBack_53 : List UInt8 := 79 :: sX0_takeBack_54
noncomputable def sX0_takeBack_52 : List UInt8 := 46 :: sX0_takeBack_53
noncomputable def sX0_takeBack_49 : List UInt8 := 180 :: 0 :: 22 :: sX0_takeBack_52
noncomputable def sX0_takeBack_48 : List UInt8 := 42 :: sX0_takeBack_49
noncomputable def sX0_takeBack_45 : List UInt8 := 180 :: 0 :: 15 :: sX0_takeBack_48
noncomputable def sX0_takeBack_44 : List UInt8 := 42 :: sX0_takeBack_45
noncomputable def sX0_takeBack_43 : List UInt8 := 46 :: sX0_takeBack_44
noncomputable def sX0_takeBack_40 : List UInt8 := 180 :: 0 :: 22 :: sX0_takeBack_43
noncomputable def sX0_takeBack_39 : List UInt8 := 42 :: sX0_takeBack_40
noncomputable def sX0_takeBack_36 : List UInt8 := 180 :: 0 :: 9 :: sX0_takeBack_39
noncomputable def sX0_takeBack_35 : List UInt8 := 42 :: sX0_takeBack_36
noncomputable def sX0_takeBack_32 : List UInt8 := 180 :: 0 :: 29 :: sX0_takeBack_35
noncomputable def sX0_takeBack_31 : List UInt8 := 43 :: sX0_takeBack_32
noncomputable def sX0_takeBack_28 : List UInt8 := 153 :: 0 :: 29 :: sX0_takeBack_31
noncomputable def sX0_takeBack_27 : List UInt8 := 51 :: sX0_takeBack_28
noncomputable def sX0_takeBack_24 : List UInt8 := 180 :: 0 :: 22 :: sX0_takeBack_27
noncomputable def sX0_takeBack_23 : List UInt8 := 42 :: sX0_takeBack_24
noncomputable def sX0_takeBack_20 : List UInt8 := 180 :: 0 :: 18 :: sX0_takeBack_23
noncomputable def sX0_takeBack_19 : List UInt8 := 42 :: sX0_takeBack_20
noncomputable def sX0_takeBack_16 : List UInt8 := 181 :: 0 :: 22 :: sX0_takeBack_19
noncomputable def sX0_takeBack_15 : List UInt8 := 100 :: sX0_takeBack_16
noncomputable def sX0_takeBack_14 : List UInt8 := 4 :: sX0_takeBack_15
noncomputable def sX0_takeBack_11 : List UInt8 := 180 :: 0 :: 22 :: sX0_takeBack_14
noncomputable def sX0_takeBack_10 : List UInt8 := 89 :: sX0_takeBack_11
noncomputable def sX0_takeBack_9 : List UInt8 := 42 :: sX0_takeBack_10
noncomputable def sX0_takeBack_8 : List UInt8 := 172 :: sX0_takeBack_9
noncomputable def sX0_takeBack_7 : List UInt8 := 3 :: sX0_takeBack_8
noncomputable def sX0_takeBack_4 : List UInt8 := 154 :: 0 :: 5 :: sX0_takeBack_7
noncomputable def sX0_takeBack_1 : List UInt8 := 180 :: 0 :: 22 :: sX0_takeBack_4
noncomputable def sX0_takeBack_0 : List UInt8 := 42 :: sX0_takeBack_1
set_option maxRecDepth 100000 in
theorem hX0_takeBack_0 : cX0_takeBack.data.toList.drop 0 = sX0_takeBack_0 := by decide +kernel
theorem dX0_takeBack_0 : decode cX0_takeBack 0 = .ok (.aload_n 0, 1) := dk42 hX0_takeBack_0
theorem hX0_takeBack_1 : cX0_takeBack.data.toList.drop 1 = sX0_takeBack_1 := dn1 hX0_takeBack_0
theorem dX0_takeBack_1 : decode cX0_takeBack 1 = .ok (.getfield 22, 3) := dk180 hX0_takeBack_1 rfl
theorem hX0_takeBack_4 : cX0_takeBack.data.toList.drop 4 = sX0_takeBack_4 := dn3 hX0_takeBack_1
theorem dX0_takeBack_4 : decode cX0_takeBack 4 = .ok (.ifCond .ne 5, 3) := dk154 hX0_takeBack_4 (by decide)
theorem hX0_takeBack_7 : cX0_takeBack.data.toList.drop 7 = sX0_takeBack_7 := dn3 hX0_takeBack_4
theorem dX0_takeBack_7 : decode cX0_takeBack 7 = .ok (.iconst 0, 1) := dk3 hX0_takeBack_7
theorem hX0_takeBack_8 : cX0_takeBack.data.toList.drop 8 = sX0_takeBack_8 := dn1 hX0_takeBack_7
theorem dX0_takeBack_8 : decode cX0_takeBack 8 = .ok (.ireturn, 1) := dk172 hX0_takeBack_8
theorem hX0_takeBack_9 : cX0_takeBack.data.toList.drop 9 = sX0_takeBack_9 := dn1 hX0_takeBack_8
theorem dX0_takeBack_9 : decode cX0_takeBack 9 = .ok (.aload_n 0, 1) := dk42 hX0_takeBack_9
theorem hX0_takeBack_10 : cX0_takeBack.data.toList.drop 10 = sX0_takeBack_10 := dn1 hX0_takeBack_9
theorem dX0_takeBack_10 : decode cX0_takeBack 10 = .ok (.dup, 1) := dk89 hX0_takeBack_10
theorem hX0_takeBack_11 : cX0_takeBack.data.toList.drop 11 = sX0_takeBack_11 := dn1 hX0_takeBack_10
theorem dX0_takeBack_11 : decode cX0_takeBack 11 = .ok (.getfield 22, 3) := dk180 hX0_takeBack_11 rfl
theorem hX0_takeBack_14 : cX0_takeBack.data.toList.drop 14 = sX0_takeBack_14 := dn3 hX0_takeBack_11
theorem dX0_takeBack_14 : decode cX0_takeBack 14 = .ok (.iconst 1, 1) := dk4 hX0_takeBack_14
theorem hX0_takeBack_15 : cX0_takeBack.data.toList.drop 15 = sX0_takeBack_15 := dn1 hX0_takeBack_14
theorem dX0_takeBack_15 : decode cX0_takeBack 15 = .ok (.isub, 1) := dk100 hX0_takeBack_15
theorem hX0_takeBack_16 : cX0_takeBack.data.toList.drop 16 = sX0_takeBack_16 := dn1 hX0_takeBack_15
theorem dX0_takeBack_16 : decode cX0_takeBack 16 = .ok (.putfield 22, 3) := dk181 hX0_takeBack_16 rfl
theorem hX0_takeBack_19 : cX0_takeBack.data.toList.drop 19 = sX0_takeBack_19 := dn3 hX0_takeBack_16
theorem dX0_takeBack_19 : decode cX0_takeBack 19 = .ok (.aload_n 0, 1) := dk42 hX0_takeBack_19
theorem hX0_takeBack_20 : cX0_takeBack.data.toList.drop 20 = sX0_takeBack_20 := dn1 hX0_takeBack_19
theorem dX0_takeBack_20 : decode cX0_takeBack 20 = .ok (.getfield 18, 3) := dk180 hX0_takeBack_20 rfl
theorem hX0_takeBack_23 : cX0_takeBack.data.toList.drop 23 = sX0_takeBack_23 := dn3 hX0_takeBack_20
theorem dX0_takeBack_23 : decode cX0_takeBack 23 = .ok (.aload_n 0, 1) := dk42 hX0_takeBack_23
theorem hX0_takeBack_24 : cX0_takeBack.data.toList.drop 24 = sX0_takeBack_24 := dn1 hX0_takeBack_23
theorem dX0_takeBack_24 : decode cX0_takeBack 24 = .ok (.getfield 22, 3) := dk180 hX0_takeBack_24 rfl
theorem hX0_takeBack_27 : cX0_takeBack.data.toList.drop 27 = sX0_takeBack_27 := dn3 hX0_takeBack_24
theorem dX0_takeBack_27 : decode cX0_takeBack 27 = .ok (.baload, 1) := dk51 hX0_takeBack_27
theorem hX0_takeBack_28 : cX0_takeBack.data.toList.drop 28 = sX0_takeBack_28 := dn1 hX0_takeBack_27
theorem dX0_takeBack_28 : decode cX0_takeBack 28 = .ok (.ifCond .eq 29, 3) := dk153 hX0_takeBack_28 (by decide)
theorem hX0_takeBack_31 : cX0_takeBack.data.toList.drop 31 = sX0_takeBack_31 := dn3 hX0_takeBack_28
theorem dX0_takeBack_31 : decode cX0_takeBack 31 = .ok (.aload_n 1, 1) := dk43 hX0_takeBack_31
theorem hX0_takeBack_32 : cX0_takeBack.data.toList.drop 32 = sX0_takeBack_32 := dn1 hX0_takeBack_31
theorem dX0_takeBack_32 : decode cX0_takeBack 32 = .ok (.getfield 29, 3) := dk180 hX0_takeBack_32 rfl
theorem hX0_takeBack_35 : cX0_takeBack.data.toList.drop 35 = sX0_takeBack_35 := dn3 hX0_takeBack_32
theorem dX0_takeBack_35 : decode cX0_takeBack 35 = .ok (.aload_n 0, 1) := dk42 hX0_takeBack_35
theorem hX0_takeBack_36 : cX0_takeBack.data.toList.drop 36 = sX0_takeBack_36 := dn1 hX0_takeBack_35
theorem dX0_takeBack_36 : decode cX0_takeBack 36 = .ok (.getfield 9, 3) := dk180 hX0_takeBack_36 rfl
theorem hX0_takeBack_39 : cX0_takeBack.data.toList.drop 39 = sX0_takeBack_39 := dn3 hX0_takeBack_36
theorem dX0_takeBack_39 : decode cX0_takeBack 39 = .ok (.aload_n 0, 1) := dk42 hX0_takeBack_39
theorem hX0_takeBack_40 : cX0_takeBack.data.toList.drop 40 = sX0_takeBack_40 := dn1 hX0_takeBack_39
theorem dX0_takeBack_40 : decode cX0_takeBack 40 = .ok (.getfield 22, 3) := dk180 hX0_takeBack_40 rfl
theorem hX0_takeBack_43 : cX0_takeBack.data.toList.drop 43 = sX0_takeBack_43 := dn3 hX0_takeBack_40
theorem dX0_takeBack_43 : decode cX0_takeBack 43 = .ok (.iaload, 1) := dk46 hX0_takeBack_43
theorem hX0_takeBack_44 : cX0_takeBack.data.toList.drop 44 = sX0_takeBack_44 := dn1 hX0_takeBack_43
theorem dX0_takeBack_44 : decode cX0_takeBack 44 = .ok (.aload_n 0, 1) := dk42 hX0_takeBack_44
theorem hX0_takeBack_45 : cX0_takeBack.data.toList.drop 45 = sX0_takeBack_45 := dn1 hX0_takeBack_44
theorem dX0_takeBack_45 : decode cX0_takeBack 45 = .ok (.getfield 15, 3) := dk180 hX0_takeBack_45 rfl
theorem hX0_takeBack_48 : cX0_takeBack.data.toList.drop 48 = sX0_takeBack_48 := dn3 hX0_takeBack_45
theorem dX0_takeBack_48 : decode cX0_takeBack 48 = .ok (.aload_n 0, 1) := dk42 hX0_takeBack_48
theorem hX0_takeBack_49 : cX0_takeBack.data.toList.drop 49 = sX0_takeBack_49 := dn1 hX0_takeBack_48
theorem dX0_takeBack_49 : decode cX0_takeBack 49 = .ok (.getfield 22, 3) := dk180 hX0_takeBack_49 rfl
theorem hX0_takeBack_52 : cX0_takeBack.data.toList.drop 52 = sX0_takeBack_52 := dn3 hX0_takeBack_49
theorem dX0_takeBack_52 : decode cX0_takeBack 52 = .ok (.iaload, 1) := dk46 hX0_takeBack_52
theorem hX0_takeBack_53 : cX0_takeBack.data.toList.drop 53 = sX0_takeBack_53 := dn1 hX0_takeBack_52
theorem dX0_takeBack_53 : decode cX0_takeBack 53 = .ok (.iastore, 1) := dk79 hX0_takeBack_53
theorem hX0_takeBack_54 : cX0_takeBack.data.toList.drop 54 = sX0_takeBack_54 := dn1 hX0_takeBack_53
theorem dX0_takeBack_54 : decode cX0_takeBack 54 = .ok (.goto 25, 3) := dk167 hX0_takeBack_54 (by decide)
theorem hX0_takeBack_57 : cX0_takeBack.data.toList.drop 57 = sX0_takeBack_57 := dn3 hX0_takeBack_54
theorem dX0_takeBack_57 : decode cX0_takeBack 57 = .ok (.aload_n 1, 1) := dk43 hX0_takeBack_57
theorem hX0_takeBack_58 : cX0_takeBack.data.toList.drop 58 = sX0_takeBack_58 := dn1 hX0_takeBack_57
theorem dX0_takeBack_58 : decode cX0_takeBack 58 = .ok (.aload_n 0, 1) := dk42 hX0_takeBack_58
theorem hX0_takeBack_59 : cX0_takeBack.data.toList.drop 59 = sX0_takeBack_59 := dn1 hX0_takeBack_58
theorem dX0_takeBack_59 : decode cX0_takeBack 59 = .ok (.getfield 9, 3) := dk180 hX0_takeBack_59 rfl
theorem hX0_takeBack_62 : cX0_takeBack.data.toList.drop 62 = sX0_takeBack_62 := dn3 hX0_takeBack_59
theorem dX0_takeBack_62 : decode cX0_takeBack 62 = .ok (.aload_n 0, 1) := dk42 hX0_takeBack_62
theorem hX0_takeBack_63 : cX0_takeBack.data.toList.drop 63 = sX0_takeBack_63 := dn1 hX0_takeBack_62
theorem dX0_takeBack_63 : decode cX0_takeBack 63 = .ok (.getfield 22, 3) := dk180 hX0_takeBack_63 rfl
theorem hX0_takeBack_66 : cX0_takeBack.data.toList.drop 66 = sX0_takeBack_66 := dn3 hX0_takeBack_63
theorem dX0_takeBack_66 : decode cX0_takeBack 66 = .ok (.iaload, 1) := dk46 hX0_takeBack_66
theorem hX0_takeBack_67 : cX0_takeBack.data.toList.drop 67 = sX0_takeBack_67 := dn1 hX0_takeBack_66
theorem dX0_takeBack_67 : decode cX0_takeBack 67 = .ok (.aload_n 0, 1) := dk42 hX0_takeBack_67
theorem hX0_takeBack_68 : cX0_takeBack.data.toList.drop 68 = sX0_takeBack_68 := dn1 hX0_takeBack_67
theorem dX0_takeBack_68 : decode cX0_takeBack 68 = .ok (.getfield 15, 3) := dk180 hX0_takeBack_68 rfl
theorem hX0_takeBack_71 : cX0_takeBack.data.toList.drop 71 = sX0_takeBack_71 := dn3 hX0_takeBack_68
theorem dX0_takeBack_71 : decode cX0_takeBack 71 = .ok (.aload_n 0, 1) := dk42 hX0_takeBack_71
theorem hX0_takeBack_72 : cX0_takeBack.data.toList.drop 72 = sX0_takeBack_72 := dn1 hX0_takeBack_71
theorem dX0_takeBack_72 : decode cX0_takeBack 72 = .ok (.getfield 22, 3) := dk180 hX0_takeBack_72 rfl
theorem hX0_takeBack_75 : cX0_takeBack.data.toList.drop 75 = sX0_takeBack_75 := dn3 hX0_takeBack_72
theorem dX0_takeBack_75 : decode cX0_takeBack 75 = .ok (.iaload, 1) := dk46 hX0_takeBack_75
theorem hX0_takeBack_76 : cX0_takeBack.data.toList.drop 76 = sX0_takeBack_76 := dn1 hX0_takeBack_75
theorem dX0_takeBack_76 : decode cX0_takeBack 76 = .ok (.invokevirtual 34, 3) := dk182 hX0_takeBack_76 rfl
theorem hX0_takeBack_79 : cX0_takeBack.data.toList.drop 79 = sX0_takeBack_79 := dn3 hX0_takeBack_76
theorem dX0_takeBack_79 : decode cX0_takeBack 79 = .ok (.iconst 1, 1) := dk4 hX0_takeBack_79
theorem hX0_takeBack_80 : cX0_takeBack.data.toList.drop 80 = sX0_takeBack_80 := dn1 hX0_takeBack_79
theorem dX0_takeBack_80 : decode cX0_takeBack 80 = .ok (.ireturn, 1) := dk172 hX0_takeBack_80
