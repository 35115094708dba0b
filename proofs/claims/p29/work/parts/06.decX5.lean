noncomputable def sX5_bringFirst_56 : List UInt8 := 177 :: []
noncomputable def sX5_bringFirst_55 : List UInt8 := 79 :: sX5_bringFirst_56
noncomputable def sX5_bringFirst_53 : List UInt8 := 21 :: 4 :: sX5_bringFirst_55
noncomputable def sX5_bringFirst_52 : List UInt8 := 29 :: sX5_bringFirst_53
noncomputable def sX5_bringFirst_49 : List UInt8 := 180 :: 0 :: 15 :: sX5_bringFirst_52
noncomputable def sX5_bringFirst_48 : List UInt8 := 42 :: sX5_bringFirst_49
noncomputable def sX5_bringFirst_45 : List UInt8 := 167 :: 255 :: 228 :: sX5_bringFirst_48
noncomputable def sX5_bringFirst_42 : List UInt8 := 132 :: 5 :: 255 :: sX5_bringFirst_45
noncomputable def sX5_bringFirst_41 : List UInt8 := 79 :: sX5_bringFirst_42
noncomputable def sX5_bringFirst_40 : List UInt8 := 46 :: sX5_bringFirst_41
noncomputable def sX5_bringFirst_39 : List UInt8 := 100 :: sX5_bringFirst_40
noncomputable def sX5_bringFirst_38 : List UInt8 := 4 :: sX5_bringFirst_39
noncomputable def sX5_bringFirst_37 : List UInt8 := 96 :: sX5_bringFirst_38
noncomputable def sX5_bringFirst_35 : List UInt8 := 21 :: 5 :: sX5_bringFirst_37
noncomputable def sX5_bringFirst_34 : List UInt8 := 29 :: sX5_bringFirst_35
noncomputable def sX5_bringFirst_31 : List UInt8 := 180 :: 0 :: 15 :: sX5_bringFirst_34
noncomputable def sX5_bringFirst_30 : List UInt8 := 42 :: sX5_bringFirst_31
noncomputable def sX5_bringFirst_29 : List UInt8 := 96 :: sX5_bringFirst_30
noncomputable def sX5_bringFirst_27 : List UInt8 := 21 :: 5 :: sX5_bringFirst_29
noncomputable def sX5_bringFirst_26 : List UInt8 := 29 :: sX5_bringFirst_27
noncomputable def sX5_bringFirst_23 : List UInt8 := 180 :: 0 :: 15 :: sX5_bringFirst_26
noncomputable def sX5_bringFirst_22 : List UInt8 := 42 :: sX5_bringFirst_23
noncomputable def sX5_bringFirst_19 : List UInt8 := 158 :: 0 :: 29 :: sX5_bringFirst_22
noncomputable def sX5_bringFirst_17 : List UInt8 := 21 :: 5 :: sX5_bringFirst_19
noncomputable def sX5_bringFirst_15 : List UInt8 := 54 :: 5 :: sX5_bringFirst_17
noncomputable def sX5_bringFirst_14 : List UInt8 := 28 :: sX5_bringFirst_15
noncomputable def sX5_bringFirst_12 : List UInt8 := 54 :: 4 :: sX5_bringFirst_14
noncomputable def sX5_bringFirst_11 : List UInt8 := 46 :: sX5_bringFirst_12
noncomputable def sX5_bringFirst_10 : List UInt8 := 96 :: sX5_bringFirst_11
noncomputable def sX5_bringFirst_9 : List UInt8 := 28 :: sX5_bringFirst_10
noncomputable def sX5_bringFirst_8 : List UInt8 := 29 :: sX5_bringFirst_9
noncomputable def sX5_bringFirst_5 : List UInt8 := 180 :: 0 :: 15 :: sX5_bringFirst_8
noncomputable def sX5_bringFirst_4 : List UInt8 := 42 :: sX5_bringFirst_5
noncomputable def sX5_bringFirst_3 : List UInt8 := 62 :: sX5_bringFirst_4
noncomputable def sX5_bringFirst_2 : List UInt8 := 104 :: sX5_bringFirst_3
noncomputable def sX5_bringFirst_1 : List UInt8 := 7 :: sX5_bringFirst_2
noncomputable def sX5_bringFirst_0 : List UInt8 := 27 :: sX5_bringFirst_1
set_option maxRecDepth 100000 in
theorem hX5_bringFirst_0 : cX5_bringFirst.data.toList.drop 0 = sX5_bringFirst_0 := by decide +kernel
theorem dX5_bringFirst_0 : decode cX5_bringFirst 0 = .ok (.iload_n 1, 1) := dk27 hX5_bringFirst_0
theorem hX5_bringFirst_1 : cX5_bringFirst.data.toList.drop 1 = sX5_bringFirst_1 := dn1 hX5_bringFirst_0
theorem dX5_bringFirst_1 : decode cX5_bringFirst 1 = .ok (.iconst 4, 1) := dk7 hX5_bringFirst_1
theorem hX5_bringFirst_2 : cX5_bringFirst.data.toList.drop 2 = sX5_bringFirst_2 := dn1 hX5_bringFirst_1
theorem dX5_bringFirst_2 : decode cX5_bringFirst 2 = .ok (.imul, 1) := dk104 hX5_bringFirst_2
theorem hX5_bringFirst_3 : cX5_bringFirst.data.toList.drop 3 = sX5_bringFirst_3 := dn1 hX5_bringFirst_2
theorem dX5_bringFirst_3 : decode cX5_bringFirst 3 = .ok (.istore_n 3, 1) := dk62 hX5_bringFirst_3
theorem hX5_bringFirst_4 : cX5_bringFirst.data.toList.drop 4 = sX5_bringFirst_4 := dn1 hX5_bringFirst_3
theorem dX5_bringFirst_4 : decode cX5_bringFirst 4 = .ok (.aload_n 0, 1) := dk42 hX5_bringFirst_4
theorem hX5_bringFirst_5 : cX5_bringFirst.data.toList.drop 5 = sX5_bringFirst_5 := dn1 hX5_bringFirst_4
theorem dX5_bringFirst_5 : decode cX5_bringFirst 5 = .ok (.getfield 15, 3) := dk180 hX5_bringFirst_5 rfl
theorem hX5_bringFirst_8 : cX5_bringFirst.data.toList.drop 8 = sX5_bringFirst_8 := dn3 hX5_bringFirst_5
theorem dX5_bringFirst_8 : decode cX5_bringFirst 8 = .ok (.iload_n 3, 1) := dk29 hX5_bringFirst_8
theorem hX5_bringFirst_9 : cX5_bringFirst.data.toList.drop 9 = sX5_bringFirst_9 := dn1 hX5_bringFirst_8
theorem dX5_bringFirst_9 : decode cX5_bringFirst 9 = .ok (.iload_n 2, 1) := dk28 hX5_bringFirst_9
theorem hX5_bringFirst_10 : cX5_bringFirst.data.toList.drop 10 = sX5_bringFirst_10 := dn1 hX5_bringFirst_9
theorem dX5_bringFirst_10 : decode cX5_bringFirst 10 = .ok (.iadd, 1) := dk96 hX5_bringFirst_10
theorem hX5_bringFirst_11 : cX5_bringFirst.data.toList.drop 11 = sX5_bringFirst_11 := dn1 hX5_bringFirst_10
theorem dX5_bringFirst_11 : decode cX5_bringFirst 11 = .ok (.iaload, 1) := dk46 hX5_bringFirst_11
theorem hX5_bringFirst_12 : cX5_bringFirst.data.toList.drop 12 = sX5_bringFirst_12 := dn1 hX5_bringFirst_11
theorem dX5_bringFirst_12 : decode cX5_bringFirst 12 = .ok (.istore 4, 2) := dk54 hX5_bringFirst_12 rfl
theorem hX5_bringFirst_14 : cX5_bringFirst.data.toList.drop 14 = sX5_bringFirst_14 := dn2 hX5_bringFirst_12
theorem dX5_bringFirst_14 : decode cX5_bringFirst 14 = .ok (.iload_n 2, 1) := dk28 hX5_bringFirst_14
theorem hX5_bringFirst_15 : cX5_bringFirst.data.toList.drop 15 = sX5_bringFirst_15 := dn1 hX5_bringFirst_14
theorem dX5_bringFirst_15 : decode cX5_bringFirst 15 = .ok (.istore 5, 2) := dk54 hX5_bringFirst_15 rfl
theorem hX5_bringFirst_17 : cX5_bringFirst.data.toList.drop 17 = sX5_bringFirst_17 := dn2 hX5_bringFirst_15
theorem dX5_bringFirst_17 : decode cX5_bringFirst 17 = .ok (.iload 5, 2) := dk21 hX5_bringFirst_17 rfl
theorem hX5_bringFirst_19 : cX5_bringFirst.data.toList.drop 19 = sX5_bringFirst_19 := dn2 hX5_bringFirst_17
theorem dX5_bringFirst_19 : decode cX5_bringFirst 19 = .ok (.ifCond .le 29, 3) := dk158 hX5_bringFirst_19 (by decide)
theorem hX5_bringFirst_22 : cX5_bringFirst.data.toList.drop 22 = sX5_bringFirst_22 := dn3 hX5_bringFirst_19
theorem dX5_bringFirst_22 : decode cX5_bringFirst 22 = .ok (.aload_n 0, 1) := dk42 hX5_bringFirst_22
theorem hX5_bringFirst_23 : cX5_bringFirst.data.toList.drop 23 = sX5_bringFirst_23 := dn1 hX5_bringFirst_22
theorem dX5_bringFirst_23 : decode cX5_bringFirst 23 = .ok (.getfield 15, 3) := dk180 hX5_bringFirst_23 rfl
theorem hX5_bringFirst_26 : cX5_bringFirst.data.toList.drop 26 = sX5_bringFirst_26 := dn3 hX5_bringFirst_23
theorem dX5_bringFirst_26 : decode cX5_bringFirst 26 = .ok (.iload_n 3, 1) := dk29 hX5_bringFirst_26
theorem hX5_bringFirst_27 : cX5_bringFirst.data.toList.drop 27 = sX5_bringFirst_27 := dn1 hX5_bringFirst_26
theorem dX5_bringFirst_27 : decode cX5_bringFirst 27 = .ok (.iload 5, 2) := dk21 hX5_bringFirst_27 rfl
theorem hX5_bringFirst_29 : cX5_bringFirst.data.toList.drop 29 = sX5_bringFirst_29 := dn2 hX5_bringFirst_27
theorem dX5_bringFirst_29 : decode cX5_bringFirst 29 = .ok (.iadd, 1) := dk96 hX5_bringFirst_29
theorem hX5_bringFirst_30 : cX5_bringFirst.data.toList.drop 30 = sX5_bringFirst_30 := dn1 hX5_bringFirst_29
theorem dX5_bringFirst_30 : decode cX5_bringFirst 30 = .ok (.aload_n 0, 1) := dk42 hX5_bringFirst_30
theorem hX5_bringFirst_31 : cX5_bringFirst.data.toList.drop 31 = sX5_bringFirst_31 := dn1 hX5_bringFirst_30
theorem dX5_bringFirst_31 : decode cX5_bringFirst 31 = .ok (.getfield 15, 3) := dk180 hX5_bringFirst_31 rfl
theorem hX5_bringFirst_34 : cX5_bringFirst.data.toList.drop 34 = sX5_bringFirst_34 := dn3 hX5_bringFirst_31
theorem dX5_bringFirst_34 : decode cX5_bringFirst 34 = .ok (.iload_n 3, 1) := dk29 hX5_bringFirst_34
theorem hX5_bringFirst_35 : cX5_bringFirst.data.toList.drop 35 = sX5_bringFirst_35 := dn1 hX5_bringFirst_34
theorem dX5_bringFirst_35 : decode cX5_bringFirst 35 = .ok (.iload 5, 2) := dk21 hX5_bringFirst_35 rfl
theorem hX5_bringFirst_37 : cX5_bringFirst.data.toList.drop 37 = sX5_bringFirst_37 := dn2 hX5_bringFirst_35
theorem dX5_bringFirst_37 : decode cX5_bringFirst 37 = .ok (.iadd, 1) := dk96 hX5_bringFirst_37
theorem hX5_bringFirst_38 : cX5_bringFirst.data.toList.drop 38 = sX5_bringFirst_38 := dn1 hX5_bringFirst_37
theorem dX5_bringFirst_38 : decode cX5_bringFirst 38 = .ok (.iconst 1, 1) := dk4 hX5_bringFirst_38
theorem hX5_bringFirst_39 : cX5_bringFirst.data.toList.drop 39 = sX5_bringFirst_39 := dn1 hX5_bringFirst_38
theorem dX5_bringFirst_39 : decode cX5_bringFirst 39 = .ok (.isub, 1) := dk100 hX5_bringFirst_39
theorem hX5_bringFirst_40 : cX5_bringFirst.data.toList.drop 40 = sX5_bringFirst_40 := dn1 hX5_bringFirst_39
theorem dX5_bringFirst_40 : decode cX5_bringFirst 40 = .ok (.iaload, 1) := dk46 hX5_bringFirst_40
theorem hX5_bringFirst_41 : cX5_bringFirst.data.toList.drop 41 = sX5_bringFirst_41 := dn1 hX5_bringFirst_40
theorem dX5_bringFirst_41 : decode cX5_bringFirst 41 = .ok (.iastore, 1) := dk79 hX5_bringFirst_41
theorem hX5_bringFirst_42 : cX5_bringFirst.data.toList.drop 42 = sX5_bringFirst_42 := dn1 hX5_bringFirst_41
theorem dX5_bringFirst_42 : decode cX5_bringFirst 42 = .ok (.iinc 5 (-1), 3) := dk132 hX5_bringFirst_42 rfl (by decide)
theorem hX5_bringFirst_45 : cX5_bringFirst.data.toList.drop 45 = sX5_bringFirst_45 := dn3 hX5_bringFirst_42
theorem dX5_bringFirst_45 : decode cX5_bringFirst 45 = .ok (.goto (-28), 3) := dk167 hX5_bringFirst_45 (by decide)
theorem hX5_bringFirst_48 : cX5_bringFirst.data.toList.drop 48 = sX5_bringFirst_48 := dn3 hX5_bringFirst_45
theorem dX5_bringFirst_48 : decode cX5_bringFirst 48 = .ok (.aload_n 0, 1) := dk42 hX5_bringFirst_48
theorem hX5_bringFirst_49 : cX5_bringFirst.data.toList.drop 49 = sX5_bringFirst_49 := dn1 hX5_bringFirst_48
theorem dX5_bringFirst_49 : decode cX5_bringFirst 49 = .ok (.getfield 15, 3) := dk180 hX5_bringFirst_49 rfl
theorem hX5_bringFirst_52 : cX5_bringFirst.data.toList.drop 52 = sX5_bringFirst_52 := dn3 hX5_bringFirst_49
theorem dX5_bringFirst_52 : decode cX5_bringFirst 52 = .ok (.iload_n 3, 1) := dk29 hX5_bringFirst_52
theorem hX5_bringFirst_53 : cX5_bringFirst.data.toList.drop 53 = sX5_bringFirst_53 := dn1 hX5_bringFirst_52
theorem dX5_bringFirst_53 : decode cX5_bringFirst 53 = .ok (.iload 4, 2) := dk21 hX5_bringFirst_53 rfl
theorem hX5_bringFirst_55 : cX5_bringFirst.data.toList.drop 55 = sX5_bringFirst_55 := dn2 hX5_bringFirst_53
theorem dX5_bringFirst_55 : decode cX5_bringFirst 55 = .ok (.iastore, 1) := dk79 hX5_bringFirst_55
theorem hX5_bringFirst_56 : cX5_bringFirst.data.toList.drop 56 = sX5_bringFirst_56 := dn1 hX5_bringFirst_55
theorem dX5_bringFirst_56 : decode cX5_bringFirst 56 = .ok (.return_, 1) := dk177 hX5_bringFirst_56
noncomputable def sX5_copyFrom_30 : List UInt8 := 177 :: []
noncomputable def sX5_copyFrom_27 : List UInt8 := 184 :: 0 :: 26 :: sX5_copyFrom_30
noncomputable def sX5_copyFrom_25 : List UInt8 := 16 :: 72 :: sX5_copyFrom_27
noncomputable def sX5_copyFrom_24 : List UInt8 := 3 :: sX5_copyFrom_25
noncomputable def sX5_copyFrom_21 : List UInt8 := 180 :: 0 :: 15 :: sX5_copyFrom_24
noncomputable def sX5_copyFrom_20 : List UInt8 := 42 :: sX5_copyFrom_21
noncomputable def sX5_copyFrom_19 : List UInt8 := 3 :: sX5_copyFrom_20
noncomputable def sX5_copyFrom_16 : List UInt8 := 180 :: 0 :: 15 :: sX5_copyFrom_19
noncomputable def sX5_copyFrom_15 : List UInt8 := 43 :: sX5_copyFrom_16
noncomputable def sX5_copyFrom_12 : List UInt8 := 184 :: 0 :: 26 :: sX5_copyFrom_15
noncomputable def sX5_copyFrom_10 : List UInt8 := 16 :: 18 :: sX5_copyFrom_12
noncomputable def sX5_copyFrom_9 : List UInt8 := 3 :: sX5_copyFrom_10
noncomputable def sX5_copyFrom_6 : List UInt8 := 180 :: 0 :: 9 :: sX5_copyFrom_9
noncomputable def sX5_copyFrom_5 : List UInt8 := 42 :: sX5_copyFrom_6
noncomputable def sX5_copyFrom_4 : List UInt8 := 3 :: sX5_copyFrom_5
noncomputable def sX5_copyFrom_1 : List UInt8 := 180 :: 0 :: 9 :: sX5_copyFrom_4
noncomputable def sX5_copyFrom_0 : List UInt8 := 43 :: sX5_copyFrom_1
set_option maxRecDepth 100000 in
theorem hX5_copyFrom_0 : cX5_copyFrom.data.toList.drop 0 = sX5_copyFrom_0 := by decide +kernel
theorem dX5_copyFrom_0 : decode cX5_copyFrom 0 = .ok (.aload_n 1, 1) := dk43 hX5_copyFrom_0
theorem hX5_copyFrom_1 : cX5_copyFrom.data.toList.drop 1 = sX5_copyFrom_1 := dn1 hX5_copyFrom_0
theorem dX5_copyFrom_1 : decode cX5_copyFrom 1 = .ok (.getfield 9, 3) := dk180 hX5_copyFrom_1 rfl
theorem hX5_copyFrom_4 : cX5_copyFrom.data.toList.drop 4 = sX5_copyFrom_4 := dn3 hX5_copyFrom_1
theorem dX5_copyFrom_4 : decode cX5_copyFrom 4 = .ok (.iconst 0, 1) := dk3 hX5_copyFrom_4
theorem hX5_copyFrom_5 : cX5_copyFrom.data.toList.drop 5 = sX5_copyFrom_5 := dn1 hX5_copyFrom_4
theorem dX5_copyFrom_5 : decode cX5_copyFrom 5 = .ok (.aload_n 0, 1) := dk42 hX5_copyFrom_5
theorem hX5_copyFrom_6 : cX5_copyFrom.data.toList.drop 6 = sX5_copyFrom_6 := dn1 hX5_copyFrom_5
theorem dX5_copyFrom_6 : decode cX5_copyFrom 6 = .ok (.getfield 9, 3) := dk180 hX5_copyFrom_6 rfl
theorem hX5_copyFrom_9 : cX5_copyFrom.data.toList.drop 9 = sX5_copyFrom_9 := dn3 hX5_copyFrom_6
theorem dX5_copyFrom_9 : decode cX5_copyFrom 9 = .ok (.iconst 0, 1) := dk3 hX5_copyFrom_9
theorem hX5_copyFrom_10 : cX5_copyFrom.data.toList.drop 10 = sX5_copyFrom_10 := dn1 hX5_copyFrom_9
theorem dX5_copyFrom_10 : decode cX5_copyFrom 10 = .ok (.bipush 18, 2) := dk16 hX5_copyFrom_10 (by decide)
theorem hX5_copyFrom_12 : cX5_copyFrom.data.toList.drop 12 = sX5_copyFrom_12 := dn2 hX5_copyFrom_10
theorem dX5_copyFrom_12 : decode cX5_copyFrom 12 = .ok (.invokestatic 26, 3) := dk184 hX5_copyFrom_12 rfl
theorem hX5_copyFrom_15 : cX5_copyFrom.data.toList.drop 15 = sX5_copyFrom_15 := dn3 hX5_copyFrom_12
theorem dX5_copyFrom_15 : decode cX5_copyFrom 15 = .ok (.aload_n 1, 1) := dk43 hX5_copyFrom_15
theorem hX5_copyFrom_16 : cX5_copyFrom.data.toList.drop 16 = sX5_copyFrom_16 := dn1 hX5_copyFrom_15
theorem dX5_copyFrom_16 : decode cX5_copyFrom 16 = .ok (.getfield 15, 3) := dk180 hX5_copyFrom_16 rfl
theorem hX5_copyFrom_19 : cX5_copyFrom.data.toList.drop 19 = sX5_copyFrom_19 := dn3 hX5_copyFrom_16
theorem dX5_copyFrom_19 : decode cX5_copyFrom 19 = .ok (.iconst 0, 1) := dk3 hX5_copyFrom_19
theorem hX5_copyFrom_20 : cX5_copyFrom.data.toList.drop 20 = sX5_copyFrom_20 := dn1 hX5_copyFrom_19
theorem dX5_copyFrom_20 : decode cX5_copyFrom 20 = .ok (.aload_n 0, 1) := dk42 hX5_copyFrom_20
theorem hX5_copyFrom_21 : cX5_copyFrom.data.toList.drop 21 = sX5_copyFrom_21 := dn1 hX5_copyFrom_20
theorem dX5_copyFrom_21 : decode cX5_copyFrom 21 = .ok (.getfield 15, 3) := dk180 hX5_copyFrom_21 rfl
theorem hX5_copyFrom_24 : cX5_copyFrom.data.toList.drop 24 = sX5_copyFrom_24 := dn3 hX5_copyFrom_21
theorem dX5_copyFrom_24 : decode cX5_copyFrom 24 = .ok (.iconst 0, 1) := dk3 hX5_copyFrom_24
theorem hX5_copyFrom_25 : cX5_copyFrom.data.toList.drop 25 = sX5_copyFrom_25 := dn1 hX5_copyFrom_24
theorem dX5_copyFrom_25 : decode cX5_copyFrom 25 = .ok (.bipush 72, 2) := dk16 hX5_copyFrom_25 (by decide)
theorem hX5_copyFrom_27 : cX5_copyFrom.data.toList.drop 27 = sX5_copyFrom_27 := dn2 hX5_copyFrom_25
theorem dX5_copyFrom_27 : decode cX5_copyFrom 27 = .ok (.invokestatic 26, 3) := dk184 hX5_copyFrom_27 rfl
theorem hX5_copyFrom_30 : cX5_copyFrom.data.toList.drop 30 = sX5_copyFrom_30 := dn3 hX5_copyFrom_27
theorem dX5_copyFrom_30 : decode cX5_copyFrom 30 = .ok (.return_, 1) := dk177 hX5_copyFrom_30
noncomputable def sX5_init_27 : List UInt8 := 177 :: []
noncomputable def sX5_init_24 : List UInt8 := 181 :: 0 :: 18 :: sX5_init_27
noncomputable def sX5_init_22 : List UInt8 := 188 :: 10 :: sX5_init_24
noncomputable def sX5_init_21 : List UInt8 := 7 :: sX5_init_22
noncomputable def sX5_init_20 : List UInt8 := 42 :: sX5_init_21
noncomputable def sX5_init_17 : List UInt8 := 181 :: 0 :: 15 :: sX5_init_20
noncomputable def sX5_init_15 : List UInt8 := 188 :: 10 :: sX5_init_17
noncomputable def sX5_init_13 : List UInt8 := 16 :: 72 :: sX5_init_15
noncomputable def sX5_init_12 : List UInt8 := 42 :: sX5_init_13
noncomputable def sX5_init_9 : List UInt8 := 181 :: 0 :: 9 :: sX5_init_12
noncomputable def sX5_init_7 : List UInt8 := 188 :: 10 :: sX5_init_9
noncomputable def sX5_init_5 : List UInt8 := 16 :: 18 :: sX5_init_7
noncomputable def sX5_init_4 : List UInt8 := 42 :: sX5_init_5
noncomputable def sX5_init_1 : List UInt8 := 183 :: 0 :: 3 :: sX5_init_4
noncomputable def sX5_init_0 : List UInt8 := 42 :: sX5_init_1
set_option maxRecDepth 100000 in
theorem hX5_init_0 : cX5_init.data.toList.drop 0 = sX5_init_0 := by decide +kernel
theorem dX5_init_0 : decode cX5_init 0 = .ok (.aload_n 0, 1) := dk42 hX5_init_0
theorem hX5_init_1 : cX5_init.data.toList.drop 1 = sX5_init_1 := dn1 hX5_init_0
theorem dX5_init_1 : decode cX5_init 1 = .ok (.invokespecial 3, 3) := dk183 hX5_init_1 rfl
theorem hX5_init_4 : cX5_init.data.toList.drop 4 = sX5_init_4 := dn3 hX5_init_1
theorem dX5_init_4 : decode cX5_init 4 = .ok (.aload_n 0, 1) := dk42 hX5_init_4
theorem hX5_init_5 : cX5_init.data.toList.drop 5 = sX5_init_5 := dn1 hX5_init_4
theorem dX5_init_5 : decode cX5_init 5 = .ok (.bipush 18, 2) := dk16 hX5_init_5 (by decide)
theorem hX5_init_7 : cX5_init.data.toList.drop 7 = sX5_init_7 := dn2 hX5_init_5
set_option maxRecDepth 100000 in
theorem dX5_init_7 : decode cX5_init 7 = .ok (.newarray .int, 2) := by decide +kernel
theorem hX5_init_9 : cX5_init.data.toList.drop 9 = sX5_init_9 := dn2 hX5_init_7
theorem dX5_init_9 : decode cX5_init 9 = .ok (.putfield 9, 3) := dk181 hX5_init_9 rfl
theorem hX5_init_12 : cX5_init.data.toList.drop 12 = sX5_init_12 := dn3 hX5_init_9
theorem dX5_init_12 : decode cX5_init 12 = .ok (.aload_n 0, 1) := dk42 hX5_init_12
theorem hX5_init_13 : cX5_init.data.toList.drop 13 = sX5_init_13 := dn1 hX5_init_12
theorem dX5_init_13 : decode cX5_init 13 = .ok (.bipush 72, 2) := dk16 hX5_init_13 (by decide)
theorem hX5_init_15 : cX5_init.data.toList.drop 15 = sX5_init_15 := dn2 hX5_init_13
set_option maxRecDepth 100000 in
theorem dX5_init_15 : decode cX5_init 15 = .ok (.newarray .int, 2) := by decide +kernel
theorem hX5_init_17 : cX5_init.data.toList.drop 17 = sX5_init_17 := dn2 hX5_init_15
theorem dX5_init_17 : decode cX5_init 17 = .ok (.putfield 15, 3) := dk181 hX5_init_17 rfl
theorem hX5_init_20 : cX5_init.data.toList.drop 20 = sX5_init_20 := dn3 hX5_init_17
theorem dX5_init_20 : decode cX5_init 20 = .ok (.aload_n 0, 1) := dk42 hX5_init_20
theorem hX5_init_21 : cX5_init.data.toList.drop 21 = sX5_init_21 := dn1 hX5_init_20
theorem dX5_init_21 : decode cX5_init 21 = .ok (.iconst 4, 1) := dk7 hX5_init_21
theorem hX5_init_22 : cX5_init.data.toList.drop 22 = sX5_init_22 := dn1 hX5_init_21
set_option maxRecDepth 100000 in
theorem dX5_init_22 : decode cX5_init 22 = .ok (.newarray .int, 2) := by decide +kernel
theorem hX5_init_24 : cX5_init.data.toList.drop 24 = sX5_init_24 := dn2 hX5_init_22
theorem dX5_init_24 : decode cX5_init 24 = .ok (.putfield 18, 3) := dk181 hX5_init_24 rfl
theorem hX5_init_27 : cX5_init.data.toList.drop 27 = sX5_init_27 := dn3 hX5_init_24
theorem dX5_init_27 : decode cX5_init 27 = .ok (.return_, 1) := dk177 hX5_init_27
noncomputable def sX5_partAt_19 : List UInt8 := 172 :: []
noncomputable def sX5_partAt_18 : List UInt8 := 46 :: sX5_partAt_19
noncomputable def sX5_partAt_17 : List UInt8 := 96 :: sX5_partAt_18
noncomputable def sX5_partAt_16 : List UInt8 := 46 :: sX5_partAt_17
noncomputable def sX5_partAt_15 : List UInt8 := 96 :: sX5_partAt_16
noncomputable def sX5_partAt_14 : List UInt8 := 29 :: sX5_partAt_15
noncomputable def sX5_partAt_13 : List UInt8 := 104 :: sX5_partAt_14
noncomputable def sX5_partAt_12 : List UInt8 := 7 :: sX5_partAt_13
noncomputable def sX5_partAt_11 : List UInt8 := 28 :: sX5_partAt_12
noncomputable def sX5_partAt_8 : List UInt8 := 180 :: 0 :: 15 :: sX5_partAt_11
noncomputable def sX5_partAt_7 : List UInt8 := 42 :: sX5_partAt_8
noncomputable def sX5_partAt_6 : List UInt8 := 104 :: sX5_partAt_7
noncomputable def sX5_partAt_5 : List UInt8 := 7 :: sX5_partAt_6
noncomputable def sX5_partAt_4 : List UInt8 := 28 :: sX5_partAt_5
noncomputable def sX5_partAt_1 : List UInt8 := 180 :: 0 :: 32 :: sX5_partAt_4
noncomputable def sX5_partAt_0 : List UInt8 := 43 :: sX5_partAt_1
set_option maxRecDepth 100000 in
theorem hX5_partAt_0 : cX5_partAt.data.toList.drop 0 = sX5_partAt_0 := by decide +kernel
theorem dX5_partAt_0 : decode cX5_partAt 0 = .ok (.aload_n 1, 1) := dk43 hX5_partAt_0
theorem hX5_partAt_1 : cX5_partAt.data.toList.drop 1 = sX5_partAt_1 := dn1 hX5_partAt_0
theorem dX5_partAt_1 : decode cX5_partAt 1 = .ok (.getfield 32, 3) := dk180 hX5_partAt_1 rfl
theorem hX5_partAt_4 : cX5_partAt.data.toList.drop 4 = sX5_partAt_4 := dn3 hX5_partAt_1
theorem dX5_partAt_4 : decode cX5_partAt 4 = .ok (.iload_n 2, 1) := dk28 hX5_partAt_4
theorem hX5_partAt_5 : cX5_partAt.data.toList.drop 5 = sX5_partAt_5 := dn1 hX5_partAt_4
theorem dX5_partAt_5 : decode cX5_partAt 5 = .ok (.iconst 4, 1) := dk7 hX5_partAt_5
theorem hX5_partAt_6 : cX5_partAt.data.toList.drop 6 = sX5_partAt_6 := dn1 hX5_partAt_5
theorem dX5_partAt_6 : decode cX5_partAt 6 = .ok (.imul, 1) := dk104 hX5_partAt_6
theorem hX5_partAt_7 : cX5_partAt.data.toList.drop 7 = sX5_partAt_7 := dn1 hX5_partAt_6
theorem dX5_partAt_7 : decode cX5_partAt 7 = .ok (.aload_n 0, 1) := dk42 hX5_partAt_7
theorem hX5_partAt_8 : cX5_partAt.data.toList.drop 8 = sX5_partAt_8 := dn1 hX5_partAt_7
theorem dX5_partAt_8 : decode cX5_partAt 8 = .ok (.getfield 15, 3) := dk180 hX5_partAt_8 rfl
theorem hX5_partAt_11 : cX5_partAt.data.toList.drop 11 = sX5_partAt_11 := dn3 hX5_partAt_8
theorem dX5_partAt_11 : decode cX5_partAt 11 = .ok (.iload_n 2, 1) := dk28 hX5_partAt_11
theorem hX5_partAt_12 : cX5_partAt.data.toList.drop 12 = sX5_partAt_12 := dn1 hX5_partAt_11
theorem dX5_partAt_12 : decode cX5_partAt 12 = .ok (.iconst 4, 1) := dk7 hX5_partAt_12
theorem hX5_partAt_13 : cX5_partAt.data.toList.drop 13 = sX5_partAt_13 := dn1 hX5_partAt_12
theorem dX5_partAt_13 : decode cX5_partAt 13 = .ok (.imul, 1) := dk104 hX5_partAt_13
theorem hX5_partAt_14 : cX5_partAt.data.toList.drop 14 = sX5_partAt_14 := dn1 hX5_partAt_13
theorem dX5_partAt_14 : decode cX5_partAt 14 = .ok (.iload_n 3, 1) := dk29 hX5_partAt_14
theorem hX5_partAt_15 : cX5_partAt.data.toList.drop 15 = sX5_partAt_15 := dn1 hX5_partAt_14
theorem dX5_partAt_15 : decode cX5_partAt 15 = .ok (.iadd, 1) := dk96 hX5_partAt_15
theorem hX5_partAt_16 : cX5_partAt.data.toList.drop 16 = sX5_partAt_16 := dn1 hX5_partAt_15
theorem dX5_partAt_16 : decode cX5_partAt 16 = .ok (.iaload, 1) := dk46 hX5_partAt_16
theorem hX5_partAt_17 : cX5_partAt.data.toList.drop 17 = sX5_partAt_17 := dn1 hX5_partAt_16
theorem dX5_partAt_17 : decode cX5_partAt 17 = .ok (.iadd, 1) := dk96 hX5_partAt_17
theorem hX5_partAt_18 : cX5_partAt.data.toList.drop 18 = sX5_partAt_18 := dn1 hX5_partAt_17
theorem dX5_partAt_18 : decode cX5_partAt 18 = .ok (.iaload, 1) := dk46 hX5_partAt_18
theorem hX5_partAt_19 : cX5_partAt.data.toList.drop 19 = sX5_partAt_19 := dn1 hX5_partAt_18
theorem dX5_partAt_19 : decode cX5_partAt 19 = .ok (.ireturn, 1) := dk172 hX5_partAt_19
noncomputable def sX5_putInOrder_122 : List UInt8 := 177 :: []
noncomputable def sX5_putInOrder_119 : List UInt8 := 167 :: 255 :: 180 :: sX5_putInOrder_122
noncomputable def sX5_putInOrder_116 : List UInt8 := 132 :: 6 :: 255 :: sX5_putInOrder_119
noncomputable def sX5_putInOrder_113 : List UInt8 := 167 :: 255 :: 228 :: sX5_putInOrder_116
noncomputable def sX5_putInOrder_110 : List UInt8 := 132 :: 8 :: 1 :: sX5_putInOrder_113
noncomputable def sX5_putInOrder_109 : List UInt8 := 79 :: sX5_putInOrder_110
noncomputable def sX5_putInOrder_108 : List UInt8 := 46 :: sX5_putInOrder_109
noncomputable def sX5_putInOrder_107 : List UInt8 := 96 :: sX5_putInOrder_108
noncomputable def sX5_putInOrder_106 : List UInt8 := 4 :: sX5_putInOrder_107
noncomputable def sX5_putInOrder_104 : List UInt8 := 21 :: 8 :: sX5_putInOrder_106
noncomputable def sX5_putInOrder_101 : List UInt8 := 180 :: 0 :: 18 :: sX5_putInOrder_104
noncomputable def sX5_putInOrder_100 : List UInt8 := 42 :: sX5_putInOrder_101
noncomputable def sX5_putInOrder_98 : List UInt8 := 21 :: 8 :: sX5_putInOrder_100
noncomputable def sX5_putInOrder_95 : List UInt8 := 180 :: 0 :: 18 :: sX5_putInOrder_98
noncomputable def sX5_putInOrder_94 : List UInt8 := 42 :: sX5_putInOrder_95
noncomputable def sX5_putInOrder_91 : List UInt8 := 162 :: 0 :: 25 :: sX5_putInOrder_94
noncomputable def sX5_putInOrder_90 : List UInt8 := 100 :: sX5_putInOrder_91
noncomputable def sX5_putInOrder_89 : List UInt8 := 4 :: sX5_putInOrder_90
noncomputable def sX5_putInOrder_87 : List UInt8 := 21 :: 6 :: sX5_putInOrder_89
noncomputable def sX5_putInOrder_85 : List UInt8 := 21 :: 8 :: sX5_putInOrder_87
noncomputable def sX5_putInOrder_83 : List UInt8 := 54 :: 8 :: sX5_putInOrder_85
noncomputable def sX5_putInOrder_81 : List UInt8 := 21 :: 7 :: sX5_putInOrder_83
noncomputable def sX5_putInOrder_80 : List UInt8 := 79 :: sX5_putInOrder_81
noncomputable def sX5_putInOrder_79 : List UInt8 := 46 :: sX5_putInOrder_80
noncomputable def sX5_putInOrder_77 : List UInt8 := 21 :: 7 :: sX5_putInOrder_79
noncomputable def sX5_putInOrder_74 : List UInt8 := 180 :: 0 :: 18 :: sX5_putInOrder_77
noncomputable def sX5_putInOrder_73 : List UInt8 := 42 :: sX5_putInOrder_74
noncomputable def sX5_putInOrder_72 : List UInt8 := 100 :: sX5_putInOrder_73
noncomputable def sX5_putInOrder_70 : List UInt8 := 21 :: 6 :: sX5_putInOrder_72
noncomputable def sX5_putInOrder_69 : List UInt8 := 96 :: sX5_putInOrder_70
noncomputable def sX5_putInOrder_68 : List UInt8 := 28 :: sX5_putInOrder_69
noncomputable def sX5_putInOrder_66 : List UInt8 := 21 :: 4 :: sX5_putInOrder_68
noncomputable def sX5_putInOrder_63 : List UInt8 := 180 :: 0 :: 15 :: sX5_putInOrder_66
noncomputable def sX5_putInOrder_62 : List UInt8 := 42 :: sX5_putInOrder_63
noncomputable def sX5_putInOrder_60 : List UInt8 := 54 :: 5 :: sX5_putInOrder_62
noncomputable def sX5_putInOrder_59 : List UInt8 := 108 :: sX5_putInOrder_60
noncomputable def sX5_putInOrder_57 : List UInt8 := 21 :: 6 :: sX5_putInOrder_59
noncomputable def sX5_putInOrder_55 : List UInt8 := 21 :: 5 :: sX5_putInOrder_57
noncomputable def sX5_putInOrder_53 : List UInt8 := 54 :: 7 :: sX5_putInOrder_55
noncomputable def sX5_putInOrder_52 : List UInt8 := 112 :: sX5_putInOrder_53
noncomputable def sX5_putInOrder_50 : List UInt8 := 21 :: 6 :: sX5_putInOrder_52
noncomputable def sX5_putInOrder_48 : List UInt8 := 21 :: 5 :: sX5_putInOrder_50
noncomputable def sX5_putInOrder_45 : List UInt8 := 158 :: 0 :: 77 :: sX5_putInOrder_48
noncomputable def sX5_putInOrder_43 : List UInt8 := 21 :: 6 :: sX5_putInOrder_45
noncomputable def sX5_putInOrder_41 : List UInt8 := 54 :: 6 :: sX5_putInOrder_43
noncomputable def sX5_putInOrder_40 : List UInt8 := 28 :: sX5_putInOrder_41
noncomputable def sX5_putInOrder_38 : List UInt8 := 54 :: 5 :: sX5_putInOrder_40
noncomputable def sX5_putInOrder_37 : List UInt8 := 29 :: sX5_putInOrder_38
noncomputable def sX5_putInOrder_34 : List UInt8 := 167 :: 255 :: 230 :: sX5_putInOrder_37
noncomputable def sX5_putInOrder_31 : List UInt8 := 132 :: 5 :: 1 :: sX5_putInOrder_34
noncomputable def sX5_putInOrder_30 : List UInt8 := 79 :: sX5_putInOrder_31
noncomputable def sX5_putInOrder_29 : List UInt8 := 46 :: sX5_putInOrder_30
noncomputable def sX5_putInOrder_28 : List UInt8 := 96 :: sX5_putInOrder_29
noncomputable def sX5_putInOrder_26 : List UInt8 := 21 :: 5 :: sX5_putInOrder_28
noncomputable def sX5_putInOrder_24 : List UInt8 := 21 :: 4 :: sX5_putInOrder_26
noncomputable def sX5_putInOrder_21 : List UInt8 := 180 :: 0 :: 15 :: sX5_putInOrder_24
noncomputable def sX5_putInOrder_20 : List UInt8 := 42 :: sX5_putInOrder_21
noncomputable def sX5_putInOrder_18 : List UInt8 := 21 :: 5 :: sX5_putInOrder_20
noncomputable def sX5_putInOrder_15 : List UInt8 := 180 :: 0 :: 18 :: sX5_putInOrder_18
noncomputable def sX5_putInOrder_14 : List UInt8 := 42 :: sX5_putInOrder_15
noncomputable def sX5_putInOrder_11 : List UInt8 := 162 :: 0 :: 26 :: sX5_putInOrder_14
noncomputable def sX5_putInOrder_10 : List UInt8 := 28 :: sX5_putInOrder_11
noncomputable def sX5_putInOrder_8 : List UInt8 := 21 :: 5 :: sX5_putInOrder_10
noncomputable def sX5_putInOrder_6 : List UInt8 := 54 :: 5 :: sX5_putInOrder_8
noncomputable def sX5_putInOrder_5 : List UInt8 := 3 :: sX5_putInOrder_6
noncomputable def sX5_putInOrder_3 : List UInt8 := 54 :: 4 :: sX5_putInOrder_5
noncomputable def sX5_putInOrder_2 : List UInt8 := 104 :: sX5_putInOrder_3
noncomputable def sX5_putInOrder_1 : List UInt8 := 7 :: sX5_putInOrder_2
noncomputable def sX5_putInOrder_0 : List UInt8 := 27 :: sX5_putInOrder_1
set_option maxRecDepth 100000 in
theorem hX5_putInOrder_0 : cX5_putInOrder.data.toList.drop 0 = sX5_putInOrder_0 := by decide +kernel
theorem dX5_putInOrder_0 : decode cX5_putInOrder 0 = .ok (.iload_n 1, 1) := dk27 hX5_putInOrder_0
theorem hX5_putInOrder_1 : cX5_putInOrder.data.toList.drop 1 = sX5_putInOrder_1 := dn1 hX5_putInOrder_0
theorem dX5_putInOrder_1 : decode cX5_putInOrder 1 = .ok (.iconst 4, 1) := dk7 hX5_putInOrder_1
theorem hX5_putInOrder_2 : cX5_putInOrder.data.toList.drop 2 = sX5_putInOrder_2 := dn1 hX5_putInOrder_1
theorem dX5_putInOrder_2 : decode cX5_putInOrder 2 = .ok (.imul, 1) := dk104 hX5_putInOrder_2
theorem hX5_putInOrder_3 : cX5_putInOrder.data.toList.drop 3 = sX5_putInOrder_3 := dn1 hX5_putInOrder_2
theorem dX5_putInOrder_3 : decode cX5_putInOrder 3 = .ok (.istore 4, 2) := dk54 hX5_putInOrder_3 rfl
theorem hX5_putInOrder_5 : cX5_putInOrder.data.toList.drop 5 = sX5_putInOrder_5 := dn2 hX5_putInOrder_3
theorem dX5_putInOrder_5 : decode cX5_putInOrder 5 = .ok (.iconst 0, 1) := dk3 hX5_putInOrder_5
theorem hX5_putInOrder_6 : cX5_putInOrder.data.toList.drop 6 = sX5_putInOrder_6 := dn1 hX5_putInOrder_5
theorem dX5_putInOrder_6 : decode cX5_putInOrder 6 = .ok (.istore 5, 2) := dk54 hX5_putInOrder_6 rfl
theorem hX5_putInOrder_8 : cX5_putInOrder.data.toList.drop 8 = sX5_putInOrder_8 := dn2 hX5_putInOrder_6
theorem dX5_putInOrder_8 : decode cX5_putInOrder 8 = .ok (.iload 5, 2) := dk21 hX5_putInOrder_8 rfl
theorem hX5_putInOrder_10 : cX5_putInOrder.data.toList.drop 10 = sX5_putInOrder_10 := dn2 hX5_putInOrder_8
theorem dX5_putInOrder_10 : decode cX5_putInOrder 10 = .ok (.iload_n 2, 1) := dk28 hX5_putInOrder_10
theorem hX5_putInOrder_11 : cX5_putInOrder.data.toList.drop 11 = sX5_putInOrder_11 := dn1 hX5_putInOrder_10
theorem dX5_putInOrder_11 : decode cX5_putInOrder 11 = .ok (.if_icmp .ge 26, 3) := dk162 hX5_putInOrder_11 (by decide)
theorem hX5_putInOrder_14 : cX5_putInOrder.data.toList.drop 14 = sX5_putInOrder_14 := dn3 hX5_putInOrder_11
theorem dX5_putInOrder_14 : decode cX5_putInOrder 14 = .ok (.aload_n 0, 1) := dk42 hX5_putInOrder_14
theorem hX5_putInOrder_15 : cX5_putInOrder.data.toList.drop 15 = sX5_putInOrder_15 := dn1 hX5_putInOrder_14
theorem dX5_putInOrder_15 : decode cX5_putInOrder 15 = .ok (.getfield 18, 3) := dk180 hX5_putInOrder_15 rfl
theorem hX5_putInOrder_18 : cX5_putInOrder.data.toList.drop 18 = sX5_putInOrder_18 := dn3 hX5_putInOrder_15
theorem dX5_putInOrder_18 : decode cX5_putInOrder 18 = .ok (.iload 5, 2) := dk21 hX5_putInOrder_18 rfl
theorem hX5_putInOrder_20 : cX5_putInOrder.data.toList.drop 20 = sX5_putInOrder_20 := dn2 hX5_putInOrder_18
theorem dX5_putInOrder_20 : decode cX5_putInOrder 20 = .ok (.aload_n 0, 1) := dk42 hX5_putInOrder_20
theorem hX5_putInOrder_21 : cX5_putInOrder.data.toList.drop 21 = sX5_putInOrder_21 := dn1 hX5_putInOrder_20
theorem dX5_putInOrder_21 : decode cX5_putInOrder 21 = .ok (.getfield 15, 3) := dk180 hX5_putInOrder_21 rfl
theorem hX5_putInOrder_24 : cX5_putInOrder.data.toList.drop 24 = sX5_putInOrder_24 := dn3 hX5_putInOrder_21
theorem dX5_putInOrder_24 : decode cX5_putInOrder 24 = .ok (.iload 4, 2) := dk21 hX5_putInOrder_24 rfl
theorem hX5_putInOrder_26 : cX5_putInOrder.data.toList.drop 26 = sX5_putInOrder_26 := dn2 hX5_putInOrder_24
theorem dX5_putInOrder_26 : decode cX5_putInOrder 26 = .ok (.iload 5, 2) := dk21 hX5_putInOrder_26 rfl
theorem hX5_putInOrder_28 : cX5_putInOrder.data.toList.drop 28 = sX5_putInOrder_28 := dn2 hX5_putInOrder_26
theorem dX5_putInOrder_28 : decode cX5_putInOrder 28 = .ok (.iadd, 1) := dk96 hX5_putInOrder_28
theorem hX5_putInOrder_29 : cX5_putInOrder.data.toList.drop 29 = sX5_putInOrder_29 := dn1 hX5_putInOrder_28
theorem dX5_putInOrder_29 : decode cX5_putInOrder 29 = .ok (.iaload, 1) := dk46 hX5_putInOrder_29
theorem hX5_putInOrder_30 : cX5_putInOrder.data.toList.drop 30 = sX5_putInOrder_30 := dn1 hX5_putInOrder_29
theorem dX5_putInOrder_30 : decode cX5_putInOrder 30 = .ok (.iastore, 1) := dk79 hX5_putInOrder_30
theorem hX5_putInOrder_31 : cX5_putInOrder.data.toList.drop 31 = sX5_putInOrder_31 := dn1 hX5_putInOrder_30
theorem dX5_putInOrder_31 : decode cX5_putInOrder 31 = .ok (.iinc 5 1, 3) := dk132 hX5_putInOrder_31 rfl (by decide)
theorem hX5_putInOrder_34 : cX5_putInOrder.data.toList.drop 34 = sX5_putInOrder_34 := dn3 hX5_putInOrder_31
theorem dX5_putInOrder_34 : decode cX5_putInOrder 34 = .ok (.goto (-26), 3) := dk167 hX5_putInOrder_34 (by decide)
theorem hX5_putInOrder_37 : cX5_putInOrder.data.toList.drop 37 = sX5_putInOrder_37 := dn3 hX5_putInOrder_34
theorem dX5_putInOrder_37 : decode cX5_putInOrder 37 = .ok (.iload_n 3, 1) := dk29 hX5_putInOrder_37
theorem hX5_putInOrder_38 : cX5_putInOrder.data.toList.drop 38 = sX5_putInOrder_38 := dn1 hX5_putInOrder_37
theorem dX5_putInOrder_38 : decode cX5_putInOrder 38 = .ok (.istore 5, 2) := dk54 hX5_putInOrder_38 rfl
theorem hX5_putInOrder_40 : cX5_putInOrder.data.toList.drop 40 = sX5_putInOrder_40 := dn2 hX5_putInOrder_38
theorem dX5_putInOrder_40 : decode cX5_putInOrder 40 = .ok (.iload_n 2, 1) := dk28 hX5_putInOrder_40
theorem hX5_putInOrder_41 : cX5_putInOrder.data.toList.drop 41 = sX5_putInOrder_41 := dn1 hX5_putInOrder_40
theorem dX5_putInOrder_41 : decode cX5_putInOrder 41 = .ok (.istore 6, 2) := dk54 hX5_putInOrder_41 rfl
theorem hX5_putInOrder_43 : cX5_putInOrder.data.toList.drop 43 = sX5_putInOrder_43 := dn2 hX5_putInOrder_41
theorem dX5_putInOrder_43 : decode cX5_putInOrder 43 = .ok (.iload 6, 2) := dk21 hX5_putInOrder_43 rfl
theorem hX5_putInOrder_45 : cX5_putInOrder.data.toList.drop 45 = sX5_putInOrder_45 := dn2 hX5_putInOrder_43
theorem dX5_putInOrder_45 : decode cX5_putInOrder 45 = .ok (.ifCond .le 77, 3) := dk158 hX5_putInOrder_45 (by decide)
theorem hX5_putInOrder_48 : cX5_putInOrder.data.toList.drop 48 = sX5_putInOrder_48 := dn3 hX5_putInOrder_45
theorem dX5_putInOrder_48 : decode cX5_putInOrder 48 = .ok (.iload 5, 2) := dk21 hX5_putInOrder_48 rfl
theorem hX5_putInOrder_50 : cX5_putInOrder.data.toList.drop 50 = sX5_putInOrder_50 := dn2 hX5_putInOrder_48
theorem dX5_putInOrder_50 : decode cX5_putInOrder 50 = .ok (.iload 6, 2) := dk21 hX5_putInOrder_50 rfl
theorem hX5_putInOrder_52 : cX5_putInOrder.data.toList.drop 52 = sX5_putInOrder_52 := dn2 hX5_putInOrder_50
theorem dX5_putInOrder_52 : decode cX5_putInOrder 52 = .ok (.irem, 1) := dk112 hX5_putInOrder_52
theorem hX5_putInOrder_53 : cX5_putInOrder.data.toList.drop 53 = sX5_putInOrder_53 := dn1 hX5_putInOrder_52
theorem dX5_putInOrder_53 : decode cX5_putInOrder 53 = .ok (.istore 7, 2) := dk54 hX5_putInOrder_53 rfl
theorem hX5_putInOrder_55 : cX5_putInOrder.data.toList.drop 55 = sX5_putInOrder_55 := dn2 hX5_putInOrder_53
theorem dX5_putInOrder_55 : decode cX5_putInOrder 55 = .ok (.iload 5, 2) := dk21 hX5_putInOrder_55 rfl
theorem hX5_putInOrder_57 : cX5_putInOrder.data.toList.drop 57 = sX5_putInOrder_57 := dn2 hX5_putInOrder_55
theorem dX5_putInOrder_57 : decode cX5_putInOrder 57 = .ok (.iload 6, 2) := dk21 hX5_putInOrder_57 rfl
theorem hX5_putInOrder_59 : cX5_putInOrder.data.toList.drop 59 = sX5_putInOrder_59 := dn2 hX5_putInOrder_57
theorem dX5_putInOrder_59 : decode cX5_putInOrder 59 = .ok (.idiv, 1) := dk108 hX5_putInOrder_59
theorem hX5_putInOrder_60 : cX5_putInOrder.data.toList.drop 60 = sX5_putInOrder_60 := dn1 hX5_putInOrder_59
theorem dX5_putInOrder_60 : decode cX5_putInOrder 60 = .ok (.istore 5, 2) := dk54 hX5_putInOrder_60 rfl
theorem hX5_putInOrder_62 : cX5_putInOrder.data.toList.drop 62 = sX5_putInOrder_62 := dn2 hX5_putInOrder_60
theorem dX5_putInOrder_62 : decode cX5_putInOrder 62 = .ok (.aload_n 0, 1) := dk42 hX5_putInOrder_62
theorem hX5_putInOrder_63 : cX5_putInOrder.data.toList.drop 63 = sX5_putInOrder_63 := dn1 hX5_putInOrder_62
theorem dX5_putInOrder_63 : decode cX5_putInOrder 63 = .ok (.getfield 15, 3) := dk180 hX5_putInOrder_63 rfl
theorem hX5_putInOrder_66 : cX5_putInOrder.data.toList.drop 66 = sX5_putInOrder_66 := dn3 hX5_putInOrder_63
theorem dX5_putInOrder_66 : decode cX5_putInOrder 66 = .ok (.iload 4, 2) := dk21 hX5_putInOrder_66 rfl
theorem hX5_putInOrder_68 : cX5_putInOrder.data.toList.drop 68 = sX5_putInOrder_68 := dn2 hX5_putInOrder_66
theorem dX5_putInOrder_68 : decode cX5_putInOrder 68 = .ok (.iload_n 2, 1) := dk28 hX5_putInOrder_68
theorem hX5_putInOrder_69 : cX5_putInOrder.data.toList.drop 69 = sX5_putInOrder_69 := dn1 hX5_putInOrder_68
theorem dX5_putInOrder_69 : decode cX5_putInOrder 69 = .ok (.iadd, 1) := dk96 hX5_putInOrder_69
theorem hX5_putInOrder_70 : cX5_putInOrder.data.toList.drop 70 = sX5_putInOrder_70 := dn1 hX5_putInOrder_69
theorem dX5_putInOrder_70 : decode cX5_putInOrder 70 = .ok (.iload 6, 2) := dk21 hX5_putInOrder_70 rfl
theorem hX5_putInOrder_72 : cX5_putInOrder.data.toList.drop 72 = sX5_putInOrder_72 := dn2 hX5_putInOrder_70
theorem dX5_putInOrder_72 : decode cX5_putInOrder 72 = .ok (.isub, 1) := dk100 hX5_putInOrder_72
theorem hX5_putInOrder_73 : cX5_putInOrder.data.toList.drop 73 = sX5_putInOrder_73 := dn1 hX5_putInOrder_72
theorem dX5_putInOrder_73 : decode cX5_putInOrder 73 = .ok (.aload_n 0, 1) := dk42 hX5_putInOrder_73
theorem hX5_putInOrder_74 : cX5_putInOrder.data.toList.drop 74 = sX5_putInOrder_74 := dn1 hX5_putInOrder_73
theorem dX5_putInOrder_74 : decode cX5_putInOrder 74 = .ok (.getfield 18, 3) := dk180 hX5_putInOrder_74 rfl
theorem hX5_putInOrder_77 : cX5_putInOrder.data.toList.drop 77 = sX5_putInOrder_77 := dn3 hX5_putInOrder_74
theorem dX5_putInOrder_77 : decode cX5_putInOrder 77 = .ok (.iload 7, 2) := dk21 hX5_putInOrder_77 rfl
theorem hX5_putInOrder_79 : cX5_putInOrder.data.toList.drop 79 = sX5_putInOrder_79 := dn2 hX5_putInOrder_77
theorem dX5_putInOrder_79 : decode cX5_putInOrder 79 = .ok (.iaload, 1) := dk46 hX5_putInOrder_79
theorem hX5_putInOrder_80 : cX5_putInOrder.data.toList.drop 80 = sX5_putInOrder_80 := dn1 hX5_putInOrder_79
theorem dX5_putInOrder_80 : decode cX5_putInOrder 80 = .ok (.iastore, 1) := dk79 hX5_putInOrder_80
theorem hX5_putInOrder_81 : cX5_putInOrder.data.toList.drop 81 = sX5_putInOrder_81 := dn1 hX5_putInOrder_80
theorem dX5_putInOrder_81 : decode cX5_putInOrder 81 = .ok (.iload 7, 2) := dk21 hX5_putInOrder_81 rfl
theorem hX5_putInOrder_83 : cX5_putInOrder.data.toList.drop 83 = sX5_putInOrder_83 := dn2 hX5_putInOrder_81
theorem dX5_putInOrder_83 : decode cX5_putInOrder 83 = .ok (.istore 8, 2) := dk54 hX5_putInOrder_83 rfl
theorem hX5_putInOrder_85 : cX5_putInOrder.data.toList.drop 85 = sX5_putInOrder_85 := dn2 hX5_putInOrder_83
theorem dX5_putInOrder_85 : decode cX5_putInOrder 85 = .ok (.iload 8, 2) := dk21 hX5_putInOrder_85 rfl
theorem hX5_putInOrder_87 : cX5_putInOrder.data.toList.drop 87 = sX5_putInOrder_87 := dn2 hX5_putInOrder_85
theorem dX5_putInOrder_87 : decode cX5_putInOrder 87 = .ok (.iload 6, 2) := dk21 hX5_putInOrder_87 rfl
theorem hX5_putInOrder_89 : cX5_putInOrder.data.toList.drop 89 = sX5_putInOrder_89 := dn2 hX5_putInOrder_87
theorem dX5_putInOrder_89 : decode cX5_putInOrder 89 = .ok (.iconst 1, 1) := dk4 hX5_putInOrder_89
theorem hX5_putInOrder_90 : cX5_putInOrder.data.toList.drop 90 = sX5_putInOrder_90 := dn1 hX5_putInOrder_89
theorem dX5_putInOrder_90 : decode cX5_putInOrder 90 = .ok (.isub, 1) := dk100 hX5_putInOrder_90
theorem hX5_putInOrder_91 : cX5_putInOrder.data.toList.drop 91 = sX5_putInOrder_91 := dn1 hX5_putInOrder_90
theorem dX5_putInOrder_91 : decode cX5_putInOrder 91 = .ok (.if_icmp .ge 25, 3) := dk162 hX5_putInOrder_91 (by decide)
theorem hX5_putInOrder_94 : cX5_putInOrder.data.toList.drop 94 = sX5_putInOrder_94 := dn3 hX5_putInOrder_91
theorem dX5_putInOrder_94 : decode cX5_putInOrder 94 = .ok (.aload_n 0, 1) := dk42 hX5_putInOrder_94
theorem hX5_putInOrder_95 : cX5_putInOrder.data.toList.drop 95 = sX5_putInOrder_95 := dn1 hX5_putInOrder_94
theorem dX5_putInOrder_95 : decode cX5_putInOrder 95 = .ok (.getfield 18, 3) := dk180 hX5_putInOrder_95 rfl
theorem hX5_putInOrder_98 : cX5_putInOrder.data.toList.drop 98 = sX5_putInOrder_98 := dn3 hX5_putInOrder_95
theorem dX5_putInOrder_98 : decode cX5_putInOrder 98 = .ok (.iload 8, 2) := dk21 hX5_putInOrder_98 rfl
theorem hX5_putInOrder_100 : cX5_putInOrder.data.toList.drop 100 = sX5_putInOrder_100 := dn2 hX5_putInOrder_98
theorem dX5_putInOrder_100 : decode cX5_putInOrder 100 = .ok (.aload_n 0, 1) := dk42 hX5_putInOrder_100
theorem hX5_putInOrder_101 : cX5_putInOrder.data.toList.drop 101 = sX5_putInOrder_101 := dn1 hX5_putInOrder_100
theorem dX5_putInOrder_101 : decode cX5_putInOrder 101 = .ok (.getfield 18, 3) := dk180 hX5_putInOrder_101 rfl
theorem hX5_putInOrder_104 : cX5_putInOrder.data.toList.drop 104 = sX5_putInOrder_104 := dn3 hX5_putInOrder_101
theorem dX5_putInOrder_104 : decode cX5_putInOrder 104 = .ok (.iload 8, 2) := dk21 hX5_putInOrder_104 rfl
theorem hX5_putInOrder_106 : cX5_putInOrder.data.toList.drop 106 = sX5_putInOrder_106 := dn2 hX5_putInOrder_104
theorem dX5_putInOrder_106 : decode cX5_putInOrder 106 = .ok (.iconst 1, 1) := dk4 hX5_putInOrder_106
theorem hX5_putInOrder_107 : cX5_putInOrder.data.toList.drop 107 = sX5_putInOrder_107 := dn1 hX5_putInOrder_106
theorem dX5_putInOrder_107 : decode cX5_putInOrder 107 = .ok (.iadd, 1) := dk96 hX5_putInOrder_107
theorem hX5_putInOrder_108 : cX5_putInOrder.data.toList.drop 108 = sX5_putInOrder_108 := dn1 hX5_putInOrder_107
theorem dX5_putInOrder_108 : decode cX5_putInOrder 108 = .ok (.iaload, 1) := dk46 hX5_putInOrder_108
theorem hX5_putInOrder_109 : cX5_putInOrder.data.toList.drop 109 = sX5_putInOrder_109 := dn1 hX5_putInOrder_108
theorem dX5_putInOrder_109 : decode cX5_putInOrder 109 = .ok (.iastore, 1) := dk79 hX5_putInOrder_109
theorem hX5_putInOrder_110 : cX5_putInOrder.data.toList.drop 110 = sX5_putInOrder_110 := dn1 hX5_putInOrder_109
theorem dX5_putInOrder_110 : decode cX5_putInOrder 110 = .ok (.iinc 8 1, 3) := dk132 hX5_putInOrder_110 rfl (by decide)
theorem hX5_putInOrder_113 : cX5_putInOrder.data.toList.drop 113 = sX5_putInOrder_113 := dn3 hX5_putInOrder_110
theorem dX5_putInOrder_113 : decode cX5_putInOrder 113 = .ok (.goto (-28), 3) := dk167 hX5_putInOrder_113 (by decide)
theorem hX5_putInOrder_116 : cX5_putInOrder.data.toList.drop 116 = sX5_putInOrder_116 := dn3 hX5_putInOrder_113
theorem dX5_putInOrder_116 : decode cX5_putInOrder 116 = .ok (.iinc 6 (-1), 3) := dk132 hX5_putInOrder_116 rfl (by decide)
theorem hX5_putInOrder_119 : cX5_putInOrder.data.toList.drop 119 = sX5_putInOrder_119 := dn3 hX5_putInOrder_116
theorem dX5_putInOrder_119 : decode cX5_putInOrder 119 = .ok (.goto (-76), 3) := dk167 hX5_putInOrder_119 (by decide)
theorem hX5_putInOrder_122 : cX5_putInOrder.data.toList.drop 122 = sX5_putInOrder_122 := dn3 hX5_putInOrder_119
theorem dX5_putInOrder_122 : decode cX5_putInOrder 122 = .ok (.return_, 1) := dk177 hX5_putInOrder_122
noncomputable def sX5_sendBack_57 : List UInt8 := 177 :: []
noncomputable def sX5_sendBack_56 : List UInt8 := 79 :: sX5_sendBack_57
noncomputable def sX5_sendBack_54 : List UInt8 := 21 :: 4 :: sX5_sendBack_56
noncomputable def sX5_sendBack_53 : List UInt8 := 96 :: sX5_sendBack_54
noncomputable def sX5_sendBack_52 : List UInt8 := 28 :: sX5_sendBack_53
noncomputable def sX5_sendBack_51 : List UInt8 := 29 :: sX5_sendBack_52
noncomputable def sX5_sendBack_48 : List UInt8 := 180 :: 0 :: 15 :: sX5_sendBack_51
noncomputable def sX5_sendBack_47 : List UInt8 := 42 :: sX5_sendBack_48
noncomputable def sX5_sendBack_44 : List UInt8 := 167 :: 255 :: 227 :: sX5_sendBack_47
noncomputable def sX5_sendBack_41 : List UInt8 := 132 :: 5 :: 1 :: sX5_sendBack_44
noncomputable def sX5_sendBack_40 : List UInt8 := 79 :: sX5_sendBack_41
noncomputable def sX5_sendBack_39 : List UInt8 := 46 :: sX5_sendBack_40
noncomputable def sX5_sendBack_38 : List UInt8 := 96 :: sX5_sendBack_39
noncomputable def sX5_sendBack_37 : List UInt8 := 4 :: sX5_sendBack_38
noncomputable def sX5_sendBack_36 : List UInt8 := 96 :: sX5_sendBack_37
noncomputable def sX5_sendBack_34 : List UInt8 := 21 :: 5 :: sX5_sendBack_36
noncomputable def sX5_sendBack_33 : List UInt8 := 29 :: sX5_sendBack_34
noncomputable def sX5_sendBack_30 : List UInt8 := 180 :: 0 :: 15 :: sX5_sendBack_33
noncomputable def sX5_sendBack_29 : List UInt8 := 42 :: sX5_sendBack_30
noncomputable def sX5_sendBack_28 : List UInt8 := 96 :: sX5_sendBack_29
noncomputable def sX5_sendBack_26 : List UInt8 := 21 :: 5 :: sX5_sendBack_28
noncomputable def sX5_sendBack_25 : List UInt8 := 29 :: sX5_sendBack_26
noncomputable def sX5_sendBack_22 : List UInt8 := 180 :: 0 :: 15 :: sX5_sendBack_25
noncomputable def sX5_sendBack_21 : List UInt8 := 42 :: sX5_sendBack_22
noncomputable def sX5_sendBack_18 : List UInt8 := 162 :: 0 :: 29 :: sX5_sendBack_21
noncomputable def sX5_sendBack_17 : List UInt8 := 28 :: sX5_sendBack_18
noncomputable def sX5_sendBack_15 : List UInt8 := 21 :: 5 :: sX5_sendBack_17
noncomputable def sX5_sendBack_13 : List UInt8 := 54 :: 5 :: sX5_sendBack_15
noncomputable def sX5_sendBack_12 : List UInt8 := 3 :: sX5_sendBack_13
noncomputable def sX5_sendBack_10 : List UInt8 := 54 :: 4 :: sX5_sendBack_12
noncomputable def sX5_sendBack_9 : List UInt8 := 46 :: sX5_sendBack_10
noncomputable def sX5_sendBack_8 : List UInt8 := 29 :: sX5_sendBack_9
noncomputable def sX5_sendBack_5 : List UInt8 := 180 :: 0 :: 15 :: sX5_sendBack_8
noncomputable def sX5_sendBack_4 : List UInt8 := 42 :: sX5_sendBack_5
noncomputable def sX5_sendBack_3 : List UInt8 := 62 :: sX5_sendBack_4
noncomputable def sX5_sendBack_2 : List UInt8 := 104 :: sX5_sendBack_3
noncomputable def sX5_sendBack_1 : List UInt8 := 7 :: sX5_sendBack_2
noncomputable def sX5_sendBack_0 : List UInt8 := 27 :: sX5_sendBack_1
set_option maxRecDepth 100000 in
theorem hX5_sendBack_0 : cX5_sendBack.data.toList.drop 0 = sX5_sendBack_0 := by decide +kernel
theorem dX5_sendBack_0 : decode cX5_sendBack 0 = .ok (.iload_n 1, 1) := dk27 hX5_sendBack_0
theorem hX5_sendBack_1 : cX5_sendBack.data.toList.drop 1 = sX5_sendBack_1 := dn1 hX5_sendBack_0
theorem dX5_sendBack_1 : decode cX5_sendBack 1 = .ok (.iconst 4, 1) := dk7 hX5_sendBack_1
theorem hX5_sendBack_2 : cX5_sendBack.data.toList.drop 2 = sX5_sendBack_2 := dn1 hX5_sendBack_1
theorem dX5_sendBack_2 : decode cX5_sendBack 2 = .ok (.imul, 1) := dk104 hX5_sendBack_2
theorem hX5_sendBack_3 : cX5_sendBack.data.toList.drop 3 = sX5_sendBack_3 := dn1 hX5_sendBack_2
theorem dX5_sendBack_3 : decode cX5_sendBack 3 = .ok (.istore_n 3, 1) := dk62 hX5_sendBack_3
theorem hX5_sendBack_4 : cX5_sendBack.data.toList.drop 4 = sX5_sendBack_4 := dn1 hX5_sendBack_3
theorem dX5_sendBack_4 : decode cX5_sendBack 4 = .ok (.aload_n 0, 1) := dk42 hX5_sendBack_4
theorem hX5_sendBack_5 : cX5_sendBack.data.toList.drop 5 = sX5_sendBack_5 := dn1 hX5_sendBack_4
theorem dX5_sendBack_5 : decode cX5_sendBack 5 = .ok (.getfield 15, 3) := dk180 hX5_sendBack_5 rfl
theorem hX5_sendBack_8 : cX5_sendBack.data.toList.drop 8 = sX5_sendBack_8 := dn3 hX5_sendBack_5
theorem dX5_sendBack_8 : decode cX5_sendBack 8 = .ok (.iload_n 3, 1) := dk29 hX5_sendBack_8
theorem hX5_sendBack_9 : cX5_sendBack.data.toList.drop 9 = sX5_sendBack_9 := dn1 hX5_sendBack_8
theorem dX5_sendBack_9 : decode cX5_sendBack 9 = .ok (.iaload, 1) := dk46 hX5_sendBack_9
theorem hX5_sendBack_10 : cX5_sendBack.data.toList.drop 10 = sX5_sendBack_10 := dn1 hX5_sendBack_9
theorem dX5_sendBack_10 : decode cX5_sendBack 10 = .ok (.istore 4, 2) := dk54 hX5_sendBack_10 rfl
theorem hX5_sendBack_12 : cX5_sendBack.data.toList.drop 12 = sX5_sendBack_12 := dn2 hX5_sendBack_10
theorem dX5_sendBack_12 : decode cX5_sendBack 12 = .ok (.iconst 0, 1) := dk3 hX5_sendBack_12
theorem hX5_sendBack_13 : cX5_sendBack.data.toList.drop 13 = sX5_sendBack_13 := dn1 hX5_sendBack_12
theorem dX5_sendBack_13 : decode cX5_sendBack 13 = .ok (.istore 5, 2) := dk54 hX5_sendBack_13 rfl
theorem hX5_sendBack_15 : cX5_sendBack.data.toList.drop 15 = sX5_sendBack_15 := dn2 hX5_sendBack_13
theorem dX5_sendBack_15 : decode cX5_sendBack 15 = .ok (.iload 5, 2) := dk21 hX5_sendBack_15 rfl
theorem hX5_sendBack_17 : cX5_sendBack.data.toList.drop 17 = sX5_sendBack_17 := dn2 hX5_sendBack_15
theorem dX5_sendBack_17 : decode cX5_sendBack 17 = .ok (.iload_n 2, 1) := dk28 hX5_sendBack_17
theorem hX5_sendBack_18 : cX5_sendBack.data.toList.drop 18 = sX5_sendBack_18 := dn1 hX5_sendBack_17
theorem dX5_sendBack_18 : decode cX5_sendBack 18 = .ok (.if_icmp .ge 29, 3) := dk162 hX5_sendBack_18 (by decide)
theorem hX5_sendBack_21 : cX5_sendBack.data.toList.drop 21 = sX5_sendBack_21 := dn3 hX5_sendBack_18
theorem dX5_sendBack_21 : decode cX5_sendBack 21 = .ok (.aload_n 0, 1) := dk42 hX5_sendBack_21
theorem hX5_sendBack_22 : cX5_sendBack.data.toList.drop 22 = sX5_sendBack_22 := dn1 hX5_sendBack_21
theorem dX5_sendBack_22 : decode cX5_sendBack 22 = .ok (.getfield 15, 3) := dk180 hX5_sendBack_22 rfl
theorem hX5_sendBack_25 : cX5_sendBack.data.toList.drop 25 = sX5_sendBack_25 := dn3 hX5_sendBack_22
theorem dX5_sendBack_25 : decode cX5_sendBack 25 = .ok (.iload_n 3, 1) := dk29 hX5_sendBack_25
theorem hX5_sendBack_26 : cX5_sendBack.data.toList.drop 26 = sX5_sendBack_26 := dn1 hX5_sendBack_25
theorem dX5_sendBack_26 : decode cX5_sendBack 26 = .ok (.iload 5, 2) := dk21 hX5_sendBack_26 rfl
theorem hX5_sendBack_28 : cX5_sendBack.data.toList.drop 28 = sX5_sendBack_28 := dn2 hX5_sendBack_26
theorem dX5_sendBack_28 : decode cX5_sendBack 28 = .ok (.iadd, 1) := dk96 hX5_sendBack_28
theorem hX5_sendBack_29 : cX5_sendBack.data.toList.drop 29 = sX5_sendBack_29 := dn1 hX5_sendBack_28
theorem dX5_sendBack_29 : decode cX5_sendBack 29 = .ok (.aload_n 0, 1) := dk42 hX5_sendBack_29
theorem hX5_sendBack_30 : cX5_sendBack.data.toList.drop 30 = sX5_sendBack_30 := dn1 hX5_sendBack_29
theorem dX5_sendBack_30 : decode cX5_sendBack 30 = .ok (.getfield 15, 3) := dk180 hX5_sendBack_30 rfl
theorem hX5_sendBack_33 : cX5_sendBack.data.toList.drop 33 = sX5_sendBack_33 := dn3 hX5_sendBack_30
theorem dX5_sendBack_33 : decode cX5_sendBack 33 = .ok (.iload_n 3, 1) := dk29 hX5_sendBack_33
theorem hX5_sendBack_34 : cX5_sendBack.data.toList.drop 34 = sX5_sendBack_34 := dn1 hX5_sendBack_33
theorem dX5_sendBack_34 : decode cX5_sendBack 34 = .ok (.iload 5, 2) := dk21 hX5_sendBack_34 rfl
theorem hX5_sendBack_36 : cX5_sendBack.data.toList.drop 36 = sX5_sendBack_36 := dn2 hX5_sendBack_34
theorem dX5_sendBack_36 : decode cX5_sendBack 36 = .ok (.iadd, 1) := dk96 hX5_sendBack_36
theorem hX5_sendBack_37 : cX5_sendBack.data.toList.drop 37 = sX5_sendBack_37 := dn1 hX5_sendBack_36
theorem dX5_sendBack_37 : decode cX5_sendBack 37 = .ok (.iconst 1, 1) := dk4 hX5_sendBack_37
theorem hX5_sendBack_38 : cX5_sendBack.data.toList.drop 38 = sX5_sendBack_38 := dn1 hX5_sendBack_37
theorem dX5_sendBack_38 : decode cX5_sendBack 38 = .ok (.iadd, 1) := dk96 hX5_sendBack_38
theorem hX5_sendBack_39 : cX5_sendBack.data.toList.drop 39 = sX5_sendBack_39 := dn1 hX5_sendBack_38
theorem dX5_sendBack_39 : decode cX5_sendBack 39 = .ok (.iaload, 1) := dk46 hX5_sendBack_39
theorem hX5_sendBack_40 : cX5_sendBack.data.toList.drop 40 = sX5_sendBack_40 := dn1 hX5_sendBack_39
theorem dX5_sendBack_40 : decode cX5_sendBack 40 = .ok (.iastore, 1) := dk79 hX5_sendBack_40
theorem hX5_sendBack_41 : cX5_sendBack.data.toList.drop 41 = sX5_sendBack_41 := dn1 hX5_sendBack_40
theorem dX5_sendBack_41 : decode cX5_sendBack 41 = .ok (.iinc 5 1, 3) := dk132 hX5_sendBack_41 rfl (by decide)
theorem hX5_sendBack_44 : cX5_sendBack.data.toList.drop 44 = sX5_sendBack_44 := dn3 hX5_sendBack_41
theorem dX5_sendBack_44 : decode cX5_sendBack 44 = .ok (.goto (-29), 3) := dk167 hX5_sendBack_44 (by decide)
theorem hX5_sendBack_47 : cX5_sendBack.data.toList.drop 47 = sX5_sendBack_47 := dn3 hX5_sendBack_44
theorem dX5_sendBack_47 : decode cX5_sendBack 47 = .ok (.aload_n 0, 1) := dk42 hX5_sendBack_47
theorem hX5_sendBack_48 : cX5_sendBack.data.toList.drop 48 = sX5_sendBack_48 := dn1 hX5_sendBack_47
theorem dX5_sendBack_48 : decode cX5_sendBack 48 = .ok (.getfield 15, 3) := dk180 hX5_sendBack_48 rfl
theorem hX5_sendBack_51 : cX5_sendBack.data.toList.drop 51 = sX5_sendBack_51 := dn3 hX5_sendBack_48
theorem dX5_sendBack_51 : decode cX5_sendBack 51 = .ok (.iload_n 3, 1) := dk29 hX5_sendBack_51
theorem hX5_sendBack_52 : cX5_sendBack.data.toList.drop 52 = sX5_sendBack_52 := dn1 hX5_sendBack_51
theorem dX5_sendBack_52 : decode cX5_sendBack 52 = .ok (.iload_n 2, 1) := dk28 hX5_sendBack_52
theorem hX5_sendBack_53 : cX5_sendBack.data.toList.drop 53 = sX5_sendBack_53 := dn1 hX5_sendBack_52
theorem dX5_sendBack_53 : decode cX5_sendBack 53 = .ok (.iadd, 1) := dk96 hX5_sendBack_53
theorem hX5_sendBack_54 : cX5_sendBack.data.toList.drop 54 = sX5_sendBack_54 := dn1 hX5_sendBack_53
theorem dX5_sendBack_54 : decode cX5_sendBack 54 = .ok (.iload 4, 2) := dk21 hX5_sendBack_54 rfl
theorem hX5_sendBack_56 : cX5_sendBack.data.toList.drop 56 = sX5_sendBack_56 := dn2 hX5_sendBack_54
theorem dX5_sendBack_56 : decode cX5_sendBack 56 = .ok (.iastore, 1) := dk79 hX5_sendBack_56
theorem hX5_sendBack_57 : cX5_sendBack.data.toList.drop 57 = sX5_sendBack_57 := dn1 hX5_sendBack_56
theorem dX5_sendBack_57 : decode cX5_sendBack 57 = .ok (.return_, 1) := dk177 hX5_sendBack_57
noncomputable def sX5_standAsTold_50 : List UInt8 := 177 :: []
noncomputable def sX5_standAsTold_47 : List UInt8 := 167 :: 255 :: 211 :: sX5_standAsTold_50
noncomputable def sX5_standAsTold_44 : List UInt8 := 132 :: 2 :: 1 :: sX5_standAsTold_47
noncomputable def sX5_standAsTold_41 : List UInt8 := 167 :: 255 :: 237 :: sX5_standAsTold_44
noncomputable def sX5_standAsTold_38 : List UInt8 := 132 :: 3 :: 1 :: sX5_standAsTold_41
noncomputable def sX5_standAsTold_37 : List UInt8 := 79 :: sX5_standAsTold_38
noncomputable def sX5_standAsTold_36 : List UInt8 := 29 :: sX5_standAsTold_37
noncomputable def sX5_standAsTold_35 : List UInt8 := 96 :: sX5_standAsTold_36
noncomputable def sX5_standAsTold_34 : List UInt8 := 29 :: sX5_standAsTold_35
noncomputable def sX5_standAsTold_33 : List UInt8 := 104 :: sX5_standAsTold_34
noncomputable def sX5_standAsTold_32 : List UInt8 := 7 :: sX5_standAsTold_33
noncomputable def sX5_standAsTold_31 : List UInt8 := 28 :: sX5_standAsTold_32
noncomputable def sX5_standAsTold_28 : List UInt8 := 180 :: 0 :: 15 :: sX5_standAsTold_31
noncomputable def sX5_standAsTold_27 : List UInt8 := 42 :: sX5_standAsTold_28
noncomputable def sX5_standAsTold_24 : List UInt8 := 162 :: 0 :: 20 :: sX5_standAsTold_27
noncomputable def sX5_standAsTold_23 : List UInt8 := 7 :: sX5_standAsTold_24
noncomputable def sX5_standAsTold_22 : List UInt8 := 29 :: sX5_standAsTold_23
noncomputable def sX5_standAsTold_21 : List UInt8 := 62 :: sX5_standAsTold_22
noncomputable def sX5_standAsTold_20 : List UInt8 := 3 :: sX5_standAsTold_21
noncomputable def sX5_standAsTold_19 : List UInt8 := 79 :: sX5_standAsTold_20
noncomputable def sX5_standAsTold_18 : List UInt8 := 46 :: sX5_standAsTold_19
noncomputable def sX5_standAsTold_17 : List UInt8 := 28 :: sX5_standAsTold_18
noncomputable def sX5_standAsTold_14 : List UInt8 := 180 :: 0 :: 21 :: sX5_standAsTold_17
noncomputable def sX5_standAsTold_13 : List UInt8 := 43 :: sX5_standAsTold_14
noncomputable def sX5_standAsTold_12 : List UInt8 := 28 :: sX5_standAsTold_13
noncomputable def sX5_standAsTold_9 : List UInt8 := 180 :: 0 :: 9 :: sX5_standAsTold_12
noncomputable def sX5_standAsTold_8 : List UInt8 := 42 :: sX5_standAsTold_9
noncomputable def sX5_standAsTold_5 : List UInt8 := 162 :: 0 :: 45 :: sX5_standAsTold_8
noncomputable def sX5_standAsTold_3 : List UInt8 := 16 :: 18 :: sX5_standAsTold_5
noncomputable def sX5_standAsTold_2 : List UInt8 := 28 :: sX5_standAsTold_3
noncomputable def sX5_standAsTold_1 : List UInt8 := 61 :: sX5_standAsTold_2
noncomputable def sX5_standAsTold_0 : List UInt8 := 3 :: sX5_standAsTold_1
set_option maxRecDepth 100000 in
theorem hX5_standAsTold_0 : cX5_standAsTold.data.toList.drop 0 = sX5_standAsTold_0 := by decide +kernel
theorem dX5_standAsTold_0 : decode cX5_standAsTold 0 = .ok (.iconst 0, 1) := dk3 hX5_standAsTold_0
theorem hX5_standAsTold_1 : cX5_standAsTold.data.toList.drop 1 = sX5_standAsTold_1 := dn1 hX5_standAsTold_0
theorem dX5_standAsTold_1 : decode cX5_standAsTold 1 = .ok (.istore_n 2, 1) := dk61 hX5_standAsTold_1
theorem hX5_standAsTold_2 : cX5_standAsTold.data.toList.drop 2 = sX5_standAsTold_2 := dn1 hX5_standAsTold_1
theorem dX5_standAsTold_2 : decode cX5_standAsTold 2 = .ok (.iload_n 2, 1) := dk28 hX5_standAsTold_2
theorem hX5_standAsTold_3 : cX5_standAsTold.data.toList.drop 3 = sX5_standAsTold_3 := dn1 hX5_standAsTold_2
theorem dX5_standAsTold_3 : decode cX5_standAsTold 3 = .ok (.bipush 18, 2) := dk16 hX5_standAsTold_3 (by decide)
theorem hX5_standAsTold_5 : cX5_standAsTold.data.toList.drop 5 = sX5_standAsTold_5 := dn2 hX5_standAsTold_3
theorem dX5_standAsTold_5 : decode cX5_standAsTold 5 = .ok (.if_icmp .ge 45, 3) := dk162 hX5_standAsTold_5 (by decide)
theorem hX5_standAsTold_8 : cX5_standAsTold.data.toList.drop 8 = sX5_standAsTold_8 := dn3 hX5_standAsTold_5
theorem dX5_standAsTold_8 : decode cX5_standAsTold 8 = .ok (.aload_n 0, 1) := dk42 hX5_standAsTold_8
theorem hX5_standAsTold_9 : cX5_standAsTold.data.toList.drop 9 = sX5_standAsTold_9 := dn1 hX5_standAsTold_8
theorem dX5_standAsTold_9 : decode cX5_standAsTold 9 = .ok (.getfield 9, 3) := dk180 hX5_standAsTold_9 rfl
theorem hX5_standAsTold_12 : cX5_standAsTold.data.toList.drop 12 = sX5_standAsTold_12 := dn3 hX5_standAsTold_9
theorem dX5_standAsTold_12 : decode cX5_standAsTold 12 = .ok (.iload_n 2, 1) := dk28 hX5_standAsTold_12
theorem hX5_standAsTold_13 : cX5_standAsTold.data.toList.drop 13 = sX5_standAsTold_13 := dn1 hX5_standAsTold_12
theorem dX5_standAsTold_13 : decode cX5_standAsTold 13 = .ok (.aload_n 1, 1) := dk43 hX5_standAsTold_13
theorem hX5_standAsTold_14 : cX5_standAsTold.data.toList.drop 14 = sX5_standAsTold_14 := dn1 hX5_standAsTold_13
theorem dX5_standAsTold_14 : decode cX5_standAsTold 14 = .ok (.getfield 21, 3) := dk180 hX5_standAsTold_14 rfl
theorem hX5_standAsTold_17 : cX5_standAsTold.data.toList.drop 17 = sX5_standAsTold_17 := dn3 hX5_standAsTold_14
theorem dX5_standAsTold_17 : decode cX5_standAsTold 17 = .ok (.iload_n 2, 1) := dk28 hX5_standAsTold_17
theorem hX5_standAsTold_18 : cX5_standAsTold.data.toList.drop 18 = sX5_standAsTold_18 := dn1 hX5_standAsTold_17
theorem dX5_standAsTold_18 : decode cX5_standAsTold 18 = .ok (.iaload, 1) := dk46 hX5_standAsTold_18
theorem hX5_standAsTold_19 : cX5_standAsTold.data.toList.drop 19 = sX5_standAsTold_19 := dn1 hX5_standAsTold_18
theorem dX5_standAsTold_19 : decode cX5_standAsTold 19 = .ok (.iastore, 1) := dk79 hX5_standAsTold_19
theorem hX5_standAsTold_20 : cX5_standAsTold.data.toList.drop 20 = sX5_standAsTold_20 := dn1 hX5_standAsTold_19
theorem dX5_standAsTold_20 : decode cX5_standAsTold 20 = .ok (.iconst 0, 1) := dk3 hX5_standAsTold_20
theorem hX5_standAsTold_21 : cX5_standAsTold.data.toList.drop 21 = sX5_standAsTold_21 := dn1 hX5_standAsTold_20
theorem dX5_standAsTold_21 : decode cX5_standAsTold 21 = .ok (.istore_n 3, 1) := dk62 hX5_standAsTold_21
theorem hX5_standAsTold_22 : cX5_standAsTold.data.toList.drop 22 = sX5_standAsTold_22 := dn1 hX5_standAsTold_21
theorem dX5_standAsTold_22 : decode cX5_standAsTold 22 = .ok (.iload_n 3, 1) := dk29 hX5_standAsTold_22
theorem hX5_standAsTold_23 : cX5_standAsTold.data.toList.drop 23 = sX5_standAsTold_23 := dn1 hX5_standAsTold_22
theorem dX5_standAsTold_23 : decode cX5_standAsTold 23 = .ok (.iconst 4, 1) := dk7 hX5_standAsTold_23
theorem hX5_standAsTold_24 : cX5_standAsTold.data.toList.drop 24 = sX5_standAsTold_24 := dn1 hX5_standAsTold_23
theorem dX5_standAsTold_24 : decode cX5_standAsTold 24 = .ok (.if_icmp .ge 20, 3) := dk162 hX5_standAsTold_24 (by decide)
theorem hX5_standAsTold_27 : cX5_standAsTold.data.toList.drop 27 = sX5_standAsTold_27 := dn3 hX5_standAsTold_24
theorem dX5_standAsTold_27 : decode cX5_standAsTold 27 = .ok (.aload_n 0, 1) := dk42 hX5_standAsTold_27
theorem hX5_standAsTold_28 : cX5_standAsTold.data.toList.drop 28 = sX5_standAsTold_28 := dn1 hX5_standAsTold_27
theorem dX5_standAsTold_28 : decode cX5_standAsTold 28 = .ok (.getfield 15, 3) := dk180 hX5_standAsTold_28 rfl
theorem hX5_standAsTold_31 : cX5_standAsTold.data.toList.drop 31 = sX5_standAsTold_31 := dn3 hX5_standAsTold_28
theorem dX5_standAsTold_31 : decode cX5_standAsTold 31 = .ok (.iload_n 2, 1) := dk28 hX5_standAsTold_31
theorem hX5_standAsTold_32 : cX5_standAsTold.data.toList.drop 32 = sX5_standAsTold_32 := dn1 hX5_standAsTold_31
theorem dX5_standAsTold_32 : decode cX5_standAsTold 32 = .ok (.iconst 4, 1) := dk7 hX5_standAsTold_32
theorem hX5_standAsTold_33 : cX5_standAsTold.data.toList.drop 33 = sX5_standAsTold_33 := dn1 hX5_standAsTold_32
theorem dX5_standAsTold_33 : decode cX5_standAsTold 33 = .ok (.imul, 1) := dk104 hX5_standAsTold_33
theorem hX5_standAsTold_34 : cX5_standAsTold.data.toList.drop 34 = sX5_standAsTold_34 := dn1 hX5_standAsTold_33
theorem dX5_standAsTold_34 : decode cX5_standAsTold 34 = .ok (.iload_n 3, 1) := dk29 hX5_standAsTold_34
theorem hX5_standAsTold_35 : cX5_standAsTold.data.toList.drop 35 = sX5_standAsTold_35 := dn1 hX5_standAsTold_34
theorem dX5_standAsTold_35 : decode cX5_standAsTold 35 = .ok (.iadd, 1) := dk96 hX5_standAsTold_35
theorem hX5_standAsTold_36 : cX5_standAsTold.data.toList.drop 36 = sX5_standAsTold_36 := dn1 hX5_standAsTold_35
theorem dX5_standAsTold_36 : decode cX5_standAsTold 36 = .ok (.iload_n 3, 1) := dk29 hX5_standAsTold_36
theorem hX5_standAsTold_37 : cX5_standAsTold.data.toList.drop 37 = sX5_standAsTold_37 := dn1 hX5_standAsTold_36
theorem dX5_standAsTold_37 : decode cX5_standAsTold 37 = .ok (.iastore, 1) := dk79 hX5_standAsTold_37
theorem hX5_standAsTold_38 : cX5_standAsTold.data.toList.drop 38 = sX5_standAsTold_38 := dn1 hX5_standAsTold_37
theorem dX5_standAsTold_38 : decode cX5_standAsTold 38 = .ok (.iinc 3 1, 3) := dk132 hX5_standAsTold_38 rfl (by decide)
theorem hX5_standAsTold_41 : cX5_standAsTold.data.toList.drop 41 = sX5_standAsTold_41 := dn3 hX5_standAsTold_38
theorem dX5_standAsTold_41 : decode cX5_standAsTold 41 = .ok (.goto (-19), 3) := dk167 hX5_standAsTold_41 (by decide)
theorem hX5_standAsTold_44 : cX5_standAsTold.data.toList.drop 44 = sX5_standAsTold_44 := dn3 hX5_standAsTold_41
theorem dX5_standAsTold_44 : decode cX5_standAsTold 44 = .ok (.iinc 2 1, 3) := dk132 hX5_standAsTold_44 rfl (by decide)
theorem hX5_standAsTold_47 : cX5_standAsTold.data.toList.drop 47 = sX5_standAsTold_47 := dn3 hX5_standAsTold_44
theorem dX5_standAsTold_47 : decode cX5_standAsTold 47 = .ok (.goto (-45), 3) := dk167 hX5_standAsTold_47 (by decide)
theorem hX5_standAsTold_50 : cX5_standAsTold.data.toList.drop 50 = sX5_standAsTold_50 := dn3 hX5_standAsTold_47
theorem dX5_standAsTold_50 : decode cX5_standAsTold 50 = .ok (.return_, 1) := dk177 hX5_standAsTold_50
noncomputable def sX5_turnRound_60 : List UInt8 := 177 :: []
noncomputable def sX5_turnRound_57 : List UInt8 := 167 :: 255 :: 207 :: sX5_turnRound_60
noncomputable def sX5_turnRound_54 : List UInt8 := 132 :: 6 :: 1 :: sX5_turnRound_57
noncomputable def sX5_turnRound_53 : List UInt8 := 79 :: sX5_turnRound_54
noncomputable def sX5_turnRound_52 : List UInt8 := 46 :: sX5_turnRound_53
noncomputable def sX5_turnRound_51 : List UInt8 := 96 :: sX5_turnRound_52
noncomputable def sX5_turnRound_50 : List UInt8 := 100 :: sX5_turnRound_51
noncomputable def sX5_turnRound_49 : List UInt8 := 29 :: sX5_turnRound_50
noncomputable def sX5_turnRound_47 : List UInt8 := 21 :: 7 :: sX5_turnRound_49
noncomputable def sX5_turnRound_44 : List UInt8 := 167 :: 0 :: 7 :: sX5_turnRound_47
noncomputable def sX5_turnRound_42 : List UInt8 := 21 :: 7 :: sX5_turnRound_44
noncomputable def sX5_turnRound_39 : List UInt8 := 162 :: 0 :: 8 :: sX5_turnRound_42
noncomputable def sX5_turnRound_38 : List UInt8 := 29 :: sX5_turnRound_39
noncomputable def sX5_turnRound_36 : List UInt8 := 21 :: 7 :: sX5_turnRound_38
noncomputable def sX5_turnRound_34 : List UInt8 := 21 :: 5 :: sX5_turnRound_36
noncomputable def sX5_turnRound_31 : List UInt8 := 180 :: 0 :: 15 :: sX5_turnRound_34
noncomputable def sX5_turnRound_30 : List UInt8 := 43 :: sX5_turnRound_31
noncomputable def sX5_turnRound_29 : List UInt8 := 96 :: sX5_turnRound_30
noncomputable def sX5_turnRound_27 : List UInt8 := 21 :: 6 :: sX5_turnRound_29
noncomputable def sX5_turnRound_25 : List UInt8 := 21 :: 5 :: sX5_turnRound_27
noncomputable def sX5_turnRound_22 : List UInt8 := 180 :: 0 :: 15 :: sX5_turnRound_25
noncomputable def sX5_turnRound_21 : List UInt8 := 42 :: sX5_turnRound_22
noncomputable def sX5_turnRound_19 : List UInt8 := 54 :: 7 :: sX5_turnRound_21
noncomputable def sX5_turnRound_18 : List UInt8 := 96 :: sX5_turnRound_19
noncomputable def sX5_turnRound_16 : List UInt8 := 21 :: 4 :: sX5_turnRound_18
noncomputable def sX5_turnRound_14 : List UInt8 := 21 :: 6 :: sX5_turnRound_16
noncomputable def sX5_turnRound_11 : List UInt8 := 162 :: 0 :: 49 :: sX5_turnRound_14
noncomputable def sX5_turnRound_10 : List UInt8 := 29 :: sX5_turnRound_11
noncomputable def sX5_turnRound_8 : List UInt8 := 21 :: 6 :: sX5_turnRound_10
noncomputable def sX5_turnRound_6 : List UInt8 := 54 :: 6 :: sX5_turnRound_8
noncomputable def sX5_turnRound_5 : List UInt8 := 3 :: sX5_turnRound_6
noncomputable def sX5_turnRound_3 : List UInt8 := 54 :: 5 :: sX5_turnRound_5
noncomputable def sX5_turnRound_2 : List UInt8 := 104 :: sX5_turnRound_3
noncomputable def sX5_turnRound_1 : List UInt8 := 7 :: sX5_turnRound_2
noncomputable def sX5_turnRound_0 : List UInt8 := 28 :: sX5_turnRound_1
set_option maxRecDepth 100000 in
theorem hX5_turnRound_0 : cX5_turnRound.data.toList.drop 0 = sX5_turnRound_0 := by decide +kernel
theorem dX5_turnRound_0 : decode cX5_turnRound 0 = .ok (.iload_n 2, 1) := dk28 hX5_turnRound_0
theorem hX5_turnRound_1 : cX5_turnRound.data.toList.drop 1 = sX5_turnRound_1 := dn1 hX5_turnRound_0
theorem dX5_turnRound_1 : decode cX5_turnRound 1 = .ok (.iconst 4, 1) := dk7 hX5_turnRound_1
theorem hX5_turnRound_2 : cX5_turnRound.data.toList.drop 2 = sX5_turnRound_2 := dn1 hX5_turnRound_1
theorem dX5_turnRound_2 : decode cX5_turnRound 2 = .ok (.imul, 1) := dk104 hX5_turnRound_2
theorem hX5_turnRound_3 : cX5_turnRound.data.toList.drop 3 = sX5_turnRound_3 := dn1 hX5_turnRound_2
theorem dX5_turnRound_3 : decode cX5_turnRound 3 = .ok (.istore 5, 2) := dk54 hX5_turnRound_3 rfl
theorem hX5_turnRound_5 : cX5_turnRound.data.toList.drop 5 = sX5_turnRound_5 := dn2 hX5_turnRound_3
theorem dX5_turnRound_5 : decode cX5_turnRound 5 = .ok (.iconst 0, 1) := dk3 hX5_turnRound_5
theorem hX5_turnRound_6 : cX5_turnRound.data.toList.drop 6 = sX5_turnRound_6 := dn1 hX5_turnRound_5
theorem dX5_turnRound_6 : decode cX5_turnRound 6 = .ok (.istore 6, 2) := dk54 hX5_turnRound_6 rfl
theorem hX5_turnRound_8 : cX5_turnRound.data.toList.drop 8 = sX5_turnRound_8 := dn2 hX5_turnRound_6
theorem dX5_turnRound_8 : decode cX5_turnRound 8 = .ok (.iload 6, 2) := dk21 hX5_turnRound_8 rfl
theorem hX5_turnRound_10 : cX5_turnRound.data.toList.drop 10 = sX5_turnRound_10 := dn2 hX5_turnRound_8
theorem dX5_turnRound_10 : decode cX5_turnRound 10 = .ok (.iload_n 3, 1) := dk29 hX5_turnRound_10
theorem hX5_turnRound_11 : cX5_turnRound.data.toList.drop 11 = sX5_turnRound_11 := dn1 hX5_turnRound_10
theorem dX5_turnRound_11 : decode cX5_turnRound 11 = .ok (.if_icmp .ge 49, 3) := dk162 hX5_turnRound_11 (by decide)
theorem hX5_turnRound_14 : cX5_turnRound.data.toList.drop 14 = sX5_turnRound_14 := dn3 hX5_turnRound_11
theorem dX5_turnRound_14 : decode cX5_turnRound 14 = .ok (.iload 6, 2) := dk21 hX5_turnRound_14 rfl
theorem hX5_turnRound_16 : cX5_turnRound.data.toList.drop 16 = sX5_turnRound_16 := dn2 hX5_turnRound_14
theorem dX5_turnRound_16 : decode cX5_turnRound 16 = .ok (.iload 4, 2) := dk21 hX5_turnRound_16 rfl
theorem hX5_turnRound_18 : cX5_turnRound.data.toList.drop 18 = sX5_turnRound_18 := dn2 hX5_turnRound_16
theorem dX5_turnRound_18 : decode cX5_turnRound 18 = .ok (.iadd, 1) := dk96 hX5_turnRound_18
theorem hX5_turnRound_19 : cX5_turnRound.data.toList.drop 19 = sX5_turnRound_19 := dn1 hX5_turnRound_18
theorem dX5_turnRound_19 : decode cX5_turnRound 19 = .ok (.istore 7, 2) := dk54 hX5_turnRound_19 rfl
theorem hX5_turnRound_21 : cX5_turnRound.data.toList.drop 21 = sX5_turnRound_21 := dn2 hX5_turnRound_19
theorem dX5_turnRound_21 : decode cX5_turnRound 21 = .ok (.aload_n 0, 1) := dk42 hX5_turnRound_21
theorem hX5_turnRound_22 : cX5_turnRound.data.toList.drop 22 = sX5_turnRound_22 := dn1 hX5_turnRound_21
theorem dX5_turnRound_22 : decode cX5_turnRound 22 = .ok (.getfield 15, 3) := dk180 hX5_turnRound_22 rfl
theorem hX5_turnRound_25 : cX5_turnRound.data.toList.drop 25 = sX5_turnRound_25 := dn3 hX5_turnRound_22
theorem dX5_turnRound_25 : decode cX5_turnRound 25 = .ok (.iload 5, 2) := dk21 hX5_turnRound_25 rfl
theorem hX5_turnRound_27 : cX5_turnRound.data.toList.drop 27 = sX5_turnRound_27 := dn2 hX5_turnRound_25
theorem dX5_turnRound_27 : decode cX5_turnRound 27 = .ok (.iload 6, 2) := dk21 hX5_turnRound_27 rfl
theorem hX5_turnRound_29 : cX5_turnRound.data.toList.drop 29 = sX5_turnRound_29 := dn2 hX5_turnRound_27
theorem dX5_turnRound_29 : decode cX5_turnRound 29 = .ok (.iadd, 1) := dk96 hX5_turnRound_29
theorem hX5_turnRound_30 : cX5_turnRound.data.toList.drop 30 = sX5_turnRound_30 := dn1 hX5_turnRound_29
theorem dX5_turnRound_30 : decode cX5_turnRound 30 = .ok (.aload_n 1, 1) := dk43 hX5_turnRound_30
theorem hX5_turnRound_31 : cX5_turnRound.data.toList.drop 31 = sX5_turnRound_31 := dn1 hX5_turnRound_30
theorem dX5_turnRound_31 : decode cX5_turnRound 31 = .ok (.getfield 15, 3) := dk180 hX5_turnRound_31 rfl
theorem hX5_turnRound_34 : cX5_turnRound.data.toList.drop 34 = sX5_turnRound_34 := dn3 hX5_turnRound_31
theorem dX5_turnRound_34 : decode cX5_turnRound 34 = .ok (.iload 5, 2) := dk21 hX5_turnRound_34 rfl
theorem hX5_turnRound_36 : cX5_turnRound.data.toList.drop 36 = sX5_turnRound_36 := dn2 hX5_turnRound_34
theorem dX5_turnRound_36 : decode cX5_turnRound 36 = .ok (.iload 7, 2) := dk21 hX5_turnRound_36 rfl
theorem hX5_turnRound_38 : cX5_turnRound.data.toList.drop 38 = sX5_turnRound_38 := dn2 hX5_turnRound_36
theorem dX5_turnRound_38 : decode cX5_turnRound 38 = .ok (.iload_n 3, 1) := dk29 hX5_turnRound_38
theorem hX5_turnRound_39 : cX5_turnRound.data.toList.drop 39 = sX5_turnRound_39 := dn1 hX5_turnRound_38
theorem dX5_turnRound_39 : decode cX5_turnRound 39 = .ok (.if_icmp .ge 8, 3) := dk162 hX5_turnRound_39 (by decide)
theorem hX5_turnRound_42 : cX5_turnRound.data.toList.drop 42 = sX5_turnRound_42 := dn3 hX5_turnRound_39
theorem dX5_turnRound_42 : decode cX5_turnRound 42 = .ok (.iload 7, 2) := dk21 hX5_turnRound_42 rfl
theorem hX5_turnRound_44 : cX5_turnRound.data.toList.drop 44 = sX5_turnRound_44 := dn2 hX5_turnRound_42
theorem dX5_turnRound_44 : decode cX5_turnRound 44 = .ok (.goto 7, 3) := dk167 hX5_turnRound_44 (by decide)
theorem hX5_turnRound_47 : cX5_turnRound.data.toList.drop 47 = sX5_turnRound_47 := dn3 hX5_turnRound_44
theorem dX5_turnRound_47 : decode cX5_turnRound 47 = .ok (.iload 7, 2) := dk21 hX5_turnRound_47 rfl
theorem hX5_turnRound_49 : cX5_turnRound.data.toList.drop 49 = sX5_turnRound_49 := dn2 hX5_turnRound_47
theorem dX5_turnRound_49 : decode cX5_turnRound 49 = .ok (.iload_n 3, 1) := dk29 hX5_turnRound_49
theorem hX5_turnRound_50 : cX5_turnRound.data.toList.drop 50 = sX5_turnRound_50 := dn1 hX5_turnRound_49
theorem dX5_turnRound_50 : decode cX5_turnRound 50 = .ok (.isub, 1) := dk100 hX5_turnRound_50
theorem hX5_turnRound_51 : cX5_turnRound.data.toList.drop 51 = sX5_turnRound_51 := dn1 hX5_turnRound_50
theorem dX5_turnRound_51 : decode cX5_turnRound 51 = .ok (.iadd, 1) := dk96 hX5_turnRound_51
theorem hX5_turnRound_52 : cX5_turnRound.data.toList.drop 52 = sX5_turnRound_52 := dn1 hX5_turnRound_51
theorem dX5_turnRound_52 : decode cX5_turnRound 52 = .ok (.iaload, 1) := dk46 hX5_turnRound_52
theorem hX5_turnRound_53 : cX5_turnRound.data.toList.drop 53 = sX5_turnRound_53 := dn1 hX5_turnRound_52
theorem dX5_turnRound_53 : decode cX5_turnRound 53 = .ok (.iastore, 1) := dk79 hX5_turnRound_53
theorem hX5_turnRound_54 : cX5_turnRound.data.toList.drop 54 = sX5_turnRound_54 := dn1 hX5_turnRound_53
theorem dX5_turnRound_54 : decode cX5_turnRound 54 = .ok (.iinc 6 1, 3) := dk132 hX5_turnRound_54 rfl (by decide)
theorem hX5_turnRound_57 : cX5_turnRound.data.toList.drop 57 = sX5_turnRound_57 := dn3 hX5_turnRound_54
theorem dX5_turnRound_57 : decode cX5_turnRound 57 = .ok (.goto (-49), 3) := dk167 hX5_turnRound_57 (by decide)
theorem hX5_turnRound_60 : cX5_turnRound.data.toList.drop 60 = sX5_turnRound_60 := dn3 hX5_turnRound_57
theorem dX5_turnRound_60 : decode cX5_turnRound 60 = .ok (.return_, 1) := dk177 hX5_turnRound_60
noncomputable def sX5_weightAt_19 : List UInt8 := 172 :: []
noncomputable def sX5_weightAt_18 : List UInt8 := 46 :: sX5_weightAt_19
noncomputable def sX5_weightAt_17 : List UInt8 := 96 :: sX5_weightAt_18
noncomputable def sX5_weightAt_16 : List UInt8 := 46 :: sX5_weightAt_17
noncomputable def sX5_weightAt_15 : List UInt8 := 96 :: sX5_weightAt_16
noncomputable def sX5_weightAt_14 : List UInt8 := 29 :: sX5_weightAt_15
noncomputable def sX5_weightAt_13 : List UInt8 := 104 :: sX5_weightAt_14
noncomputable def sX5_weightAt_12 : List UInt8 := 7 :: sX5_weightAt_13
noncomputable def sX5_weightAt_11 : List UInt8 := 28 :: sX5_weightAt_12
noncomputable def sX5_weightAt_8 : List UInt8 := 180 :: 0 :: 15 :: sX5_weightAt_11
noncomputable def sX5_weightAt_7 : List UInt8 := 42 :: sX5_weightAt_8
noncomputable def sX5_weightAt_6 : List UInt8 := 104 :: sX5_weightAt_7
noncomputable def sX5_weightAt_5 : List UInt8 := 7 :: sX5_weightAt_6
noncomputable def sX5_weightAt_4 : List UInt8 := 28 :: sX5_weightAt_5
noncomputable def sX5_weightAt_1 : List UInt8 := 180 :: 0 :: 35 :: sX5_weightAt_4
noncomputable def sX5_weightAt_0 : List UInt8 := 43 :: sX5_weightAt_1
set_option maxRecDepth 100000 in
theorem hX5_weightAt_0 : cX5_weightAt.data.toList.drop 0 = sX5_weightAt_0 := by decide +kernel
theorem dX5_weightAt_0 : decode cX5_weightAt 0 = .ok (.aload_n 1, 1) := dk43 hX5_weightAt_0
theorem hX5_weightAt_1 : cX5_weightAt.data.toList.drop 1 = sX5_weightAt_1 := dn1 hX5_weightAt_0
theorem dX5_weightAt_1 : decode cX5_weightAt 1 = .ok (.getfield 35, 3) := dk180 hX5_weightAt_1 rfl
theorem hX5_weightAt_4 : cX5_weightAt.data.toList.drop 4 = sX5_weightAt_4 := dn3 hX5_weightAt_1
theorem dX5_weightAt_4 : decode cX5_weightAt 4 = .ok (.iload_n 2, 1) := dk28 hX5_weightAt_4
theorem hX5_weightAt_5 : cX5_weightAt.data.toList.drop 5 = sX5_weightAt_5 := dn1 hX5_weightAt_4
theorem dX5_weightAt_5 : decode cX5_weightAt 5 = .ok (.iconst 4, 1) := dk7 hX5_weightAt_5
theorem hX5_weightAt_6 : cX5_weightAt.data.toList.drop 6 = sX5_weightAt_6 := dn1 hX5_weightAt_5
theorem dX5_weightAt_6 : decode cX5_weightAt 6 = .ok (.imul, 1) := dk104 hX5_weightAt_6
theorem hX5_weightAt_7 : cX5_weightAt.data.toList.drop 7 = sX5_weightAt_7 := dn1 hX5_weightAt_6
theorem dX5_weightAt_7 : decode cX5_weightAt 7 = .ok (.aload_n 0, 1) := dk42 hX5_weightAt_7
theorem hX5_weightAt_8 : cX5_weightAt.data.toList.drop 8 = sX5_weightAt_8 := dn1 hX5_weightAt_7
theorem dX5_weightAt_8 : decode cX5_weightAt 8 = .ok (.getfield 15, 3) := dk180 hX5_weightAt_8 rfl
theorem hX5_weightAt_11 : cX5_weightAt.data.toList.drop 11 = sX5_weightAt_11 := dn3 hX5_weightAt_8
theorem dX5_weightAt_11 : decode cX5_weightAt 11 = .ok (.iload_n 2, 1) := dk28 hX5_weightAt_11
theorem hX5_weightAt_12 : cX5_weightAt.data.toList.drop 12 = sX5_weightAt_12 := dn1 hX5_weightAt_11
theorem dX5_weightAt_12 : decode cX5_weightAt 12 = .ok (.iconst 4, 1) := dk7 hX5_weightAt_12
theorem hX5_weightAt_13 : cX5_weightAt.data.toList.drop 13 = sX5_weightAt_13 := dn1 hX5_weightAt_12
theorem dX5_weightAt_13 : decode cX5_weightAt 13 = .ok (.imul, 1) := dk104 hX5_weightAt_13
theorem hX5_weightAt_14 : cX5_weightAt.data.toList.drop 14 = sX5_weightAt_14 := dn1 hX5_weightAt_13
theorem dX5_weightAt_14 : decode cX5_weightAt 14 = .ok (.iload_n 3, 1) := dk29 hX5_weightAt_14
theorem hX5_weightAt_15 : cX5_weightAt.data.toList.drop 15 = sX5_weightAt_15 := dn1 hX5_weightAt_14
theorem dX5_weightAt_15 : decode cX5_weightAt 15 = .ok (.iadd, 1) := dk96 hX5_weightAt_15
theorem hX5_weightAt_16 : cX5_weightAt.data.toList.drop 16 = sX5_weightAt_16 := dn1 hX5_weightAt_15
theorem dX5_weightAt_16 : decode cX5_weightAt 16 = .ok (.iaload, 1) := dk46 hX5_weightAt_16
theorem hX5_weightAt_17 : cX5_weightAt.data.toList.drop 17 = sX5_weightAt_17 := dn1 hX5_weightAt_16
theorem dX5_weightAt_17 : decode cX5_weightAt 17 = .ok (.iadd, 1) := dk96 hX5_weightAt_17
theorem hX5_weightAt_18 : cX5_weightAt.data.toList.drop 18 = sX5_weightAt_18 := dn1 hX5_weightAt_17
theorem dX5_weightAt_18 : decode cX5_weightAt 18 = .ok (.iaload, 1) := dk46 hX5_weightAt_18
theorem hX5_weightAt_19 : cX5_weightAt.data.toList.drop 19 = sX5_weightAt_19 := dn1 hX5_weightAt_18
theorem dX5_weightAt_19 : decode cX5_weightAt 19 = .ok (.ireturn, 1) := dk172 hX5_weightAt_19
