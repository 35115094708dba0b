noncomputable def sX6_ask_38 : List UInt8 := 172 :: []
noncomputable def sX6_ask_37 : List UInt8 := 46 :: sX6_ask_38
noncomputable def sX6_ask_36 : List UInt8 := 28 :: sX6_ask_37
noncomputable def sX6_ask_33 : List UInt8 := 180 :: 1 :: 40 :: sX6_ask_36
noncomputable def sX6_ask_30 : List UInt8 := 180 :: 0 :: 19 :: sX6_ask_33
noncomputable def sX6_ask_29 : List UInt8 := 42 :: sX6_ask_30
noncomputable def sX6_ask_26 : List UInt8 := 167 :: 0 :: 12 :: sX6_ask_29
noncomputable def sX6_ask_24 : List UInt8 := 16 :: 254 :: sX6_ask_26
noncomputable def sX6_ask_21 : List UInt8 := 156 :: 0 :: 8 :: sX6_ask_24
noncomputable def sX6_ask_20 : List UInt8 := 28 :: sX6_ask_21
noncomputable def sX6_ask_19 : List UInt8 := 61 :: sX6_ask_20
noncomputable def sX6_ask_16 : List UInt8 := 182 :: 1 :: 37 :: sX6_ask_19
noncomputable def sX6_ask_15 : List UInt8 := 27 :: sX6_ask_16
noncomputable def sX6_ask_14 : List UInt8 := 42 :: sX6_ask_15
noncomputable def sX6_ask_13 : List UInt8 := 60 :: sX6_ask_14
noncomputable def sX6_ask_10 : List UInt8 := 182 :: 1 :: 31 :: sX6_ask_13
noncomputable def sX6_ask_9 : List UInt8 := 42 :: sX6_ask_10
noncomputable def sX6_ask_8 : List UInt8 := 172 :: sX6_ask_9
noncomputable def sX6_ask_7 : List UInt8 := 2 :: sX6_ask_8
noncomputable def sX6_ask_4 : List UInt8 := 153 :: 0 :: 5 :: sX6_ask_7
noncomputable def sX6_ask_1 : List UInt8 := 182 :: 0 :: 140 :: sX6_ask_4
noncomputable def sX6_ask_0 : List UInt8 := 42 :: sX6_ask_1
set_option maxRecDepth 100000 in
theorem hX6_ask_0 : cX6_ask.data.toList.drop 0 = sX6_ask_0 := by decide +kernel
theorem dX6_ask_0 : decode cX6_ask 0 = .ok (.aload_n 0, 1) := dk42 hX6_ask_0
theorem hX6_ask_1 : cX6_ask.data.toList.drop 1 = sX6_ask_1 := dn1 hX6_ask_0
theorem dX6_ask_1 : decode cX6_ask 1 = .ok (.invokevirtual 140, 3) := dk182 hX6_ask_1 rfl
theorem hX6_ask_4 : cX6_ask.data.toList.drop 4 = sX6_ask_4 := dn3 hX6_ask_1
theorem dX6_ask_4 : decode cX6_ask 4 = .ok (.ifCond .eq 5, 3) := dk153 hX6_ask_4 (by decide)
theorem hX6_ask_7 : cX6_ask.data.toList.drop 7 = sX6_ask_7 := dn3 hX6_ask_4
theorem dX6_ask_7 : decode cX6_ask 7 = .ok (.iconst (-1), 1) := dk2 hX6_ask_7
theorem hX6_ask_8 : cX6_ask.data.toList.drop 8 = sX6_ask_8 := dn1 hX6_ask_7
theorem dX6_ask_8 : decode cX6_ask 8 = .ok (.ireturn, 1) := dk172 hX6_ask_8
theorem hX6_ask_9 : cX6_ask.data.toList.drop 9 = sX6_ask_9 := dn1 hX6_ask_8
theorem dX6_ask_9 : decode cX6_ask 9 = .ok (.aload_n 0, 1) := dk42 hX6_ask_9
theorem hX6_ask_10 : cX6_ask.data.toList.drop 10 = sX6_ask_10 := dn1 hX6_ask_9
theorem dX6_ask_10 : decode cX6_ask 10 = .ok (.invokevirtual 287, 3) := dk182 hX6_ask_10 rfl
theorem hX6_ask_13 : cX6_ask.data.toList.drop 13 = sX6_ask_13 := dn3 hX6_ask_10
theorem dX6_ask_13 : decode cX6_ask 13 = .ok (.istore_n 1, 1) := dk60 hX6_ask_13
theorem hX6_ask_14 : cX6_ask.data.toList.drop 14 = sX6_ask_14 := dn1 hX6_ask_13
theorem dX6_ask_14 : decode cX6_ask 14 = .ok (.aload_n 0, 1) := dk42 hX6_ask_14
theorem hX6_ask_15 : cX6_ask.data.toList.drop 15 = sX6_ask_15 := dn1 hX6_ask_14
theorem dX6_ask_15 : decode cX6_ask 15 = .ok (.iload_n 1, 1) := dk27 hX6_ask_15
theorem hX6_ask_16 : cX6_ask.data.toList.drop 16 = sX6_ask_16 := dn1 hX6_ask_15
theorem dX6_ask_16 : decode cX6_ask 16 = .ok (.invokevirtual 293, 3) := dk182 hX6_ask_16 rfl
theorem hX6_ask_19 : cX6_ask.data.toList.drop 19 = sX6_ask_19 := dn3 hX6_ask_16
theorem dX6_ask_19 : decode cX6_ask 19 = .ok (.istore_n 2, 1) := dk61 hX6_ask_19
theorem hX6_ask_20 : cX6_ask.data.toList.drop 20 = sX6_ask_20 := dn1 hX6_ask_19
theorem dX6_ask_20 : decode cX6_ask 20 = .ok (.iload_n 2, 1) := dk28 hX6_ask_20
theorem hX6_ask_21 : cX6_ask.data.toList.drop 21 = sX6_ask_21 := dn1 hX6_ask_20
theorem dX6_ask_21 : decode cX6_ask 21 = .ok (.ifCond .ge 8, 3) := dk156 hX6_ask_21 (by decide)
theorem hX6_ask_24 : cX6_ask.data.toList.drop 24 = sX6_ask_24 := dn3 hX6_ask_21
theorem dX6_ask_24 : decode cX6_ask 24 = .ok (.bipush (-2), 2) := dk16 hX6_ask_24 (by decide)
theorem hX6_ask_26 : cX6_ask.data.toList.drop 26 = sX6_ask_26 := dn2 hX6_ask_24
theorem dX6_ask_26 : decode cX6_ask 26 = .ok (.goto 12, 3) := dk167 hX6_ask_26 (by decide)
theorem hX6_ask_29 : cX6_ask.data.toList.drop 29 = sX6_ask_29 := dn3 hX6_ask_26
theorem dX6_ask_29 : decode cX6_ask 29 = .ok (.aload_n 0, 1) := dk42 hX6_ask_29
theorem hX6_ask_30 : cX6_ask.data.toList.drop 30 = sX6_ask_30 := dn1 hX6_ask_29
theorem dX6_ask_30 : decode cX6_ask 30 = .ok (.getfield 19, 3) := dk180 hX6_ask_30 rfl
theorem hX6_ask_33 : cX6_ask.data.toList.drop 33 = sX6_ask_33 := dn3 hX6_ask_30
theorem dX6_ask_33 : decode cX6_ask 33 = .ok (.getfield 296, 3) := dk180 hX6_ask_33 rfl
theorem hX6_ask_36 : cX6_ask.data.toList.drop 36 = sX6_ask_36 := dn3 hX6_ask_33
theorem dX6_ask_36 : decode cX6_ask 36 = .ok (.iload_n 2, 1) := dk28 hX6_ask_36
theorem hX6_ask_37 : cX6_ask.data.toList.drop 37 = sX6_ask_37 := dn1 hX6_ask_36
theorem dX6_ask_37 : decode cX6_ask 37 = .ok (.iaload, 1) := dk46 hX6_ask_37
theorem hX6_ask_38 : cX6_ask.data.toList.drop 38 = sX6_ask_38 := dn1 hX6_ask_37
theorem dX6_ask_38 : decode cX6_ask 38 = .ok (.ireturn, 1) := dk172 hX6_ask_38
noncomputable def sX6_askBreaths_37 : List UInt8 := 172 :: []
noncomputable def sX6_askBreaths_34 : List UInt8 := 180 :: 0 :: 200 :: sX6_askBreaths_37
noncomputable def sX6_askBreaths_31 : List UInt8 := 180 :: 0 :: 47 :: sX6_askBreaths_34
noncomputable def sX6_askBreaths_30 : List UInt8 := 42 :: sX6_askBreaths_31
noncomputable def sX6_askBreaths_29 : List UInt8 := 87 :: sX6_askBreaths_30
noncomputable def sX6_askBreaths_26 : List UInt8 := 182 :: 0 :: 207 :: sX6_askBreaths_29
noncomputable def sX6_askBreaths_25 : List UInt8 := 27 :: sX6_askBreaths_26
noncomputable def sX6_askBreaths_22 : List UInt8 := 180 :: 0 :: 26 :: sX6_askBreaths_25
noncomputable def sX6_askBreaths_21 : List UInt8 := 42 :: sX6_askBreaths_22
noncomputable def sX6_askBreaths_18 : List UInt8 := 180 :: 0 :: 19 :: sX6_askBreaths_21
noncomputable def sX6_askBreaths_17 : List UInt8 := 42 :: sX6_askBreaths_18
noncomputable def sX6_askBreaths_14 : List UInt8 := 180 :: 0 :: 47 :: sX6_askBreaths_17
noncomputable def sX6_askBreaths_13 : List UInt8 := 42 :: sX6_askBreaths_14
noncomputable def sX6_askBreaths_12 : List UInt8 := 172 :: sX6_askBreaths_13
noncomputable def sX6_askBreaths_11 : List UInt8 := 2 :: sX6_askBreaths_12
noncomputable def sX6_askBreaths_8 : List UInt8 := 153 :: 0 :: 5 :: sX6_askBreaths_11
noncomputable def sX6_askBreaths_5 : List UInt8 := 182 :: 0 :: 203 :: sX6_askBreaths_8
noncomputable def sX6_askBreaths_3 : List UInt8 := 16 :: 99 :: sX6_askBreaths_5
noncomputable def sX6_askBreaths_2 : List UInt8 := 3 :: sX6_askBreaths_3
noncomputable def sX6_askBreaths_1 : List UInt8 := 27 :: sX6_askBreaths_2
noncomputable def sX6_askBreaths_0 : List UInt8 := 42 :: sX6_askBreaths_1
set_option maxRecDepth 100000 in
theorem hX6_askBreaths_0 : cX6_askBreaths.data.toList.drop 0 = sX6_askBreaths_0 := by decide +kernel
theorem dX6_askBreaths_0 : decode cX6_askBreaths 0 = .ok (.aload_n 0, 1) := dk42 hX6_askBreaths_0
theorem hX6_askBreaths_1 : cX6_askBreaths.data.toList.drop 1 = sX6_askBreaths_1 := dn1 hX6_askBreaths_0
theorem dX6_askBreaths_1 : decode cX6_askBreaths 1 = .ok (.iload_n 1, 1) := dk27 hX6_askBreaths_1
theorem hX6_askBreaths_2 : cX6_askBreaths.data.toList.drop 2 = sX6_askBreaths_2 := dn1 hX6_askBreaths_1
theorem dX6_askBreaths_2 : decode cX6_askBreaths 2 = .ok (.iconst 0, 1) := dk3 hX6_askBreaths_2
theorem hX6_askBreaths_3 : cX6_askBreaths.data.toList.drop 3 = sX6_askBreaths_3 := dn1 hX6_askBreaths_2
theorem dX6_askBreaths_3 : decode cX6_askBreaths 3 = .ok (.bipush 99, 2) := dk16 hX6_askBreaths_3 (by decide)
theorem hX6_askBreaths_5 : cX6_askBreaths.data.toList.drop 5 = sX6_askBreaths_5 := dn2 hX6_askBreaths_3
theorem dX6_askBreaths_5 : decode cX6_askBreaths 5 = .ok (.invokevirtual 203, 3) := dk182 hX6_askBreaths_5 rfl
theorem hX6_askBreaths_8 : cX6_askBreaths.data.toList.drop 8 = sX6_askBreaths_8 := dn3 hX6_askBreaths_5
theorem dX6_askBreaths_8 : decode cX6_askBreaths 8 = .ok (.ifCond .eq 5, 3) := dk153 hX6_askBreaths_8 (by decide)
theorem hX6_askBreaths_11 : cX6_askBreaths.data.toList.drop 11 = sX6_askBreaths_11 := dn3 hX6_askBreaths_8
theorem dX6_askBreaths_11 : decode cX6_askBreaths 11 = .ok (.iconst (-1), 1) := dk2 hX6_askBreaths_11
theorem hX6_askBreaths_12 : cX6_askBreaths.data.toList.drop 12 = sX6_askBreaths_12 := dn1 hX6_askBreaths_11
theorem dX6_askBreaths_12 : decode cX6_askBreaths 12 = .ok (.ireturn, 1) := dk172 hX6_askBreaths_12
theorem hX6_askBreaths_13 : cX6_askBreaths.data.toList.drop 13 = sX6_askBreaths_13 := dn1 hX6_askBreaths_12
theorem dX6_askBreaths_13 : decode cX6_askBreaths 13 = .ok (.aload_n 0, 1) := dk42 hX6_askBreaths_13
theorem hX6_askBreaths_14 : cX6_askBreaths.data.toList.drop 14 = sX6_askBreaths_14 := dn1 hX6_askBreaths_13
theorem dX6_askBreaths_14 : decode cX6_askBreaths 14 = .ok (.getfield 47, 3) := dk180 hX6_askBreaths_14 rfl
theorem hX6_askBreaths_17 : cX6_askBreaths.data.toList.drop 17 = sX6_askBreaths_17 := dn3 hX6_askBreaths_14
theorem dX6_askBreaths_17 : decode cX6_askBreaths 17 = .ok (.aload_n 0, 1) := dk42 hX6_askBreaths_17
theorem hX6_askBreaths_18 : cX6_askBreaths.data.toList.drop 18 = sX6_askBreaths_18 := dn1 hX6_askBreaths_17
theorem dX6_askBreaths_18 : decode cX6_askBreaths 18 = .ok (.getfield 19, 3) := dk180 hX6_askBreaths_18 rfl
theorem hX6_askBreaths_21 : cX6_askBreaths.data.toList.drop 21 = sX6_askBreaths_21 := dn3 hX6_askBreaths_18
theorem dX6_askBreaths_21 : decode cX6_askBreaths 21 = .ok (.aload_n 0, 1) := dk42 hX6_askBreaths_21
theorem hX6_askBreaths_22 : cX6_askBreaths.data.toList.drop 22 = sX6_askBreaths_22 := dn1 hX6_askBreaths_21
theorem dX6_askBreaths_22 : decode cX6_askBreaths 22 = .ok (.getfield 26, 3) := dk180 hX6_askBreaths_22 rfl
theorem hX6_askBreaths_25 : cX6_askBreaths.data.toList.drop 25 = sX6_askBreaths_25 := dn3 hX6_askBreaths_22
theorem dX6_askBreaths_25 : decode cX6_askBreaths 25 = .ok (.iload_n 1, 1) := dk27 hX6_askBreaths_25
theorem hX6_askBreaths_26 : cX6_askBreaths.data.toList.drop 26 = sX6_askBreaths_26 := dn1 hX6_askBreaths_25
theorem dX6_askBreaths_26 : decode cX6_askBreaths 26 = .ok (.invokevirtual 207, 3) := dk182 hX6_askBreaths_26 rfl
theorem hX6_askBreaths_29 : cX6_askBreaths.data.toList.drop 29 = sX6_askBreaths_29 := dn3 hX6_askBreaths_26
theorem dX6_askBreaths_29 : decode cX6_askBreaths 29 = .ok (.pop, 1) := dk87 hX6_askBreaths_29
theorem hX6_askBreaths_30 : cX6_askBreaths.data.toList.drop 30 = sX6_askBreaths_30 := dn1 hX6_askBreaths_29
theorem dX6_askBreaths_30 : decode cX6_askBreaths 30 = .ok (.aload_n 0, 1) := dk42 hX6_askBreaths_30
theorem hX6_askBreaths_31 : cX6_askBreaths.data.toList.drop 31 = sX6_askBreaths_31 := dn1 hX6_askBreaths_30
theorem dX6_askBreaths_31 : decode cX6_askBreaths 31 = .ok (.getfield 47, 3) := dk180 hX6_askBreaths_31 rfl
theorem hX6_askBreaths_34 : cX6_askBreaths.data.toList.drop 34 = sX6_askBreaths_34 := dn3 hX6_askBreaths_31
theorem dX6_askBreaths_34 : decode cX6_askBreaths 34 = .ok (.getfield 200, 3) := dk180 hX6_askBreaths_34 rfl
theorem hX6_askBreaths_37 : cX6_askBreaths.data.toList.drop 37 = sX6_askBreaths_37 := dn3 hX6_askBreaths_34
theorem dX6_askBreaths_37 : decode cX6_askBreaths 37 = .ok (.ireturn, 1) := dk172 hX6_askBreaths_37
noncomputable def sX6_askLeaves_35 : List UInt8 := 172 :: []
noncomputable def sX6_askLeaves_32 : List UInt8 := 182 :: 1 :: 43 :: sX6_askLeaves_35
noncomputable def sX6_askLeaves_31 : List UInt8 := 28 :: sX6_askLeaves_32
noncomputable def sX6_askLeaves_30 : List UInt8 := 27 :: sX6_askLeaves_31
noncomputable def sX6_askLeaves_29 : List UInt8 := 42 :: sX6_askLeaves_30
noncomputable def sX6_askLeaves_26 : List UInt8 := 167 :: 0 :: 9 :: sX6_askLeaves_29
noncomputable def sX6_askLeaves_24 : List UInt8 := 16 :: 254 :: sX6_askLeaves_26
noncomputable def sX6_askLeaves_21 : List UInt8 := 156 :: 0 :: 8 :: sX6_askLeaves_24
noncomputable def sX6_askLeaves_20 : List UInt8 := 28 :: sX6_askLeaves_21
noncomputable def sX6_askLeaves_19 : List UInt8 := 61 :: sX6_askLeaves_20
noncomputable def sX6_askLeaves_16 : List UInt8 := 182 :: 1 :: 37 :: sX6_askLeaves_19
noncomputable def sX6_askLeaves_15 : List UInt8 := 27 :: sX6_askLeaves_16
noncomputable def sX6_askLeaves_14 : List UInt8 := 42 :: sX6_askLeaves_15
noncomputable def sX6_askLeaves_13 : List UInt8 := 60 :: sX6_askLeaves_14
noncomputable def sX6_askLeaves_10 : List UInt8 := 182 :: 1 :: 31 :: sX6_askLeaves_13
noncomputable def sX6_askLeaves_9 : List UInt8 := 42 :: sX6_askLeaves_10
noncomputable def sX6_askLeaves_8 : List UInt8 := 172 :: sX6_askLeaves_9
noncomputable def sX6_askLeaves_7 : List UInt8 := 2 :: sX6_askLeaves_8
noncomputable def sX6_askLeaves_4 : List UInt8 := 153 :: 0 :: 5 :: sX6_askLeaves_7
noncomputable def sX6_askLeaves_1 : List UInt8 := 182 :: 0 :: 140 :: sX6_askLeaves_4
noncomputable def sX6_askLeaves_0 : List UInt8 := 42 :: sX6_askLeaves_1
set_option maxRecDepth 100000 in
theorem hX6_askLeaves_0 : cX6_askLeaves.data.toList.drop 0 = sX6_askLeaves_0 := by decide +kernel
theorem dX6_askLeaves_0 : decode cX6_askLeaves 0 = .ok (.aload_n 0, 1) := dk42 hX6_askLeaves_0
theorem hX6_askLeaves_1 : cX6_askLeaves.data.toList.drop 1 = sX6_askLeaves_1 := dn1 hX6_askLeaves_0
theorem dX6_askLeaves_1 : decode cX6_askLeaves 1 = .ok (.invokevirtual 140, 3) := dk182 hX6_askLeaves_1 rfl
theorem hX6_askLeaves_4 : cX6_askLeaves.data.toList.drop 4 = sX6_askLeaves_4 := dn3 hX6_askLeaves_1
theorem dX6_askLeaves_4 : decode cX6_askLeaves 4 = .ok (.ifCond .eq 5, 3) := dk153 hX6_askLeaves_4 (by decide)
theorem hX6_askLeaves_7 : cX6_askLeaves.data.toList.drop 7 = sX6_askLeaves_7 := dn3 hX6_askLeaves_4
theorem dX6_askLeaves_7 : decode cX6_askLeaves 7 = .ok (.iconst (-1), 1) := dk2 hX6_askLeaves_7
theorem hX6_askLeaves_8 : cX6_askLeaves.data.toList.drop 8 = sX6_askLeaves_8 := dn1 hX6_askLeaves_7
theorem dX6_askLeaves_8 : decode cX6_askLeaves 8 = .ok (.ireturn, 1) := dk172 hX6_askLeaves_8
theorem hX6_askLeaves_9 : cX6_askLeaves.data.toList.drop 9 = sX6_askLeaves_9 := dn1 hX6_askLeaves_8
theorem dX6_askLeaves_9 : decode cX6_askLeaves 9 = .ok (.aload_n 0, 1) := dk42 hX6_askLeaves_9
theorem hX6_askLeaves_10 : cX6_askLeaves.data.toList.drop 10 = sX6_askLeaves_10 := dn1 hX6_askLeaves_9
theorem dX6_askLeaves_10 : decode cX6_askLeaves 10 = .ok (.invokevirtual 287, 3) := dk182 hX6_askLeaves_10 rfl
theorem hX6_askLeaves_13 : cX6_askLeaves.data.toList.drop 13 = sX6_askLeaves_13 := dn3 hX6_askLeaves_10
theorem dX6_askLeaves_13 : decode cX6_askLeaves 13 = .ok (.istore_n 1, 1) := dk60 hX6_askLeaves_13
theorem hX6_askLeaves_14 : cX6_askLeaves.data.toList.drop 14 = sX6_askLeaves_14 := dn1 hX6_askLeaves_13
theorem dX6_askLeaves_14 : decode cX6_askLeaves 14 = .ok (.aload_n 0, 1) := dk42 hX6_askLeaves_14
theorem hX6_askLeaves_15 : cX6_askLeaves.data.toList.drop 15 = sX6_askLeaves_15 := dn1 hX6_askLeaves_14
theorem dX6_askLeaves_15 : decode cX6_askLeaves 15 = .ok (.iload_n 1, 1) := dk27 hX6_askLeaves_15
theorem hX6_askLeaves_16 : cX6_askLeaves.data.toList.drop 16 = sX6_askLeaves_16 := dn1 hX6_askLeaves_15
theorem dX6_askLeaves_16 : decode cX6_askLeaves 16 = .ok (.invokevirtual 293, 3) := dk182 hX6_askLeaves_16 rfl
theorem hX6_askLeaves_19 : cX6_askLeaves.data.toList.drop 19 = sX6_askLeaves_19 := dn3 hX6_askLeaves_16
theorem dX6_askLeaves_19 : decode cX6_askLeaves 19 = .ok (.istore_n 2, 1) := dk61 hX6_askLeaves_19
theorem hX6_askLeaves_20 : cX6_askLeaves.data.toList.drop 20 = sX6_askLeaves_20 := dn1 hX6_askLeaves_19
theorem dX6_askLeaves_20 : decode cX6_askLeaves 20 = .ok (.iload_n 2, 1) := dk28 hX6_askLeaves_20
theorem hX6_askLeaves_21 : cX6_askLeaves.data.toList.drop 21 = sX6_askLeaves_21 := dn1 hX6_askLeaves_20
theorem dX6_askLeaves_21 : decode cX6_askLeaves 21 = .ok (.ifCond .ge 8, 3) := dk156 hX6_askLeaves_21 (by decide)
theorem hX6_askLeaves_24 : cX6_askLeaves.data.toList.drop 24 = sX6_askLeaves_24 := dn3 hX6_askLeaves_21
theorem dX6_askLeaves_24 : decode cX6_askLeaves 24 = .ok (.bipush (-2), 2) := dk16 hX6_askLeaves_24 (by decide)
theorem hX6_askLeaves_26 : cX6_askLeaves.data.toList.drop 26 = sX6_askLeaves_26 := dn2 hX6_askLeaves_24
theorem dX6_askLeaves_26 : decode cX6_askLeaves 26 = .ok (.goto 9, 3) := dk167 hX6_askLeaves_26 (by decide)
theorem hX6_askLeaves_29 : cX6_askLeaves.data.toList.drop 29 = sX6_askLeaves_29 := dn3 hX6_askLeaves_26
theorem dX6_askLeaves_29 : decode cX6_askLeaves 29 = .ok (.aload_n 0, 1) := dk42 hX6_askLeaves_29
theorem hX6_askLeaves_30 : cX6_askLeaves.data.toList.drop 30 = sX6_askLeaves_30 := dn1 hX6_askLeaves_29
theorem dX6_askLeaves_30 : decode cX6_askLeaves 30 = .ok (.iload_n 1, 1) := dk27 hX6_askLeaves_30
theorem hX6_askLeaves_31 : cX6_askLeaves.data.toList.drop 31 = sX6_askLeaves_31 := dn1 hX6_askLeaves_30
theorem dX6_askLeaves_31 : decode cX6_askLeaves 31 = .ok (.iload_n 2, 1) := dk28 hX6_askLeaves_31
theorem hX6_askLeaves_32 : cX6_askLeaves.data.toList.drop 32 = sX6_askLeaves_32 := dn1 hX6_askLeaves_31
theorem dX6_askLeaves_32 : decode cX6_askLeaves 32 = .ok (.invokevirtual 299, 3) := dk182 hX6_askLeaves_32 rfl
theorem hX6_askLeaves_35 : cX6_askLeaves.data.toList.drop 35 = sX6_askLeaves_35 := dn3 hX6_askLeaves_32
theorem dX6_askLeaves_35 : decode cX6_askLeaves 35 = .ok (.ireturn, 1) := dk172 hX6_askLeaves_35
noncomputable def sX6_asks_37 : List UInt8 := 172 :: []
noncomputable def sX6_asks_36 : List UInt8 := 3 :: sX6_asks_37
noncomputable def sX6_asks_33 : List UInt8 := 167 :: 0 :: 4 :: sX6_asks_36
noncomputable def sX6_asks_32 : List UInt8 := 4 :: sX6_asks_33
noncomputable def sX6_asks_29 : List UInt8 := 153 :: 0 :: 7 :: sX6_asks_32
noncomputable def sX6_asks_26 : List UInt8 := 182 :: 0 :: 207 :: sX6_asks_29
noncomputable def sX6_asks_25 : List UInt8 := 27 :: sX6_asks_26
noncomputable def sX6_asks_22 : List UInt8 := 180 :: 0 :: 26 :: sX6_asks_25
noncomputable def sX6_asks_21 : List UInt8 := 42 :: sX6_asks_22
noncomputable def sX6_asks_18 : List UInt8 := 180 :: 0 :: 19 :: sX6_asks_21
noncomputable def sX6_asks_17 : List UInt8 := 42 :: sX6_asks_18
noncomputable def sX6_asks_14 : List UInt8 := 180 :: 0 :: 47 :: sX6_asks_17
noncomputable def sX6_asks_13 : List UInt8 := 42 :: sX6_asks_14
noncomputable def sX6_asks_12 : List UInt8 := 172 :: sX6_asks_13
noncomputable def sX6_asks_11 : List UInt8 := 2 :: sX6_asks_12
noncomputable def sX6_asks_8 : List UInt8 := 153 :: 0 :: 5 :: sX6_asks_11
noncomputable def sX6_asks_5 : List UInt8 := 182 :: 0 :: 203 :: sX6_asks_8
noncomputable def sX6_asks_3 : List UInt8 := 16 :: 99 :: sX6_asks_5
noncomputable def sX6_asks_2 : List UInt8 := 3 :: sX6_asks_3
noncomputable def sX6_asks_1 : List UInt8 := 27 :: sX6_asks_2
noncomputable def sX6_asks_0 : List UInt8 := 42 :: sX6_asks_1
set_option maxRecDepth 100000 in
theorem hX6_asks_0 : cX6_asks.data.toList.drop 0 = sX6_asks_0 := by decide +kernel
theorem dX6_asks_0 : decode cX6_asks 0 = .ok (.aload_n 0, 1) := dk42 hX6_asks_0
theorem hX6_asks_1 : cX6_asks.data.toList.drop 1 = sX6_asks_1 := dn1 hX6_asks_0
theorem dX6_asks_1 : decode cX6_asks 1 = .ok (.iload_n 1, 1) := dk27 hX6_asks_1
theorem hX6_asks_2 : cX6_asks.data.toList.drop 2 = sX6_asks_2 := dn1 hX6_asks_1
theorem dX6_asks_2 : decode cX6_asks 2 = .ok (.iconst 0, 1) := dk3 hX6_asks_2
theorem hX6_asks_3 : cX6_asks.data.toList.drop 3 = sX6_asks_3 := dn1 hX6_asks_2
theorem dX6_asks_3 : decode cX6_asks 3 = .ok (.bipush 99, 2) := dk16 hX6_asks_3 (by decide)
theorem hX6_asks_5 : cX6_asks.data.toList.drop 5 = sX6_asks_5 := dn2 hX6_asks_3
theorem dX6_asks_5 : decode cX6_asks 5 = .ok (.invokevirtual 203, 3) := dk182 hX6_asks_5 rfl
theorem hX6_asks_8 : cX6_asks.data.toList.drop 8 = sX6_asks_8 := dn3 hX6_asks_5
theorem dX6_asks_8 : decode cX6_asks 8 = .ok (.ifCond .eq 5, 3) := dk153 hX6_asks_8 (by decide)
theorem hX6_asks_11 : cX6_asks.data.toList.drop 11 = sX6_asks_11 := dn3 hX6_asks_8
theorem dX6_asks_11 : decode cX6_asks 11 = .ok (.iconst (-1), 1) := dk2 hX6_asks_11
theorem hX6_asks_12 : cX6_asks.data.toList.drop 12 = sX6_asks_12 := dn1 hX6_asks_11
theorem dX6_asks_12 : decode cX6_asks 12 = .ok (.ireturn, 1) := dk172 hX6_asks_12
theorem hX6_asks_13 : cX6_asks.data.toList.drop 13 = sX6_asks_13 := dn1 hX6_asks_12
theorem dX6_asks_13 : decode cX6_asks 13 = .ok (.aload_n 0, 1) := dk42 hX6_asks_13
theorem hX6_asks_14 : cX6_asks.data.toList.drop 14 = sX6_asks_14 := dn1 hX6_asks_13
theorem dX6_asks_14 : decode cX6_asks 14 = .ok (.getfield 47, 3) := dk180 hX6_asks_14 rfl
theorem hX6_asks_17 : cX6_asks.data.toList.drop 17 = sX6_asks_17 := dn3 hX6_asks_14
theorem dX6_asks_17 : decode cX6_asks 17 = .ok (.aload_n 0, 1) := dk42 hX6_asks_17
theorem hX6_asks_18 : cX6_asks.data.toList.drop 18 = sX6_asks_18 := dn1 hX6_asks_17
theorem dX6_asks_18 : decode cX6_asks 18 = .ok (.getfield 19, 3) := dk180 hX6_asks_18 rfl
theorem hX6_asks_21 : cX6_asks.data.toList.drop 21 = sX6_asks_21 := dn3 hX6_asks_18
theorem dX6_asks_21 : decode cX6_asks 21 = .ok (.aload_n 0, 1) := dk42 hX6_asks_21
theorem hX6_asks_22 : cX6_asks.data.toList.drop 22 = sX6_asks_22 := dn1 hX6_asks_21
theorem dX6_asks_22 : decode cX6_asks 22 = .ok (.getfield 26, 3) := dk180 hX6_asks_22 rfl
theorem hX6_asks_25 : cX6_asks.data.toList.drop 25 = sX6_asks_25 := dn3 hX6_asks_22
theorem dX6_asks_25 : decode cX6_asks 25 = .ok (.iload_n 1, 1) := dk27 hX6_asks_25
theorem hX6_asks_26 : cX6_asks.data.toList.drop 26 = sX6_asks_26 := dn1 hX6_asks_25
theorem dX6_asks_26 : decode cX6_asks 26 = .ok (.invokevirtual 207, 3) := dk182 hX6_asks_26 rfl
theorem hX6_asks_29 : cX6_asks.data.toList.drop 29 = sX6_asks_29 := dn3 hX6_asks_26
theorem dX6_asks_29 : decode cX6_asks 29 = .ok (.ifCond .eq 7, 3) := dk153 hX6_asks_29 (by decide)
theorem hX6_asks_32 : cX6_asks.data.toList.drop 32 = sX6_asks_32 := dn3 hX6_asks_29
theorem dX6_asks_32 : decode cX6_asks 32 = .ok (.iconst 1, 1) := dk4 hX6_asks_32
theorem hX6_asks_33 : cX6_asks.data.toList.drop 33 = sX6_asks_33 := dn1 hX6_asks_32
theorem dX6_asks_33 : decode cX6_asks 33 = .ok (.goto 4, 3) := dk167 hX6_asks_33 (by decide)
theorem hX6_asks_36 : cX6_asks.data.toList.drop 36 = sX6_asks_36 := dn3 hX6_asks_33
theorem dX6_asks_36 : decode cX6_asks 36 = .ok (.iconst 0, 1) := dk3 hX6_asks_36
theorem hX6_asks_37 : cX6_asks.data.toList.drop 37 = sX6_asks_37 := dn1 hX6_asks_36
theorem dX6_asks_37 : decode cX6_asks 37 = .ok (.ireturn, 1) := dk172 hX6_asks_37
noncomputable def sX6_back_45 : List UInt8 := 172 :: []
noncomputable def sX6_back_44 : List UInt8 := 4 :: sX6_back_45
noncomputable def sX6_back_41 : List UInt8 := 181 :: 0 :: 100 :: sX6_back_44
noncomputable def sX6_back_40 : List UInt8 := 3 :: sX6_back_41
noncomputable def sX6_back_39 : List UInt8 := 42 :: sX6_back_40
noncomputable def sX6_back_36 : List UInt8 := 182 :: 0 :: 94 :: sX6_back_39
noncomputable def sX6_back_33 : List UInt8 := 180 :: 0 :: 40 :: sX6_back_36
noncomputable def sX6_back_32 : List UInt8 := 42 :: sX6_back_33
noncomputable def sX6_back_29 : List UInt8 := 182 :: 0 :: 241 :: sX6_back_32
noncomputable def sX6_back_28 : List UInt8 := 50 :: sX6_back_29
noncomputable def sX6_back_27 : List UInt8 := 27 :: sX6_back_28
noncomputable def sX6_back_24 : List UInt8 := 180 :: 0 :: 33 :: sX6_back_27
noncomputable def sX6_back_23 : List UInt8 := 42 :: sX6_back_24
noncomputable def sX6_back_20 : List UInt8 := 180 :: 0 :: 26 :: sX6_back_23
noncomputable def sX6_back_19 : List UInt8 := 42 :: sX6_back_20
noncomputable def sX6_back_18 : List UInt8 := 172 :: sX6_back_19
noncomputable def sX6_back_17 : List UInt8 := 3 :: sX6_back_18
noncomputable def sX6_back_14 : List UInt8 := 181 :: 0 :: 100 :: sX6_back_17
noncomputable def sX6_back_13 : List UInt8 := 4 :: sX6_back_14
noncomputable def sX6_back_12 : List UInt8 := 42 :: sX6_back_13
noncomputable def sX6_back_9 : List UInt8 := 161 :: 0 :: 10 :: sX6_back_12
noncomputable def sX6_back_6 : List UInt8 := 180 :: 0 :: 97 :: sX6_back_9
noncomputable def sX6_back_5 : List UInt8 := 42 :: sX6_back_6
noncomputable def sX6_back_4 : List UInt8 := 27 :: sX6_back_5
noncomputable def sX6_back_1 : List UInt8 := 155 :: 0 :: 11 :: sX6_back_4
noncomputable def sX6_back_0 : List UInt8 := 27 :: sX6_back_1
set_option maxRecDepth 100000 in
theorem hX6_back_0 : cX6_back.data.toList.drop 0 = sX6_back_0 := by decide +kernel
theorem dX6_back_0 : decode cX6_back 0 = .ok (.iload_n 1, 1) := dk27 hX6_back_0
theorem hX6_back_1 : cX6_back.data.toList.drop 1 = sX6_back_1 := dn1 hX6_back_0
theorem dX6_back_1 : decode cX6_back 1 = .ok (.ifCond .lt 11, 3) := dk155 hX6_back_1 (by decide)
theorem hX6_back_4 : cX6_back.data.toList.drop 4 = sX6_back_4 := dn3 hX6_back_1
theorem dX6_back_4 : decode cX6_back 4 = .ok (.iload_n 1, 1) := dk27 hX6_back_4
theorem hX6_back_5 : cX6_back.data.toList.drop 5 = sX6_back_5 := dn1 hX6_back_4
theorem dX6_back_5 : decode cX6_back 5 = .ok (.aload_n 0, 1) := dk42 hX6_back_5
theorem hX6_back_6 : cX6_back.data.toList.drop 6 = sX6_back_6 := dn1 hX6_back_5
theorem dX6_back_6 : decode cX6_back 6 = .ok (.getfield 97, 3) := dk180 hX6_back_6 rfl
theorem hX6_back_9 : cX6_back.data.toList.drop 9 = sX6_back_9 := dn3 hX6_back_6
theorem dX6_back_9 : decode cX6_back 9 = .ok (.if_icmp .lt 10, 3) := dk161 hX6_back_9 (by decide)
theorem hX6_back_12 : cX6_back.data.toList.drop 12 = sX6_back_12 := dn3 hX6_back_9
theorem dX6_back_12 : decode cX6_back 12 = .ok (.aload_n 0, 1) := dk42 hX6_back_12
theorem hX6_back_13 : cX6_back.data.toList.drop 13 = sX6_back_13 := dn1 hX6_back_12
theorem dX6_back_13 : decode cX6_back 13 = .ok (.iconst 1, 1) := dk4 hX6_back_13
theorem hX6_back_14 : cX6_back.data.toList.drop 14 = sX6_back_14 := dn1 hX6_back_13
theorem dX6_back_14 : decode cX6_back 14 = .ok (.putfield 100, 3) := dk181 hX6_back_14 rfl
theorem hX6_back_17 : cX6_back.data.toList.drop 17 = sX6_back_17 := dn3 hX6_back_14
theorem dX6_back_17 : decode cX6_back 17 = .ok (.iconst 0, 1) := dk3 hX6_back_17
theorem hX6_back_18 : cX6_back.data.toList.drop 18 = sX6_back_18 := dn1 hX6_back_17
theorem dX6_back_18 : decode cX6_back 18 = .ok (.ireturn, 1) := dk172 hX6_back_18
theorem hX6_back_19 : cX6_back.data.toList.drop 19 = sX6_back_19 := dn1 hX6_back_18
theorem dX6_back_19 : decode cX6_back 19 = .ok (.aload_n 0, 1) := dk42 hX6_back_19
theorem hX6_back_20 : cX6_back.data.toList.drop 20 = sX6_back_20 := dn1 hX6_back_19
theorem dX6_back_20 : decode cX6_back 20 = .ok (.getfield 26, 3) := dk180 hX6_back_20 rfl
theorem hX6_back_23 : cX6_back.data.toList.drop 23 = sX6_back_23 := dn3 hX6_back_20
theorem dX6_back_23 : decode cX6_back 23 = .ok (.aload_n 0, 1) := dk42 hX6_back_23
theorem hX6_back_24 : cX6_back.data.toList.drop 24 = sX6_back_24 := dn1 hX6_back_23
theorem dX6_back_24 : decode cX6_back 24 = .ok (.getfield 33, 3) := dk180 hX6_back_24 rfl
theorem hX6_back_27 : cX6_back.data.toList.drop 27 = sX6_back_27 := dn3 hX6_back_24
theorem dX6_back_27 : decode cX6_back 27 = .ok (.iload_n 1, 1) := dk27 hX6_back_27
theorem hX6_back_28 : cX6_back.data.toList.drop 28 = sX6_back_28 := dn1 hX6_back_27
theorem dX6_back_28 : decode cX6_back 28 = .ok (.aaload, 1) := dk50 hX6_back_28
theorem hX6_back_29 : cX6_back.data.toList.drop 29 = sX6_back_29 := dn1 hX6_back_28
theorem dX6_back_29 : decode cX6_back 29 = .ok (.invokevirtual 241, 3) := dk182 hX6_back_29 rfl
theorem hX6_back_32 : cX6_back.data.toList.drop 32 = sX6_back_32 := dn3 hX6_back_29
theorem dX6_back_32 : decode cX6_back 32 = .ok (.aload_n 0, 1) := dk42 hX6_back_32
theorem hX6_back_33 : cX6_back.data.toList.drop 33 = sX6_back_33 := dn1 hX6_back_32
theorem dX6_back_33 : decode cX6_back 33 = .ok (.getfield 40, 3) := dk180 hX6_back_33 rfl
theorem hX6_back_36 : cX6_back.data.toList.drop 36 = sX6_back_36 := dn3 hX6_back_33
theorem dX6_back_36 : decode cX6_back 36 = .ok (.invokevirtual 94, 3) := dk182 hX6_back_36 rfl
theorem hX6_back_39 : cX6_back.data.toList.drop 39 = sX6_back_39 := dn3 hX6_back_36
theorem dX6_back_39 : decode cX6_back 39 = .ok (.aload_n 0, 1) := dk42 hX6_back_39
theorem hX6_back_40 : cX6_back.data.toList.drop 40 = sX6_back_40 := dn1 hX6_back_39
theorem dX6_back_40 : decode cX6_back 40 = .ok (.iconst 0, 1) := dk3 hX6_back_40
theorem hX6_back_41 : cX6_back.data.toList.drop 41 = sX6_back_41 := dn1 hX6_back_40
theorem dX6_back_41 : decode cX6_back 41 = .ok (.putfield 100, 3) := dk181 hX6_back_41 rfl
theorem hX6_back_44 : cX6_back.data.toList.drop 44 = sX6_back_44 := dn3 hX6_back_41
theorem dX6_back_44 : decode cX6_back 44 = .ok (.iconst 1, 1) := dk4 hX6_back_44
theorem hX6_back_45 : cX6_back.data.toList.drop 45 = sX6_back_45 := dn1 hX6_back_44
theorem dX6_back_45 : decode cX6_back 45 = .ok (.ireturn, 1) := dk172 hX6_back_45
noncomputable def sX6_best_34 : List UInt8 := 172 :: []
noncomputable def sX6_best_31 : List UInt8 := 182 :: 0 :: 166 :: sX6_best_34
noncomputable def sX6_best_30 : List UInt8 := 27 :: sX6_best_31
noncomputable def sX6_best_29 : List UInt8 := 42 :: sX6_best_30
noncomputable def sX6_best_28 : List UInt8 := 87 :: sX6_best_29
noncomputable def sX6_best_25 : List UInt8 := 182 :: 0 :: 152 :: sX6_best_28
noncomputable def sX6_best_22 : List UInt8 := 180 :: 0 :: 149 :: sX6_best_25
noncomputable def sX6_best_19 : List UInt8 := 180 :: 0 :: 26 :: sX6_best_22
noncomputable def sX6_best_18 : List UInt8 := 42 :: sX6_best_19
noncomputable def sX6_best_15 : List UInt8 := 180 :: 0 :: 19 :: sX6_best_18
noncomputable def sX6_best_14 : List UInt8 := 42 :: sX6_best_15
noncomputable def sX6_best_11 : List UInt8 := 180 :: 0 :: 54 :: sX6_best_14
noncomputable def sX6_best_10 : List UInt8 := 42 :: sX6_best_11
noncomputable def sX6_best_9 : List UInt8 := 172 :: sX6_best_10
noncomputable def sX6_best_8 : List UInt8 := 2 :: sX6_best_9
noncomputable def sX6_best_5 : List UInt8 := 153 :: 0 :: 5 :: sX6_best_8
noncomputable def sX6_best_2 : List UInt8 := 182 :: 0 :: 106 :: sX6_best_5
noncomputable def sX6_best_1 : List UInt8 := 27 :: sX6_best_2
noncomputable def sX6_best_0 : List UInt8 := 42 :: sX6_best_1
set_option maxRecDepth 100000 in
theorem hX6_best_0 : cX6_best.data.toList.drop 0 = sX6_best_0 := by decide +kernel
theorem dX6_best_0 : decode cX6_best 0 = .ok (.aload_n 0, 1) := dk42 hX6_best_0
theorem hX6_best_1 : cX6_best.data.toList.drop 1 = sX6_best_1 := dn1 hX6_best_0
theorem dX6_best_1 : decode cX6_best 1 = .ok (.iload_n 1, 1) := dk27 hX6_best_1
theorem hX6_best_2 : cX6_best.data.toList.drop 2 = sX6_best_2 := dn1 hX6_best_1
theorem dX6_best_2 : decode cX6_best 2 = .ok (.invokevirtual 106, 3) := dk182 hX6_best_2 rfl
theorem hX6_best_5 : cX6_best.data.toList.drop 5 = sX6_best_5 := dn3 hX6_best_2
theorem dX6_best_5 : decode cX6_best 5 = .ok (.ifCond .eq 5, 3) := dk153 hX6_best_5 (by decide)
theorem hX6_best_8 : cX6_best.data.toList.drop 8 = sX6_best_8 := dn3 hX6_best_5
theorem dX6_best_8 : decode cX6_best 8 = .ok (.iconst (-1), 1) := dk2 hX6_best_8
theorem hX6_best_9 : cX6_best.data.toList.drop 9 = sX6_best_9 := dn1 hX6_best_8
theorem dX6_best_9 : decode cX6_best 9 = .ok (.ireturn, 1) := dk172 hX6_best_9
theorem hX6_best_10 : cX6_best.data.toList.drop 10 = sX6_best_10 := dn1 hX6_best_9
theorem dX6_best_10 : decode cX6_best 10 = .ok (.aload_n 0, 1) := dk42 hX6_best_10
theorem hX6_best_11 : cX6_best.data.toList.drop 11 = sX6_best_11 := dn1 hX6_best_10
theorem dX6_best_11 : decode cX6_best 11 = .ok (.getfield 54, 3) := dk180 hX6_best_11 rfl
theorem hX6_best_14 : cX6_best.data.toList.drop 14 = sX6_best_14 := dn3 hX6_best_11
theorem dX6_best_14 : decode cX6_best 14 = .ok (.aload_n 0, 1) := dk42 hX6_best_14
theorem hX6_best_15 : cX6_best.data.toList.drop 15 = sX6_best_15 := dn1 hX6_best_14
theorem dX6_best_15 : decode cX6_best 15 = .ok (.getfield 19, 3) := dk180 hX6_best_15 rfl
theorem hX6_best_18 : cX6_best.data.toList.drop 18 = sX6_best_18 := dn3 hX6_best_15
theorem dX6_best_18 : decode cX6_best 18 = .ok (.aload_n 0, 1) := dk42 hX6_best_18
theorem hX6_best_19 : cX6_best.data.toList.drop 19 = sX6_best_19 := dn1 hX6_best_18
theorem dX6_best_19 : decode cX6_best 19 = .ok (.getfield 26, 3) := dk180 hX6_best_19 rfl
theorem hX6_best_22 : cX6_best.data.toList.drop 22 = sX6_best_22 := dn3 hX6_best_19
theorem dX6_best_22 : decode cX6_best 22 = .ok (.getfield 149, 3) := dk180 hX6_best_22 rfl
theorem hX6_best_25 : cX6_best.data.toList.drop 25 = sX6_best_25 := dn3 hX6_best_22
theorem dX6_best_25 : decode cX6_best 25 = .ok (.invokevirtual 152, 3) := dk182 hX6_best_25 rfl
theorem hX6_best_28 : cX6_best.data.toList.drop 28 = sX6_best_28 := dn3 hX6_best_25
theorem dX6_best_28 : decode cX6_best 28 = .ok (.pop, 1) := dk87 hX6_best_28
theorem hX6_best_29 : cX6_best.data.toList.drop 29 = sX6_best_29 := dn1 hX6_best_28
theorem dX6_best_29 : decode cX6_best 29 = .ok (.aload_n 0, 1) := dk42 hX6_best_29
theorem hX6_best_30 : cX6_best.data.toList.drop 30 = sX6_best_30 := dn1 hX6_best_29
theorem dX6_best_30 : decode cX6_best 30 = .ok (.iload_n 1, 1) := dk27 hX6_best_30
theorem hX6_best_31 : cX6_best.data.toList.drop 31 = sX6_best_31 := dn1 hX6_best_30
theorem dX6_best_31 : decode cX6_best 31 = .ok (.invokevirtual 166, 3) := dk182 hX6_best_31 rfl
theorem hX6_best_34 : cX6_best.data.toList.drop 34 = sX6_best_34 := dn3 hX6_best_31
theorem dX6_best_34 : decode cX6_best 34 = .ok (.ireturn, 1) := dk172 hX6_best_34
noncomputable def sX6_bestPart_88 : List UInt8 := 172 :: []
noncomputable def sX6_bestPart_86 : List UInt8 := 16 :: 254 :: sX6_bestPart_88
noncomputable def sX6_bestPart_83 : List UInt8 := 167 :: 255 :: 203 :: sX6_bestPart_86
noncomputable def sX6_bestPart_80 : List UInt8 := 132 :: 2 :: 1 :: sX6_bestPart_83
noncomputable def sX6_bestPart_79 : List UInt8 := 172 :: sX6_bestPart_80
noncomputable def sX6_bestPart_78 : List UInt8 := 29 :: sX6_bestPart_79
noncomputable def sX6_bestPart_75 : List UInt8 := 160 :: 0 :: 5 :: sX6_bestPart_78
noncomputable def sX6_bestPart_74 : List UInt8 := 46 :: sX6_bestPart_75
noncomputable def sX6_bestPart_73 : List UInt8 := 27 :: sX6_bestPart_74
noncomputable def sX6_bestPart_70 : List UInt8 := 180 :: 0 :: 156 :: sX6_bestPart_73
noncomputable def sX6_bestPart_67 : List UInt8 := 180 :: 0 :: 54 :: sX6_bestPart_70
noncomputable def sX6_bestPart_66 : List UInt8 := 42 :: sX6_bestPart_67
noncomputable def sX6_bestPart_65 : List UInt8 := 46 :: sX6_bestPart_66
noncomputable def sX6_bestPart_64 : List UInt8 := 29 :: sX6_bestPart_65
noncomputable def sX6_bestPart_61 : List UInt8 := 180 :: 0 :: 156 :: sX6_bestPart_64
noncomputable def sX6_bestPart_58 : List UInt8 := 180 :: 0 :: 54 :: sX6_bestPart_61
noncomputable def sX6_bestPart_57 : List UInt8 := 42 :: sX6_bestPart_58
noncomputable def sX6_bestPart_56 : List UInt8 := 62 :: sX6_bestPart_57
noncomputable def sX6_bestPart_53 : List UInt8 := 182 :: 0 :: 129 :: sX6_bestPart_56
noncomputable def sX6_bestPart_52 : List UInt8 := 28 :: sX6_bestPart_53
noncomputable def sX6_bestPart_51 : List UInt8 := 27 :: sX6_bestPart_52
noncomputable def sX6_bestPart_48 : List UInt8 := 180 :: 0 :: 19 :: sX6_bestPart_51
noncomputable def sX6_bestPart_47 : List UInt8 := 42 :: sX6_bestPart_48
noncomputable def sX6_bestPart_44 : List UInt8 := 180 :: 0 :: 26 :: sX6_bestPart_47
noncomputable def sX6_bestPart_43 : List UInt8 := 42 :: sX6_bestPart_44
noncomputable def sX6_bestPart_40 : List UInt8 := 162 :: 0 :: 46 :: sX6_bestPart_43
noncomputable def sX6_bestPart_39 : List UInt8 := 46 :: sX6_bestPart_40
noncomputable def sX6_bestPart_38 : List UInt8 := 27 :: sX6_bestPart_39
noncomputable def sX6_bestPart_35 : List UInt8 := 180 :: 0 :: 113 :: sX6_bestPart_38
noncomputable def sX6_bestPart_32 : List UInt8 := 180 :: 0 :: 19 :: sX6_bestPart_35
noncomputable def sX6_bestPart_31 : List UInt8 := 42 :: sX6_bestPart_32
noncomputable def sX6_bestPart_30 : List UInt8 := 28 :: sX6_bestPart_31
noncomputable def sX6_bestPart_29 : List UInt8 := 61 :: sX6_bestPart_30
noncomputable def sX6_bestPart_28 : List UInt8 := 3 :: sX6_bestPart_29
noncomputable def sX6_bestPart_27 : List UInt8 := 172 :: sX6_bestPart_28
noncomputable def sX6_bestPart_25 : List UInt8 := 16 :: 254 :: sX6_bestPart_27
noncomputable def sX6_bestPart_22 : List UInt8 := 160 :: 0 :: 6 :: sX6_bestPart_25
noncomputable def sX6_bestPart_21 : List UInt8 := 6 :: sX6_bestPart_22
noncomputable def sX6_bestPart_20 : List UInt8 := 46 :: sX6_bestPart_21
noncomputable def sX6_bestPart_19 : List UInt8 := 27 :: sX6_bestPart_20
noncomputable def sX6_bestPart_16 : List UInt8 := 180 :: 0 :: 109 :: sX6_bestPart_19
noncomputable def sX6_bestPart_13 : List UInt8 := 180 :: 0 :: 19 :: sX6_bestPart_16
noncomputable def sX6_bestPart_12 : List UInt8 := 42 :: sX6_bestPart_13
noncomputable def sX6_bestPart_9 : List UInt8 := 153 :: 0 :: 16 :: sX6_bestPart_12
noncomputable def sX6_bestPart_8 : List UInt8 := 46 :: sX6_bestPart_9
noncomputable def sX6_bestPart_7 : List UInt8 := 27 :: sX6_bestPart_8
noncomputable def sX6_bestPart_4 : List UInt8 := 180 :: 0 :: 109 :: sX6_bestPart_7
noncomputable def sX6_bestPart_1 : List UInt8 := 180 :: 0 :: 19 :: sX6_bestPart_4
noncomputable def sX6_bestPart_0 : List UInt8 := 42 :: sX6_bestPart_1
set_option maxRecDepth 100000 in
theorem hX6_bestPart_0 : cX6_bestPart.data.toList.drop 0 = sX6_bestPart_0 := by decide +kernel
theorem dX6_bestPart_0 : decode cX6_bestPart 0 = .ok (.aload_n 0, 1) := dk42 hX6_bestPart_0
theorem hX6_bestPart_1 : cX6_bestPart.data.toList.drop 1 = sX6_bestPart_1 := dn1 hX6_bestPart_0
theorem dX6_bestPart_1 : decode cX6_bestPart 1 = .ok (.getfield 19, 3) := dk180 hX6_bestPart_1 rfl
theorem hX6_bestPart_4 : cX6_bestPart.data.toList.drop 4 = sX6_bestPart_4 := dn3 hX6_bestPart_1
theorem dX6_bestPart_4 : decode cX6_bestPart 4 = .ok (.getfield 109, 3) := dk180 hX6_bestPart_4 rfl
theorem hX6_bestPart_7 : cX6_bestPart.data.toList.drop 7 = sX6_bestPart_7 := dn3 hX6_bestPart_4
theorem dX6_bestPart_7 : decode cX6_bestPart 7 = .ok (.iload_n 1, 1) := dk27 hX6_bestPart_7
theorem hX6_bestPart_8 : cX6_bestPart.data.toList.drop 8 = sX6_bestPart_8 := dn1 hX6_bestPart_7
theorem dX6_bestPart_8 : decode cX6_bestPart 8 = .ok (.iaload, 1) := dk46 hX6_bestPart_8
theorem hX6_bestPart_9 : cX6_bestPart.data.toList.drop 9 = sX6_bestPart_9 := dn1 hX6_bestPart_8
theorem dX6_bestPart_9 : decode cX6_bestPart 9 = .ok (.ifCond .eq 16, 3) := dk153 hX6_bestPart_9 (by decide)
theorem hX6_bestPart_12 : cX6_bestPart.data.toList.drop 12 = sX6_bestPart_12 := dn3 hX6_bestPart_9
theorem dX6_bestPart_12 : decode cX6_bestPart 12 = .ok (.aload_n 0, 1) := dk42 hX6_bestPart_12
theorem hX6_bestPart_13 : cX6_bestPart.data.toList.drop 13 = sX6_bestPart_13 := dn1 hX6_bestPart_12
theorem dX6_bestPart_13 : decode cX6_bestPart 13 = .ok (.getfield 19, 3) := dk180 hX6_bestPart_13 rfl
theorem hX6_bestPart_16 : cX6_bestPart.data.toList.drop 16 = sX6_bestPart_16 := dn3 hX6_bestPart_13
theorem dX6_bestPart_16 : decode cX6_bestPart 16 = .ok (.getfield 109, 3) := dk180 hX6_bestPart_16 rfl
theorem hX6_bestPart_19 : cX6_bestPart.data.toList.drop 19 = sX6_bestPart_19 := dn3 hX6_bestPart_16
theorem dX6_bestPart_19 : decode cX6_bestPart 19 = .ok (.iload_n 1, 1) := dk27 hX6_bestPart_19
theorem hX6_bestPart_20 : cX6_bestPart.data.toList.drop 20 = sX6_bestPart_20 := dn1 hX6_bestPart_19
theorem dX6_bestPart_20 : decode cX6_bestPart 20 = .ok (.iaload, 1) := dk46 hX6_bestPart_20
theorem hX6_bestPart_21 : cX6_bestPart.data.toList.drop 21 = sX6_bestPart_21 := dn1 hX6_bestPart_20
theorem dX6_bestPart_21 : decode cX6_bestPart 21 = .ok (.iconst 3, 1) := dk6 hX6_bestPart_21
theorem hX6_bestPart_22 : cX6_bestPart.data.toList.drop 22 = sX6_bestPart_22 := dn1 hX6_bestPart_21
theorem dX6_bestPart_22 : decode cX6_bestPart 22 = .ok (.if_icmp .ne 6, 3) := dk160 hX6_bestPart_22 (by decide)
theorem hX6_bestPart_25 : cX6_bestPart.data.toList.drop 25 = sX6_bestPart_25 := dn3 hX6_bestPart_22
theorem dX6_bestPart_25 : decode cX6_bestPart 25 = .ok (.bipush (-2), 2) := dk16 hX6_bestPart_25 (by decide)
theorem hX6_bestPart_27 : cX6_bestPart.data.toList.drop 27 = sX6_bestPart_27 := dn2 hX6_bestPart_25
theorem dX6_bestPart_27 : decode cX6_bestPart 27 = .ok (.ireturn, 1) := dk172 hX6_bestPart_27
theorem hX6_bestPart_28 : cX6_bestPart.data.toList.drop 28 = sX6_bestPart_28 := dn1 hX6_bestPart_27
theorem dX6_bestPart_28 : decode cX6_bestPart 28 = .ok (.iconst 0, 1) := dk3 hX6_bestPart_28
theorem hX6_bestPart_29 : cX6_bestPart.data.toList.drop 29 = sX6_bestPart_29 := dn1 hX6_bestPart_28
theorem dX6_bestPart_29 : decode cX6_bestPart 29 = .ok (.istore_n 2, 1) := dk61 hX6_bestPart_29
theorem hX6_bestPart_30 : cX6_bestPart.data.toList.drop 30 = sX6_bestPart_30 := dn1 hX6_bestPart_29
theorem dX6_bestPart_30 : decode cX6_bestPart 30 = .ok (.iload_n 2, 1) := dk28 hX6_bestPart_30
theorem hX6_bestPart_31 : cX6_bestPart.data.toList.drop 31 = sX6_bestPart_31 := dn1 hX6_bestPart_30
theorem dX6_bestPart_31 : decode cX6_bestPart 31 = .ok (.aload_n 0, 1) := dk42 hX6_bestPart_31
theorem hX6_bestPart_32 : cX6_bestPart.data.toList.drop 32 = sX6_bestPart_32 := dn1 hX6_bestPart_31
theorem dX6_bestPart_32 : decode cX6_bestPart 32 = .ok (.getfield 19, 3) := dk180 hX6_bestPart_32 rfl
theorem hX6_bestPart_35 : cX6_bestPart.data.toList.drop 35 = sX6_bestPart_35 := dn3 hX6_bestPart_32
theorem dX6_bestPart_35 : decode cX6_bestPart 35 = .ok (.getfield 113, 3) := dk180 hX6_bestPart_35 rfl
theorem hX6_bestPart_38 : cX6_bestPart.data.toList.drop 38 = sX6_bestPart_38 := dn3 hX6_bestPart_35
theorem dX6_bestPart_38 : decode cX6_bestPart 38 = .ok (.iload_n 1, 1) := dk27 hX6_bestPart_38
theorem hX6_bestPart_39 : cX6_bestPart.data.toList.drop 39 = sX6_bestPart_39 := dn1 hX6_bestPart_38
theorem dX6_bestPart_39 : decode cX6_bestPart 39 = .ok (.iaload, 1) := dk46 hX6_bestPart_39
theorem hX6_bestPart_40 : cX6_bestPart.data.toList.drop 40 = sX6_bestPart_40 := dn1 hX6_bestPart_39
theorem dX6_bestPart_40 : decode cX6_bestPart 40 = .ok (.if_icmp .ge 46, 3) := dk162 hX6_bestPart_40 (by decide)
theorem hX6_bestPart_43 : cX6_bestPart.data.toList.drop 43 = sX6_bestPart_43 := dn3 hX6_bestPart_40
theorem dX6_bestPart_43 : decode cX6_bestPart 43 = .ok (.aload_n 0, 1) := dk42 hX6_bestPart_43
theorem hX6_bestPart_44 : cX6_bestPart.data.toList.drop 44 = sX6_bestPart_44 := dn1 hX6_bestPart_43
theorem dX6_bestPart_44 : decode cX6_bestPart 44 = .ok (.getfield 26, 3) := dk180 hX6_bestPart_44 rfl
theorem hX6_bestPart_47 : cX6_bestPart.data.toList.drop 47 = sX6_bestPart_47 := dn3 hX6_bestPart_44
theorem dX6_bestPart_47 : decode cX6_bestPart 47 = .ok (.aload_n 0, 1) := dk42 hX6_bestPart_47
theorem hX6_bestPart_48 : cX6_bestPart.data.toList.drop 48 = sX6_bestPart_48 := dn1 hX6_bestPart_47
theorem dX6_bestPart_48 : decode cX6_bestPart 48 = .ok (.getfield 19, 3) := dk180 hX6_bestPart_48 rfl
theorem hX6_bestPart_51 : cX6_bestPart.data.toList.drop 51 = sX6_bestPart_51 := dn3 hX6_bestPart_48
theorem dX6_bestPart_51 : decode cX6_bestPart 51 = .ok (.iload_n 1, 1) := dk27 hX6_bestPart_51
theorem hX6_bestPart_52 : cX6_bestPart.data.toList.drop 52 = sX6_bestPart_52 := dn1 hX6_bestPart_51
theorem dX6_bestPart_52 : decode cX6_bestPart 52 = .ok (.iload_n 2, 1) := dk28 hX6_bestPart_52
theorem hX6_bestPart_53 : cX6_bestPart.data.toList.drop 53 = sX6_bestPart_53 := dn1 hX6_bestPart_52
theorem dX6_bestPart_53 : decode cX6_bestPart 53 = .ok (.invokevirtual 129, 3) := dk182 hX6_bestPart_53 rfl
theorem hX6_bestPart_56 : cX6_bestPart.data.toList.drop 56 = sX6_bestPart_56 := dn3 hX6_bestPart_53
theorem dX6_bestPart_56 : decode cX6_bestPart 56 = .ok (.istore_n 3, 1) := dk62 hX6_bestPart_56
theorem hX6_bestPart_57 : cX6_bestPart.data.toList.drop 57 = sX6_bestPart_57 := dn1 hX6_bestPart_56
theorem dX6_bestPart_57 : decode cX6_bestPart 57 = .ok (.aload_n 0, 1) := dk42 hX6_bestPart_57
theorem hX6_bestPart_58 : cX6_bestPart.data.toList.drop 58 = sX6_bestPart_58 := dn1 hX6_bestPart_57
theorem dX6_bestPart_58 : decode cX6_bestPart 58 = .ok (.getfield 54, 3) := dk180 hX6_bestPart_58 rfl
theorem hX6_bestPart_61 : cX6_bestPart.data.toList.drop 61 = sX6_bestPart_61 := dn3 hX6_bestPart_58
theorem dX6_bestPart_61 : decode cX6_bestPart 61 = .ok (.getfield 156, 3) := dk180 hX6_bestPart_61 rfl
theorem hX6_bestPart_64 : cX6_bestPart.data.toList.drop 64 = sX6_bestPart_64 := dn3 hX6_bestPart_61
theorem dX6_bestPart_64 : decode cX6_bestPart 64 = .ok (.iload_n 3, 1) := dk29 hX6_bestPart_64
theorem hX6_bestPart_65 : cX6_bestPart.data.toList.drop 65 = sX6_bestPart_65 := dn1 hX6_bestPart_64
theorem dX6_bestPart_65 : decode cX6_bestPart 65 = .ok (.iaload, 1) := dk46 hX6_bestPart_65
theorem hX6_bestPart_66 : cX6_bestPart.data.toList.drop 66 = sX6_bestPart_66 := dn1 hX6_bestPart_65
theorem dX6_bestPart_66 : decode cX6_bestPart 66 = .ok (.aload_n 0, 1) := dk42 hX6_bestPart_66
theorem hX6_bestPart_67 : cX6_bestPart.data.toList.drop 67 = sX6_bestPart_67 := dn1 hX6_bestPart_66
theorem dX6_bestPart_67 : decode cX6_bestPart 67 = .ok (.getfield 54, 3) := dk180 hX6_bestPart_67 rfl
theorem hX6_bestPart_70 : cX6_bestPart.data.toList.drop 70 = sX6_bestPart_70 := dn3 hX6_bestPart_67
theorem dX6_bestPart_70 : decode cX6_bestPart 70 = .ok (.getfield 156, 3) := dk180 hX6_bestPart_70 rfl
theorem hX6_bestPart_73 : cX6_bestPart.data.toList.drop 73 = sX6_bestPart_73 := dn3 hX6_bestPart_70
theorem dX6_bestPart_73 : decode cX6_bestPart 73 = .ok (.iload_n 1, 1) := dk27 hX6_bestPart_73
theorem hX6_bestPart_74 : cX6_bestPart.data.toList.drop 74 = sX6_bestPart_74 := dn1 hX6_bestPart_73
theorem dX6_bestPart_74 : decode cX6_bestPart 74 = .ok (.iaload, 1) := dk46 hX6_bestPart_74
theorem hX6_bestPart_75 : cX6_bestPart.data.toList.drop 75 = sX6_bestPart_75 := dn1 hX6_bestPart_74
theorem dX6_bestPart_75 : decode cX6_bestPart 75 = .ok (.if_icmp .ne 5, 3) := dk160 hX6_bestPart_75 (by decide)
theorem hX6_bestPart_78 : cX6_bestPart.data.toList.drop 78 = sX6_bestPart_78 := dn3 hX6_bestPart_75
theorem dX6_bestPart_78 : decode cX6_bestPart 78 = .ok (.iload_n 3, 1) := dk29 hX6_bestPart_78
theorem hX6_bestPart_79 : cX6_bestPart.data.toList.drop 79 = sX6_bestPart_79 := dn1 hX6_bestPart_78
theorem dX6_bestPart_79 : decode cX6_bestPart 79 = .ok (.ireturn, 1) := dk172 hX6_bestPart_79
theorem hX6_bestPart_80 : cX6_bestPart.data.toList.drop 80 = sX6_bestPart_80 := dn1 hX6_bestPart_79
theorem dX6_bestPart_80 : decode cX6_bestPart 80 = .ok (.iinc 2 1, 3) := dk132 hX6_bestPart_80 rfl (by decide)
theorem hX6_bestPart_83 : cX6_bestPart.data.toList.drop 83 = sX6_bestPart_83 := dn3 hX6_bestPart_80
theorem dX6_bestPart_83 : decode cX6_bestPart 83 = .ok (.goto (-53), 3) := dk167 hX6_bestPart_83 (by decide)
theorem hX6_bestPart_86 : cX6_bestPart.data.toList.drop 86 = sX6_bestPart_86 := dn3 hX6_bestPart_83
theorem dX6_bestPart_86 : decode cX6_bestPart 86 = .ok (.bipush (-2), 2) := dk16 hX6_bestPart_86 (by decide)
theorem hX6_bestPart_88 : cX6_bestPart.data.toList.drop 88 = sX6_bestPart_88 := dn2 hX6_bestPart_86
theorem dX6_bestPart_88 : decode cX6_bestPart 88 = .ok (.ireturn, 1) := dk172 hX6_bestPart_88
noncomputable def sX6_breathsInOrder_44 : List UInt8 := 172 :: []
noncomputable def sX6_breathsInOrder_41 : List UInt8 := 182 :: 0 :: 177 :: sX6_breathsInOrder_44
noncomputable def sX6_breathsInOrder_38 : List UInt8 := 180 :: 0 :: 30 :: sX6_breathsInOrder_41
noncomputable def sX6_breathsInOrder_37 : List UInt8 := 42 :: sX6_breathsInOrder_38
noncomputable def sX6_breathsInOrder_34 : List UInt8 := 180 :: 0 :: 19 :: sX6_breathsInOrder_37
noncomputable def sX6_breathsInOrder_33 : List UInt8 := 42 :: sX6_breathsInOrder_34
noncomputable def sX6_breathsInOrder_30 : List UInt8 := 180 :: 0 :: 47 :: sX6_breathsInOrder_33
noncomputable def sX6_breathsInOrder_29 : List UInt8 := 42 :: sX6_breathsInOrder_30
noncomputable def sX6_breathsInOrder_26 : List UInt8 := 182 :: 1 :: 4 :: sX6_breathsInOrder_29
noncomputable def sX6_breathsInOrder_25 : List UInt8 := 28 :: sX6_breathsInOrder_26
noncomputable def sX6_breathsInOrder_24 : List UInt8 := 46 :: sX6_breathsInOrder_25
noncomputable def sX6_breathsInOrder_23 : List UInt8 := 27 :: sX6_breathsInOrder_24
noncomputable def sX6_breathsInOrder_20 : List UInt8 := 180 :: 0 :: 113 :: sX6_breathsInOrder_23
noncomputable def sX6_breathsInOrder_17 : List UInt8 := 180 :: 0 :: 19 :: sX6_breathsInOrder_20
noncomputable def sX6_breathsInOrder_16 : List UInt8 := 42 :: sX6_breathsInOrder_17
noncomputable def sX6_breathsInOrder_15 : List UInt8 := 27 :: sX6_breathsInOrder_16
noncomputable def sX6_breathsInOrder_12 : List UInt8 := 180 :: 0 :: 30 :: sX6_breathsInOrder_15
noncomputable def sX6_breathsInOrder_11 : List UInt8 := 42 :: sX6_breathsInOrder_12
noncomputable def sX6_breathsInOrder_8 : List UInt8 := 182 :: 0 :: 241 :: sX6_breathsInOrder_11
noncomputable def sX6_breathsInOrder_5 : List UInt8 := 180 :: 0 :: 26 :: sX6_breathsInOrder_8
noncomputable def sX6_breathsInOrder_4 : List UInt8 := 42 :: sX6_breathsInOrder_5
noncomputable def sX6_breathsInOrder_1 : List UInt8 := 180 :: 0 :: 30 :: sX6_breathsInOrder_4
noncomputable def sX6_breathsInOrder_0 : List UInt8 := 42 :: sX6_breathsInOrder_1
set_option maxRecDepth 100000 in
theorem hX6_breathsInOrder_0 : cX6_breathsInOrder.data.toList.drop 0 = sX6_breathsInOrder_0 := by decide +kernel
theorem dX6_breathsInOrder_0 : decode cX6_breathsInOrder 0 = .ok (.aload_n 0, 1) := dk42 hX6_breathsInOrder_0
theorem hX6_breathsInOrder_1 : cX6_breathsInOrder.data.toList.drop 1 = sX6_breathsInOrder_1 := dn1 hX6_breathsInOrder_0
theorem dX6_breathsInOrder_1 : decode cX6_breathsInOrder 1 = .ok (.getfield 30, 3) := dk180 hX6_breathsInOrder_1 rfl
theorem hX6_breathsInOrder_4 : cX6_breathsInOrder.data.toList.drop 4 = sX6_breathsInOrder_4 := dn3 hX6_breathsInOrder_1
theorem dX6_breathsInOrder_4 : decode cX6_breathsInOrder 4 = .ok (.aload_n 0, 1) := dk42 hX6_breathsInOrder_4
theorem hX6_breathsInOrder_5 : cX6_breathsInOrder.data.toList.drop 5 = sX6_breathsInOrder_5 := dn1 hX6_breathsInOrder_4
theorem dX6_breathsInOrder_5 : decode cX6_breathsInOrder 5 = .ok (.getfield 26, 3) := dk180 hX6_breathsInOrder_5 rfl
theorem hX6_breathsInOrder_8 : cX6_breathsInOrder.data.toList.drop 8 = sX6_breathsInOrder_8 := dn3 hX6_breathsInOrder_5
theorem dX6_breathsInOrder_8 : decode cX6_breathsInOrder 8 = .ok (.invokevirtual 241, 3) := dk182 hX6_breathsInOrder_8 rfl
theorem hX6_breathsInOrder_11 : cX6_breathsInOrder.data.toList.drop 11 = sX6_breathsInOrder_11 := dn3 hX6_breathsInOrder_8
theorem dX6_breathsInOrder_11 : decode cX6_breathsInOrder 11 = .ok (.aload_n 0, 1) := dk42 hX6_breathsInOrder_11
theorem hX6_breathsInOrder_12 : cX6_breathsInOrder.data.toList.drop 12 = sX6_breathsInOrder_12 := dn1 hX6_breathsInOrder_11
theorem dX6_breathsInOrder_12 : decode cX6_breathsInOrder 12 = .ok (.getfield 30, 3) := dk180 hX6_breathsInOrder_12 rfl
theorem hX6_breathsInOrder_15 : cX6_breathsInOrder.data.toList.drop 15 = sX6_breathsInOrder_15 := dn3 hX6_breathsInOrder_12
theorem dX6_breathsInOrder_15 : decode cX6_breathsInOrder 15 = .ok (.iload_n 1, 1) := dk27 hX6_breathsInOrder_15
theorem hX6_breathsInOrder_16 : cX6_breathsInOrder.data.toList.drop 16 = sX6_breathsInOrder_16 := dn1 hX6_breathsInOrder_15
theorem dX6_breathsInOrder_16 : decode cX6_breathsInOrder 16 = .ok (.aload_n 0, 1) := dk42 hX6_breathsInOrder_16
theorem hX6_breathsInOrder_17 : cX6_breathsInOrder.data.toList.drop 17 = sX6_breathsInOrder_17 := dn1 hX6_breathsInOrder_16
theorem dX6_breathsInOrder_17 : decode cX6_breathsInOrder 17 = .ok (.getfield 19, 3) := dk180 hX6_breathsInOrder_17 rfl
theorem hX6_breathsInOrder_20 : cX6_breathsInOrder.data.toList.drop 20 = sX6_breathsInOrder_20 := dn3 hX6_breathsInOrder_17
theorem dX6_breathsInOrder_20 : decode cX6_breathsInOrder 20 = .ok (.getfield 113, 3) := dk180 hX6_breathsInOrder_20 rfl
theorem hX6_breathsInOrder_23 : cX6_breathsInOrder.data.toList.drop 23 = sX6_breathsInOrder_23 := dn3 hX6_breathsInOrder_20
theorem dX6_breathsInOrder_23 : decode cX6_breathsInOrder 23 = .ok (.iload_n 1, 1) := dk27 hX6_breathsInOrder_23
theorem hX6_breathsInOrder_24 : cX6_breathsInOrder.data.toList.drop 24 = sX6_breathsInOrder_24 := dn1 hX6_breathsInOrder_23
theorem dX6_breathsInOrder_24 : decode cX6_breathsInOrder 24 = .ok (.iaload, 1) := dk46 hX6_breathsInOrder_24
theorem hX6_breathsInOrder_25 : cX6_breathsInOrder.data.toList.drop 25 = sX6_breathsInOrder_25 := dn1 hX6_breathsInOrder_24
theorem dX6_breathsInOrder_25 : decode cX6_breathsInOrder 25 = .ok (.iload_n 2, 1) := dk28 hX6_breathsInOrder_25
theorem hX6_breathsInOrder_26 : cX6_breathsInOrder.data.toList.drop 26 = sX6_breathsInOrder_26 := dn1 hX6_breathsInOrder_25
theorem dX6_breathsInOrder_26 : decode cX6_breathsInOrder 26 = .ok (.invokevirtual 260, 3) := dk182 hX6_breathsInOrder_26 rfl
theorem hX6_breathsInOrder_29 : cX6_breathsInOrder.data.toList.drop 29 = sX6_breathsInOrder_29 := dn3 hX6_breathsInOrder_26
theorem dX6_breathsInOrder_29 : decode cX6_breathsInOrder 29 = .ok (.aload_n 0, 1) := dk42 hX6_breathsInOrder_29
theorem hX6_breathsInOrder_30 : cX6_breathsInOrder.data.toList.drop 30 = sX6_breathsInOrder_30 := dn1 hX6_breathsInOrder_29
theorem dX6_breathsInOrder_30 : decode cX6_breathsInOrder 30 = .ok (.getfield 47, 3) := dk180 hX6_breathsInOrder_30 rfl
theorem hX6_breathsInOrder_33 : cX6_breathsInOrder.data.toList.drop 33 = sX6_breathsInOrder_33 := dn3 hX6_breathsInOrder_30
theorem dX6_breathsInOrder_33 : decode cX6_breathsInOrder 33 = .ok (.aload_n 0, 1) := dk42 hX6_breathsInOrder_33
theorem hX6_breathsInOrder_34 : cX6_breathsInOrder.data.toList.drop 34 = sX6_breathsInOrder_34 := dn1 hX6_breathsInOrder_33
theorem dX6_breathsInOrder_34 : decode cX6_breathsInOrder 34 = .ok (.getfield 19, 3) := dk180 hX6_breathsInOrder_34 rfl
theorem hX6_breathsInOrder_37 : cX6_breathsInOrder.data.toList.drop 37 = sX6_breathsInOrder_37 := dn3 hX6_breathsInOrder_34
theorem dX6_breathsInOrder_37 : decode cX6_breathsInOrder 37 = .ok (.aload_n 0, 1) := dk42 hX6_breathsInOrder_37
theorem hX6_breathsInOrder_38 : cX6_breathsInOrder.data.toList.drop 38 = sX6_breathsInOrder_38 := dn1 hX6_breathsInOrder_37
theorem dX6_breathsInOrder_38 : decode cX6_breathsInOrder 38 = .ok (.getfield 30, 3) := dk180 hX6_breathsInOrder_38 rfl
theorem hX6_breathsInOrder_41 : cX6_breathsInOrder.data.toList.drop 41 = sX6_breathsInOrder_41 := dn3 hX6_breathsInOrder_38
theorem dX6_breathsInOrder_41 : decode cX6_breathsInOrder 41 = .ok (.invokevirtual 177, 3) := dk182 hX6_breathsInOrder_41 rfl
theorem hX6_breathsInOrder_44 : cX6_breathsInOrder.data.toList.drop 44 = sX6_breathsInOrder_44 := dn3 hX6_breathsInOrder_41
theorem dX6_breathsInOrder_44 : decode cX6_breathsInOrder 44 = .ok (.ireturn, 1) := dk172 hX6_breathsInOrder_44
noncomputable def sX6_breathsWithFirst_35 : List UInt8 := 172 :: []
noncomputable def sX6_breathsWithFirst_32 : List UInt8 := 182 :: 0 :: 177 :: sX6_breathsWithFirst_35
noncomputable def sX6_breathsWithFirst_29 : List UInt8 := 180 :: 0 :: 30 :: sX6_breathsWithFirst_32
noncomputable def sX6_breathsWithFirst_28 : List UInt8 := 42 :: sX6_breathsWithFirst_29
noncomputable def sX6_breathsWithFirst_25 : List UInt8 := 180 :: 0 :: 19 :: sX6_breathsWithFirst_28
noncomputable def sX6_breathsWithFirst_24 : List UInt8 := 42 :: sX6_breathsWithFirst_25
noncomputable def sX6_breathsWithFirst_21 : List UInt8 := 180 :: 0 :: 47 :: sX6_breathsWithFirst_24
noncomputable def sX6_breathsWithFirst_20 : List UInt8 := 42 :: sX6_breathsWithFirst_21
noncomputable def sX6_breathsWithFirst_17 : List UInt8 := 182 :: 0 :: 245 :: sX6_breathsWithFirst_20
noncomputable def sX6_breathsWithFirst_16 : List UInt8 := 28 :: sX6_breathsWithFirst_17
noncomputable def sX6_breathsWithFirst_15 : List UInt8 := 27 :: sX6_breathsWithFirst_16
noncomputable def sX6_breathsWithFirst_12 : List UInt8 := 180 :: 0 :: 30 :: sX6_breathsWithFirst_15
noncomputable def sX6_breathsWithFirst_11 : List UInt8 := 42 :: sX6_breathsWithFirst_12
noncomputable def sX6_breathsWithFirst_8 : List UInt8 := 182 :: 0 :: 241 :: sX6_breathsWithFirst_11
noncomputable def sX6_breathsWithFirst_5 : List UInt8 := 180 :: 0 :: 26 :: sX6_breathsWithFirst_8
noncomputable def sX6_breathsWithFirst_4 : List UInt8 := 42 :: sX6_breathsWithFirst_5
noncomputable def sX6_breathsWithFirst_1 : List UInt8 := 180 :: 0 :: 30 :: sX6_breathsWithFirst_4
noncomputable def sX6_breathsWithFirst_0 : List UInt8 := 42 :: sX6_breathsWithFirst_1
set_option maxRecDepth 100000 in
theorem hX6_breathsWithFirst_0 : cX6_breathsWithFirst.data.toList.drop 0 = sX6_breathsWithFirst_0 := by decide +kernel
theorem dX6_breathsWithFirst_0 : decode cX6_breathsWithFirst 0 = .ok (.aload_n 0, 1) := dk42 hX6_breathsWithFirst_0
theorem hX6_breathsWithFirst_1 : cX6_breathsWithFirst.data.toList.drop 1 = sX6_breathsWithFirst_1 := dn1 hX6_breathsWithFirst_0
theorem dX6_breathsWithFirst_1 : decode cX6_breathsWithFirst 1 = .ok (.getfield 30, 3) := dk180 hX6_breathsWithFirst_1 rfl
theorem hX6_breathsWithFirst_4 : cX6_breathsWithFirst.data.toList.drop 4 = sX6_breathsWithFirst_4 := dn3 hX6_breathsWithFirst_1
theorem dX6_breathsWithFirst_4 : decode cX6_breathsWithFirst 4 = .ok (.aload_n 0, 1) := dk42 hX6_breathsWithFirst_4
theorem hX6_breathsWithFirst_5 : cX6_breathsWithFirst.data.toList.drop 5 = sX6_breathsWithFirst_5 := dn1 hX6_breathsWithFirst_4
theorem dX6_breathsWithFirst_5 : decode cX6_breathsWithFirst 5 = .ok (.getfield 26, 3) := dk180 hX6_breathsWithFirst_5 rfl
theorem hX6_breathsWithFirst_8 : cX6_breathsWithFirst.data.toList.drop 8 = sX6_breathsWithFirst_8 := dn3 hX6_breathsWithFirst_5
theorem dX6_breathsWithFirst_8 : decode cX6_breathsWithFirst 8 = .ok (.invokevirtual 241, 3) := dk182 hX6_breathsWithFirst_8 rfl
theorem hX6_breathsWithFirst_11 : cX6_breathsWithFirst.data.toList.drop 11 = sX6_breathsWithFirst_11 := dn3 hX6_breathsWithFirst_8
theorem dX6_breathsWithFirst_11 : decode cX6_breathsWithFirst 11 = .ok (.aload_n 0, 1) := dk42 hX6_breathsWithFirst_11
theorem hX6_breathsWithFirst_12 : cX6_breathsWithFirst.data.toList.drop 12 = sX6_breathsWithFirst_12 := dn1 hX6_breathsWithFirst_11
theorem dX6_breathsWithFirst_12 : decode cX6_breathsWithFirst 12 = .ok (.getfield 30, 3) := dk180 hX6_breathsWithFirst_12 rfl
theorem hX6_breathsWithFirst_15 : cX6_breathsWithFirst.data.toList.drop 15 = sX6_breathsWithFirst_15 := dn3 hX6_breathsWithFirst_12
theorem dX6_breathsWithFirst_15 : decode cX6_breathsWithFirst 15 = .ok (.iload_n 1, 1) := dk27 hX6_breathsWithFirst_15
theorem hX6_breathsWithFirst_16 : cX6_breathsWithFirst.data.toList.drop 16 = sX6_breathsWithFirst_16 := dn1 hX6_breathsWithFirst_15
theorem dX6_breathsWithFirst_16 : decode cX6_breathsWithFirst 16 = .ok (.iload_n 2, 1) := dk28 hX6_breathsWithFirst_16
theorem hX6_breathsWithFirst_17 : cX6_breathsWithFirst.data.toList.drop 17 = sX6_breathsWithFirst_17 := dn1 hX6_breathsWithFirst_16
theorem dX6_breathsWithFirst_17 : decode cX6_breathsWithFirst 17 = .ok (.invokevirtual 245, 3) := dk182 hX6_breathsWithFirst_17 rfl
theorem hX6_breathsWithFirst_20 : cX6_breathsWithFirst.data.toList.drop 20 = sX6_breathsWithFirst_20 := dn3 hX6_breathsWithFirst_17
theorem dX6_breathsWithFirst_20 : decode cX6_breathsWithFirst 20 = .ok (.aload_n 0, 1) := dk42 hX6_breathsWithFirst_20
theorem hX6_breathsWithFirst_21 : cX6_breathsWithFirst.data.toList.drop 21 = sX6_breathsWithFirst_21 := dn1 hX6_breathsWithFirst_20
theorem dX6_breathsWithFirst_21 : decode cX6_breathsWithFirst 21 = .ok (.getfield 47, 3) := dk180 hX6_breathsWithFirst_21 rfl
theorem hX6_breathsWithFirst_24 : cX6_breathsWithFirst.data.toList.drop 24 = sX6_breathsWithFirst_24 := dn3 hX6_breathsWithFirst_21
theorem dX6_breathsWithFirst_24 : decode cX6_breathsWithFirst 24 = .ok (.aload_n 0, 1) := dk42 hX6_breathsWithFirst_24
theorem hX6_breathsWithFirst_25 : cX6_breathsWithFirst.data.toList.drop 25 = sX6_breathsWithFirst_25 := dn1 hX6_breathsWithFirst_24
theorem dX6_breathsWithFirst_25 : decode cX6_breathsWithFirst 25 = .ok (.getfield 19, 3) := dk180 hX6_breathsWithFirst_25 rfl
theorem hX6_breathsWithFirst_28 : cX6_breathsWithFirst.data.toList.drop 28 = sX6_breathsWithFirst_28 := dn3 hX6_breathsWithFirst_25
theorem dX6_breathsWithFirst_28 : decode cX6_breathsWithFirst 28 = .ok (.aload_n 0, 1) := dk42 hX6_breathsWithFirst_28
theorem hX6_breathsWithFirst_29 : cX6_breathsWithFirst.data.toList.drop 29 = sX6_breathsWithFirst_29 := dn1 hX6_breathsWithFirst_28
theorem dX6_breathsWithFirst_29 : decode cX6_breathsWithFirst 29 = .ok (.getfield 30, 3) := dk180 hX6_breathsWithFirst_29 rfl
theorem hX6_breathsWithFirst_32 : cX6_breathsWithFirst.data.toList.drop 32 = sX6_breathsWithFirst_32 := dn3 hX6_breathsWithFirst_29
theorem dX6_breathsWithFirst_32 : decode cX6_breathsWithFirst 32 = .ok (.invokevirtual 177, 3) := dk182 hX6_breathsWithFirst_32 rfl
theorem hX6_breathsWithFirst_35 : cX6_breathsWithFirst.data.toList.drop 35 = sX6_breathsWithFirst_35 := dn3 hX6_breathsWithFirst_32
theorem dX6_breathsWithFirst_35 : decode cX6_breathsWithFirst 35 = .ok (.ireturn, 1) := dk172 hX6_breathsWithFirst_35
noncomputable def sX6_could_49 : List UInt8 := 172 :: []
noncomputable def sX6_could_48 : List UInt8 := 28 :: sX6_could_49
noncomputable def sX6_could_45 : List UInt8 := 167 :: 255 :: 229 :: sX6_could_48
noncomputable def sX6_could_42 : List UInt8 := 132 :: 3 :: 1 :: sX6_could_45
noncomputable def sX6_could_41 : List UInt8 := 61 :: sX6_could_42
noncomputable def sX6_could_40 : List UInt8 := 128 :: sX6_could_41
noncomputable def sX6_could_39 : List UInt8 := 29 :: sX6_could_40
noncomputable def sX6_could_38 : List UInt8 := 28 :: sX6_could_39
noncomputable def sX6_could_35 : List UInt8 := 160 :: 0 :: 7 :: sX6_could_38
noncomputable def sX6_could_34 : List UInt8 := 4 :: sX6_could_35
noncomputable def sX6_could_33 : List UInt8 := 126 :: sX6_could_34
noncomputable def sX6_could_32 : List UInt8 := 4 :: sX6_could_33
noncomputable def sX6_could_31 : List UInt8 := 122 :: sX6_could_32
noncomputable def sX6_could_30 : List UInt8 := 29 :: sX6_could_31
noncomputable def sX6_could_29 : List UInt8 := 27 :: sX6_could_30
noncomputable def sX6_could_26 : List UInt8 := 162 :: 0 :: 22 :: sX6_could_29
noncomputable def sX6_could_23 : List UInt8 := 182 :: 1 :: 34 :: sX6_could_26
noncomputable def sX6_could_20 : List UInt8 := 180 :: 0 :: 19 :: sX6_could_23
noncomputable def sX6_could_19 : List UInt8 := 42 :: sX6_could_20
noncomputable def sX6_could_18 : List UInt8 := 29 :: sX6_could_19
noncomputable def sX6_could_17 : List UInt8 := 62 :: sX6_could_18
noncomputable def sX6_could_16 : List UInt8 := 3 :: sX6_could_17
noncomputable def sX6_could_15 : List UInt8 := 61 :: sX6_could_16
noncomputable def sX6_could_14 : List UInt8 := 3 :: sX6_could_15
noncomputable def sX6_could_13 : List UInt8 := 60 :: sX6_could_14
noncomputable def sX6_could_10 : List UInt8 := 182 :: 1 :: 31 :: sX6_could_13
noncomputable def sX6_could_9 : List UInt8 := 42 :: sX6_could_10
noncomputable def sX6_could_8 : List UInt8 := 172 :: sX6_could_9
noncomputable def sX6_could_7 : List UInt8 := 2 :: sX6_could_8
noncomputable def sX6_could_4 : List UInt8 := 153 :: 0 :: 5 :: sX6_could_7
noncomputable def sX6_could_1 : List UInt8 := 182 :: 0 :: 140 :: sX6_could_4
noncomputable def sX6_could_0 : List UInt8 := 42 :: sX6_could_1
set_option maxRecDepth 100000 in
theorem hX6_could_0 : cX6_could.data.toList.drop 0 = sX6_could_0 := by decide +kernel
theorem dX6_could_0 : decode cX6_could 0 = .ok (.aload_n 0, 1) := dk42 hX6_could_0
theorem hX6_could_1 : cX6_could.data.toList.drop 1 = sX6_could_1 := dn1 hX6_could_0
theorem dX6_could_1 : decode cX6_could 1 = .ok (.invokevirtual 140, 3) := dk182 hX6_could_1 rfl
theorem hX6_could_4 : cX6_could.data.toList.drop 4 = sX6_could_4 := dn3 hX6_could_1
theorem dX6_could_4 : decode cX6_could 4 = .ok (.ifCond .eq 5, 3) := dk153 hX6_could_4 (by decide)
theorem hX6_could_7 : cX6_could.data.toList.drop 7 = sX6_could_7 := dn3 hX6_could_4
theorem dX6_could_7 : decode cX6_could 7 = .ok (.iconst (-1), 1) := dk2 hX6_could_7
theorem hX6_could_8 : cX6_could.data.toList.drop 8 = sX6_could_8 := dn1 hX6_could_7
theorem dX6_could_8 : decode cX6_could 8 = .ok (.ireturn, 1) := dk172 hX6_could_8
theorem hX6_could_9 : cX6_could.data.toList.drop 9 = sX6_could_9 := dn1 hX6_could_8
theorem dX6_could_9 : decode cX6_could 9 = .ok (.aload_n 0, 1) := dk42 hX6_could_9
theorem hX6_could_10 : cX6_could.data.toList.drop 10 = sX6_could_10 := dn1 hX6_could_9
theorem dX6_could_10 : decode cX6_could 10 = .ok (.invokevirtual 287, 3) := dk182 hX6_could_10 rfl
theorem hX6_could_13 : cX6_could.data.toList.drop 13 = sX6_could_13 := dn3 hX6_could_10
theorem dX6_could_13 : decode cX6_could 13 = .ok (.istore_n 1, 1) := dk60 hX6_could_13
theorem hX6_could_14 : cX6_could.data.toList.drop 14 = sX6_could_14 := dn1 hX6_could_13
theorem dX6_could_14 : decode cX6_could 14 = .ok (.iconst 0, 1) := dk3 hX6_could_14
theorem hX6_could_15 : cX6_could.data.toList.drop 15 = sX6_could_15 := dn1 hX6_could_14
theorem dX6_could_15 : decode cX6_could 15 = .ok (.istore_n 2, 1) := dk61 hX6_could_15
theorem hX6_could_16 : cX6_could.data.toList.drop 16 = sX6_could_16 := dn1 hX6_could_15
theorem dX6_could_16 : decode cX6_could 16 = .ok (.iconst 0, 1) := dk3 hX6_could_16
theorem hX6_could_17 : cX6_could.data.toList.drop 17 = sX6_could_17 := dn1 hX6_could_16
theorem dX6_could_17 : decode cX6_could 17 = .ok (.istore_n 3, 1) := dk62 hX6_could_17
theorem hX6_could_18 : cX6_could.data.toList.drop 18 = sX6_could_18 := dn1 hX6_could_17
theorem dX6_could_18 : decode cX6_could 18 = .ok (.iload_n 3, 1) := dk29 hX6_could_18
theorem hX6_could_19 : cX6_could.data.toList.drop 19 = sX6_could_19 := dn1 hX6_could_18
theorem dX6_could_19 : decode cX6_could 19 = .ok (.aload_n 0, 1) := dk42 hX6_could_19
theorem hX6_could_20 : cX6_could.data.toList.drop 20 = sX6_could_20 := dn1 hX6_could_19
theorem dX6_could_20 : decode cX6_could 20 = .ok (.getfield 19, 3) := dk180 hX6_could_20 rfl
theorem hX6_could_23 : cX6_could.data.toList.drop 23 = sX6_could_23 := dn3 hX6_could_20
theorem dX6_could_23 : decode cX6_could 23 = .ok (.invokevirtual 290, 3) := dk182 hX6_could_23 rfl
theorem hX6_could_26 : cX6_could.data.toList.drop 26 = sX6_could_26 := dn3 hX6_could_23
theorem dX6_could_26 : decode cX6_could 26 = .ok (.if_icmp .ge 22, 3) := dk162 hX6_could_26 (by decide)
theorem hX6_could_29 : cX6_could.data.toList.drop 29 = sX6_could_29 := dn3 hX6_could_26
theorem dX6_could_29 : decode cX6_could 29 = .ok (.iload_n 1, 1) := dk27 hX6_could_29
theorem hX6_could_30 : cX6_could.data.toList.drop 30 = sX6_could_30 := dn1 hX6_could_29
theorem dX6_could_30 : decode cX6_could 30 = .ok (.iload_n 3, 1) := dk29 hX6_could_30
theorem hX6_could_31 : cX6_could.data.toList.drop 31 = sX6_could_31 := dn1 hX6_could_30
theorem dX6_could_31 : decode cX6_could 31 = .ok (.ishr, 1) := dk122 hX6_could_31
theorem hX6_could_32 : cX6_could.data.toList.drop 32 = sX6_could_32 := dn1 hX6_could_31
theorem dX6_could_32 : decode cX6_could 32 = .ok (.iconst 1, 1) := dk4 hX6_could_32
theorem hX6_could_33 : cX6_could.data.toList.drop 33 = sX6_could_33 := dn1 hX6_could_32
theorem dX6_could_33 : decode cX6_could 33 = .ok (.iand, 1) := dk126 hX6_could_33
theorem hX6_could_34 : cX6_could.data.toList.drop 34 = sX6_could_34 := dn1 hX6_could_33
theorem dX6_could_34 : decode cX6_could 34 = .ok (.iconst 1, 1) := dk4 hX6_could_34
theorem hX6_could_35 : cX6_could.data.toList.drop 35 = sX6_could_35 := dn1 hX6_could_34
theorem dX6_could_35 : decode cX6_could 35 = .ok (.if_icmp .ne 7, 3) := dk160 hX6_could_35 (by decide)
theorem hX6_could_38 : cX6_could.data.toList.drop 38 = sX6_could_38 := dn3 hX6_could_35
theorem dX6_could_38 : decode cX6_could 38 = .ok (.iload_n 2, 1) := dk28 hX6_could_38
theorem hX6_could_39 : cX6_could.data.toList.drop 39 = sX6_could_39 := dn1 hX6_could_38
theorem dX6_could_39 : decode cX6_could 39 = .ok (.iload_n 3, 1) := dk29 hX6_could_39
theorem hX6_could_40 : cX6_could.data.toList.drop 40 = sX6_could_40 := dn1 hX6_could_39
theorem dX6_could_40 : decode cX6_could 40 = .ok (.ior, 1) := dk128 hX6_could_40
theorem hX6_could_41 : cX6_could.data.toList.drop 41 = sX6_could_41 := dn1 hX6_could_40
theorem dX6_could_41 : decode cX6_could 41 = .ok (.istore_n 2, 1) := dk61 hX6_could_41
theorem hX6_could_42 : cX6_could.data.toList.drop 42 = sX6_could_42 := dn1 hX6_could_41
theorem dX6_could_42 : decode cX6_could 42 = .ok (.iinc 3 1, 3) := dk132 hX6_could_42 rfl (by decide)
theorem hX6_could_45 : cX6_could.data.toList.drop 45 = sX6_could_45 := dn3 hX6_could_42
theorem dX6_could_45 : decode cX6_could 45 = .ok (.goto (-27), 3) := dk167 hX6_could_45 (by decide)
theorem hX6_could_48 : cX6_could.data.toList.drop 48 = sX6_could_48 := dn3 hX6_could_45
theorem dX6_could_48 : decode cX6_could 48 = .ok (.iload_n 2, 1) := dk28 hX6_could_48
theorem hX6_could_49 : cX6_could.data.toList.drop 49 = sX6_could_49 := dn1 hX6_could_48
theorem dX6_could_49 : decode cX6_could 49 = .ok (.ireturn, 1) := dk172 hX6_could_49
noncomputable def sX6_court_112 : List UInt8 := 172 :: []
noncomputable def sX6_court_109 : List UInt8 := 180 :: 0 :: 103 :: sX6_court_112
noncomputable def sX6_court_106 : List UInt8 := 180 :: 0 :: 19 :: sX6_court_109
noncomputable def sX6_court_105 : List UInt8 := 42 :: sX6_court_106
noncomputable def sX6_court_102 : List UInt8 := 181 :: 0 :: 100 :: sX6_court_105
noncomputable def sX6_court_101 : List UInt8 := 3 :: sX6_court_102
noncomputable def sX6_court_100 : List UInt8 := 42 :: sX6_court_101
noncomputable def sX6_court_97 : List UInt8 := 181 :: 0 :: 97 :: sX6_court_100
noncomputable def sX6_court_96 : List UInt8 := 3 :: sX6_court_97
noncomputable def sX6_court_95 : List UInt8 := 42 :: sX6_court_96
noncomputable def sX6_court_92 : List UInt8 := 182 :: 0 :: 94 :: sX6_court_95
noncomputable def sX6_court_89 : List UInt8 := 180 :: 0 :: 40 :: sX6_court_92
noncomputable def sX6_court_88 : List UInt8 := 42 :: sX6_court_89
noncomputable def sX6_court_85 : List UInt8 := 182 :: 0 :: 90 :: sX6_court_88
noncomputable def sX6_court_82 : List UInt8 := 180 :: 0 :: 19 :: sX6_court_85
noncomputable def sX6_court_81 : List UInt8 := 42 :: sX6_court_82
noncomputable def sX6_court_78 : List UInt8 := 180 :: 0 :: 26 :: sX6_court_81
noncomputable def sX6_court_77 : List UInt8 := 42 :: sX6_court_78
noncomputable def sX6_court_74 : List UInt8 := 181 :: 0 :: 19 :: sX6_court_77
noncomputable def sX6_court_71 : List UInt8 := 182 :: 0 :: 86 :: sX6_court_74
noncomputable def sX6_court_68 : List UInt8 := 180 :: 0 :: 19 :: sX6_court_71
noncomputable def sX6_court_67 : List UInt8 := 42 :: sX6_court_68
noncomputable def sX6_court_64 : List UInt8 := 180 :: 0 :: 10 :: sX6_court_67
noncomputable def sX6_court_63 : List UInt8 := 42 :: sX6_court_64
noncomputable def sX6_court_62 : List UInt8 := 42 :: sX6_court_63
noncomputable def sX6_court_61 : List UInt8 := 172 :: sX6_court_62
noncomputable def sX6_court_58 : List UInt8 := 182 :: 0 :: 66 :: sX6_court_61
noncomputable def sX6_court_57 : List UInt8 := 7 :: sX6_court_58
noncomputable def sX6_court_56 : List UInt8 := 42 :: sX6_court_57
noncomputable def sX6_court_53 : List UInt8 := 154 :: 0 :: 9 :: sX6_court_56
noncomputable def sX6_court_52 : List UInt8 := 28 :: sX6_court_53
noncomputable def sX6_court_49 : List UInt8 := 181 :: 0 :: 83 :: sX6_court_52
noncomputable def sX6_court_46 : List UInt8 := 180 :: 0 :: 80 :: sX6_court_49
noncomputable def sX6_court_43 : List UInt8 := 180 :: 0 :: 10 :: sX6_court_46
noncomputable def sX6_court_42 : List UInt8 := 42 :: sX6_court_43
noncomputable def sX6_court_41 : List UInt8 := 42 :: sX6_court_42
noncomputable def sX6_court_38 : List UInt8 := 181 :: 0 :: 77 :: sX6_court_41
noncomputable def sX6_court_35 : List UInt8 := 180 :: 0 :: 74 :: sX6_court_38
noncomputable def sX6_court_32 : List UInt8 := 180 :: 0 :: 10 :: sX6_court_35
noncomputable def sX6_court_31 : List UInt8 := 42 :: sX6_court_32
noncomputable def sX6_court_30 : List UInt8 := 42 :: sX6_court_31
noncomputable def sX6_court_29 : List UInt8 := 61 :: sX6_court_30
noncomputable def sX6_court_26 : List UInt8 := 182 :: 0 :: 70 :: sX6_court_29
noncomputable def sX6_court_25 : List UInt8 := 27 :: sX6_court_26
noncomputable def sX6_court_22 : List UInt8 := 180 :: 0 :: 10 :: sX6_court_25
noncomputable def sX6_court_21 : List UInt8 := 42 :: sX6_court_22
noncomputable def sX6_court_20 : List UInt8 := 172 :: sX6_court_21
noncomputable def sX6_court_17 : List UInt8 := 182 :: 0 :: 66 :: sX6_court_20
noncomputable def sX6_court_16 : List UInt8 := 5 :: sX6_court_17
noncomputable def sX6_court_15 : List UInt8 := 42 :: sX6_court_16
noncomputable def sX6_court_12 : List UInt8 := 164 :: 0 :: 9 :: sX6_court_15
noncomputable def sX6_court_9 : List UInt8 := 180 :: 0 :: 58 :: sX6_court_12
noncomputable def sX6_court_6 : List UInt8 := 180 :: 0 :: 10 :: sX6_court_9
noncomputable def sX6_court_5 : List UInt8 := 42 :: sX6_court_6
noncomputable def sX6_court_4 : List UInt8 := 27 :: sX6_court_5
noncomputable def sX6_court_1 : List UInt8 := 155 :: 0 :: 14 :: sX6_court_4
noncomputable def sX6_court_0 : List UInt8 := 27 :: sX6_court_1
set_option maxRecDepth 100000 in
theorem hX6_court_0 : cX6_court.data.toList.drop 0 = sX6_court_0 := by decide +kernel
theorem dX6_court_0 : decode cX6_court 0 = .ok (.iload_n 1, 1) := dk27 hX6_court_0
theorem hX6_court_1 : cX6_court.data.toList.drop 1 = sX6_court_1 := dn1 hX6_court_0
theorem dX6_court_1 : decode cX6_court 1 = .ok (.ifCond .lt 14, 3) := dk155 hX6_court_1 (by decide)
theorem hX6_court_4 : cX6_court.data.toList.drop 4 = sX6_court_4 := dn3 hX6_court_1
theorem dX6_court_4 : decode cX6_court 4 = .ok (.iload_n 1, 1) := dk27 hX6_court_4
theorem hX6_court_5 : cX6_court.data.toList.drop 5 = sX6_court_5 := dn1 hX6_court_4
theorem dX6_court_5 : decode cX6_court 5 = .ok (.aload_n 0, 1) := dk42 hX6_court_5
theorem hX6_court_6 : cX6_court.data.toList.drop 6 = sX6_court_6 := dn1 hX6_court_5
theorem dX6_court_6 : decode cX6_court 6 = .ok (.getfield 10, 3) := dk180 hX6_court_6 rfl
theorem hX6_court_9 : cX6_court.data.toList.drop 9 = sX6_court_9 := dn3 hX6_court_6
theorem dX6_court_9 : decode cX6_court 9 = .ok (.getfield 58, 3) := dk180 hX6_court_9 rfl
theorem hX6_court_12 : cX6_court.data.toList.drop 12 = sX6_court_12 := dn3 hX6_court_9
theorem dX6_court_12 : decode cX6_court 12 = .ok (.if_icmp .le 9, 3) := dk164 hX6_court_12 (by decide)
theorem hX6_court_15 : cX6_court.data.toList.drop 15 = sX6_court_15 := dn3 hX6_court_12
theorem dX6_court_15 : decode cX6_court 15 = .ok (.aload_n 0, 1) := dk42 hX6_court_15
theorem hX6_court_16 : cX6_court.data.toList.drop 16 = sX6_court_16 := dn1 hX6_court_15
theorem dX6_court_16 : decode cX6_court 16 = .ok (.iconst 2, 1) := dk5 hX6_court_16
theorem hX6_court_17 : cX6_court.data.toList.drop 17 = sX6_court_17 := dn1 hX6_court_16
theorem dX6_court_17 : decode cX6_court 17 = .ok (.invokevirtual 66, 3) := dk182 hX6_court_17 rfl
theorem hX6_court_20 : cX6_court.data.toList.drop 20 = sX6_court_20 := dn3 hX6_court_17
theorem dX6_court_20 : decode cX6_court 20 = .ok (.ireturn, 1) := dk172 hX6_court_20
theorem hX6_court_21 : cX6_court.data.toList.drop 21 = sX6_court_21 := dn1 hX6_court_20
theorem dX6_court_21 : decode cX6_court 21 = .ok (.aload_n 0, 1) := dk42 hX6_court_21
theorem hX6_court_22 : cX6_court.data.toList.drop 22 = sX6_court_22 := dn1 hX6_court_21
theorem dX6_court_22 : decode cX6_court 22 = .ok (.getfield 10, 3) := dk180 hX6_court_22 rfl
theorem hX6_court_25 : cX6_court.data.toList.drop 25 = sX6_court_25 := dn3 hX6_court_22
theorem dX6_court_25 : decode cX6_court 25 = .ok (.iload_n 1, 1) := dk27 hX6_court_25
theorem hX6_court_26 : cX6_court.data.toList.drop 26 = sX6_court_26 := dn1 hX6_court_25
theorem dX6_court_26 : decode cX6_court 26 = .ok (.invokevirtual 70, 3) := dk182 hX6_court_26 rfl
theorem hX6_court_29 : cX6_court.data.toList.drop 29 = sX6_court_29 := dn3 hX6_court_26
theorem dX6_court_29 : decode cX6_court 29 = .ok (.istore_n 2, 1) := dk61 hX6_court_29
theorem hX6_court_30 : cX6_court.data.toList.drop 30 = sX6_court_30 := dn1 hX6_court_29
theorem dX6_court_30 : decode cX6_court 30 = .ok (.aload_n 0, 1) := dk42 hX6_court_30
theorem hX6_court_31 : cX6_court.data.toList.drop 31 = sX6_court_31 := dn1 hX6_court_30
theorem dX6_court_31 : decode cX6_court 31 = .ok (.aload_n 0, 1) := dk42 hX6_court_31
theorem hX6_court_32 : cX6_court.data.toList.drop 32 = sX6_court_32 := dn1 hX6_court_31
theorem dX6_court_32 : decode cX6_court 32 = .ok (.getfield 10, 3) := dk180 hX6_court_32 rfl
theorem hX6_court_35 : cX6_court.data.toList.drop 35 = sX6_court_35 := dn3 hX6_court_32
theorem dX6_court_35 : decode cX6_court 35 = .ok (.getfield 74, 3) := dk180 hX6_court_35 rfl
theorem hX6_court_38 : cX6_court.data.toList.drop 38 = sX6_court_38 := dn3 hX6_court_35
theorem dX6_court_38 : decode cX6_court 38 = .ok (.putfield 77, 3) := dk181 hX6_court_38 rfl
theorem hX6_court_41 : cX6_court.data.toList.drop 41 = sX6_court_41 := dn3 hX6_court_38
theorem dX6_court_41 : decode cX6_court 41 = .ok (.aload_n 0, 1) := dk42 hX6_court_41
theorem hX6_court_42 : cX6_court.data.toList.drop 42 = sX6_court_42 := dn1 hX6_court_41
theorem dX6_court_42 : decode cX6_court 42 = .ok (.aload_n 0, 1) := dk42 hX6_court_42
theorem hX6_court_43 : cX6_court.data.toList.drop 43 = sX6_court_43 := dn1 hX6_court_42
theorem dX6_court_43 : decode cX6_court 43 = .ok (.getfield 10, 3) := dk180 hX6_court_43 rfl
theorem hX6_court_46 : cX6_court.data.toList.drop 46 = sX6_court_46 := dn3 hX6_court_43
theorem dX6_court_46 : decode cX6_court 46 = .ok (.getfield 80, 3) := dk180 hX6_court_46 rfl
theorem hX6_court_49 : cX6_court.data.toList.drop 49 = sX6_court_49 := dn3 hX6_court_46
theorem dX6_court_49 : decode cX6_court 49 = .ok (.putfield 83, 3) := dk181 hX6_court_49 rfl
theorem hX6_court_52 : cX6_court.data.toList.drop 52 = sX6_court_52 := dn3 hX6_court_49
theorem dX6_court_52 : decode cX6_court 52 = .ok (.iload_n 2, 1) := dk28 hX6_court_52
theorem hX6_court_53 : cX6_court.data.toList.drop 53 = sX6_court_53 := dn1 hX6_court_52
theorem dX6_court_53 : decode cX6_court 53 = .ok (.ifCond .ne 9, 3) := dk154 hX6_court_53 (by decide)
theorem hX6_court_56 : cX6_court.data.toList.drop 56 = sX6_court_56 := dn3 hX6_court_53
theorem dX6_court_56 : decode cX6_court 56 = .ok (.aload_n 0, 1) := dk42 hX6_court_56
theorem hX6_court_57 : cX6_court.data.toList.drop 57 = sX6_court_57 := dn1 hX6_court_56
theorem dX6_court_57 : decode cX6_court 57 = .ok (.iconst 4, 1) := dk7 hX6_court_57
theorem hX6_court_58 : cX6_court.data.toList.drop 58 = sX6_court_58 := dn1 hX6_court_57
theorem dX6_court_58 : decode cX6_court 58 = .ok (.invokevirtual 66, 3) := dk182 hX6_court_58 rfl
theorem hX6_court_61 : cX6_court.data.toList.drop 61 = sX6_court_61 := dn3 hX6_court_58
theorem dX6_court_61 : decode cX6_court 61 = .ok (.ireturn, 1) := dk172 hX6_court_61
theorem hX6_court_62 : cX6_court.data.toList.drop 62 = sX6_court_62 := dn1 hX6_court_61
theorem dX6_court_62 : decode cX6_court 62 = .ok (.aload_n 0, 1) := dk42 hX6_court_62
theorem hX6_court_63 : cX6_court.data.toList.drop 63 = sX6_court_63 := dn1 hX6_court_62
theorem dX6_court_63 : decode cX6_court 63 = .ok (.aload_n 0, 1) := dk42 hX6_court_63
theorem hX6_court_64 : cX6_court.data.toList.drop 64 = sX6_court_64 := dn1 hX6_court_63
theorem dX6_court_64 : decode cX6_court 64 = .ok (.getfield 10, 3) := dk180 hX6_court_64 rfl
theorem hX6_court_67 : cX6_court.data.toList.drop 67 = sX6_court_67 := dn3 hX6_court_64
theorem dX6_court_67 : decode cX6_court 67 = .ok (.aload_n 0, 1) := dk42 hX6_court_67
theorem hX6_court_68 : cX6_court.data.toList.drop 68 = sX6_court_68 := dn1 hX6_court_67
theorem dX6_court_68 : decode cX6_court 68 = .ok (.getfield 19, 3) := dk180 hX6_court_68 rfl
theorem hX6_court_71 : cX6_court.data.toList.drop 71 = sX6_court_71 := dn3 hX6_court_68
theorem dX6_court_71 : decode cX6_court 71 = .ok (.invokevirtual 86, 3) := dk182 hX6_court_71 rfl
theorem hX6_court_74 : cX6_court.data.toList.drop 74 = sX6_court_74 := dn3 hX6_court_71
theorem dX6_court_74 : decode cX6_court 74 = .ok (.putfield 19, 3) := dk181 hX6_court_74 rfl
theorem hX6_court_77 : cX6_court.data.toList.drop 77 = sX6_court_77 := dn3 hX6_court_74
theorem dX6_court_77 : decode cX6_court 77 = .ok (.aload_n 0, 1) := dk42 hX6_court_77
theorem hX6_court_78 : cX6_court.data.toList.drop 78 = sX6_court_78 := dn1 hX6_court_77
theorem dX6_court_78 : decode cX6_court 78 = .ok (.getfield 26, 3) := dk180 hX6_court_78 rfl
theorem hX6_court_81 : cX6_court.data.toList.drop 81 = sX6_court_81 := dn3 hX6_court_78
theorem dX6_court_81 : decode cX6_court 81 = .ok (.aload_n 0, 1) := dk42 hX6_court_81
theorem hX6_court_82 : cX6_court.data.toList.drop 82 = sX6_court_82 := dn1 hX6_court_81
theorem dX6_court_82 : decode cX6_court 82 = .ok (.getfield 19, 3) := dk180 hX6_court_82 rfl
theorem hX6_court_85 : cX6_court.data.toList.drop 85 = sX6_court_85 := dn3 hX6_court_82
theorem dX6_court_85 : decode cX6_court 85 = .ok (.invokevirtual 90, 3) := dk182 hX6_court_85 rfl
theorem hX6_court_88 : cX6_court.data.toList.drop 88 = sX6_court_88 := dn3 hX6_court_85
theorem dX6_court_88 : decode cX6_court 88 = .ok (.aload_n 0, 1) := dk42 hX6_court_88
theorem hX6_court_89 : cX6_court.data.toList.drop 89 = sX6_court_89 := dn1 hX6_court_88
theorem dX6_court_89 : decode cX6_court 89 = .ok (.getfield 40, 3) := dk180 hX6_court_89 rfl
theorem hX6_court_92 : cX6_court.data.toList.drop 92 = sX6_court_92 := dn3 hX6_court_89
theorem dX6_court_92 : decode cX6_court 92 = .ok (.invokevirtual 94, 3) := dk182 hX6_court_92 rfl
theorem hX6_court_95 : cX6_court.data.toList.drop 95 = sX6_court_95 := dn3 hX6_court_92
theorem dX6_court_95 : decode cX6_court 95 = .ok (.aload_n 0, 1) := dk42 hX6_court_95
theorem hX6_court_96 : cX6_court.data.toList.drop 96 = sX6_court_96 := dn1 hX6_court_95
theorem dX6_court_96 : decode cX6_court 96 = .ok (.iconst 0, 1) := dk3 hX6_court_96
theorem hX6_court_97 : cX6_court.data.toList.drop 97 = sX6_court_97 := dn1 hX6_court_96
theorem dX6_court_97 : decode cX6_court 97 = .ok (.putfield 97, 3) := dk181 hX6_court_97 rfl
theorem hX6_court_100 : cX6_court.data.toList.drop 100 = sX6_court_100 := dn3 hX6_court_97
theorem dX6_court_100 : decode cX6_court 100 = .ok (.aload_n 0, 1) := dk42 hX6_court_100
theorem hX6_court_101 : cX6_court.data.toList.drop 101 = sX6_court_101 := dn1 hX6_court_100
theorem dX6_court_101 : decode cX6_court 101 = .ok (.iconst 0, 1) := dk3 hX6_court_101
theorem hX6_court_102 : cX6_court.data.toList.drop 102 = sX6_court_102 := dn1 hX6_court_101
theorem dX6_court_102 : decode cX6_court 102 = .ok (.putfield 100, 3) := dk181 hX6_court_102 rfl
theorem hX6_court_105 : cX6_court.data.toList.drop 105 = sX6_court_105 := dn3 hX6_court_102
theorem dX6_court_105 : decode cX6_court 105 = .ok (.aload_n 0, 1) := dk42 hX6_court_105
theorem hX6_court_106 : cX6_court.data.toList.drop 106 = sX6_court_106 := dn1 hX6_court_105
theorem dX6_court_106 : decode cX6_court 106 = .ok (.getfield 19, 3) := dk180 hX6_court_106 rfl
theorem hX6_court_109 : cX6_court.data.toList.drop 109 = sX6_court_109 := dn3 hX6_court_106
theorem dX6_court_109 : decode cX6_court 109 = .ok (.getfield 103, 3) := dk180 hX6_court_109 rfl
theorem hX6_court_112 : cX6_court.data.toList.drop 112 = sX6_court_112 := dn3 hX6_court_109
theorem dX6_court_112 : decode cX6_court 112 = .ok (.ireturn, 1) := dk172 hX6_court_112
noncomputable def sX6_cutAt_54 : List UInt8 := 172 :: []
noncomputable def sX6_cutAt_51 : List UInt8 := 182 :: 0 :: 190 :: sX6_cutAt_54
noncomputable def sX6_cutAt_50 : List UInt8 := 27 :: sX6_cutAt_51
noncomputable def sX6_cutAt_47 : List UInt8 := 180 :: 0 :: 47 :: sX6_cutAt_50
noncomputable def sX6_cutAt_46 : List UInt8 := 42 :: sX6_cutAt_47
noncomputable def sX6_cutAt_45 : List UInt8 := 172 :: sX6_cutAt_46
noncomputable def sX6_cutAt_42 : List UInt8 := 182 :: 0 :: 66 :: sX6_cutAt_45
noncomputable def sX6_cutAt_41 : List UInt8 := 4 :: sX6_cutAt_42
noncomputable def sX6_cutAt_40 : List UInt8 := 42 :: sX6_cutAt_41
noncomputable def sX6_cutAt_37 : List UInt8 := 161 :: 0 :: 9 :: sX6_cutAt_40
noncomputable def sX6_cutAt_34 : List UInt8 := 180 :: 0 :: 187 :: sX6_cutAt_37
noncomputable def sX6_cutAt_31 : List UInt8 := 180 :: 0 :: 47 :: sX6_cutAt_34
noncomputable def sX6_cutAt_30 : List UInt8 := 42 :: sX6_cutAt_31
noncomputable def sX6_cutAt_29 : List UInt8 := 27 :: sX6_cutAt_30
noncomputable def sX6_cutAt_26 : List UInt8 := 155 :: 0 :: 14 :: sX6_cutAt_29
noncomputable def sX6_cutAt_25 : List UInt8 := 27 :: sX6_cutAt_26
noncomputable def sX6_cutAt_24 : List UInt8 := 87 :: sX6_cutAt_25
noncomputable def sX6_cutAt_21 : List UInt8 := 182 :: 0 :: 177 :: sX6_cutAt_24
noncomputable def sX6_cutAt_18 : List UInt8 := 180 :: 0 :: 26 :: sX6_cutAt_21
noncomputable def sX6_cutAt_17 : List UInt8 := 42 :: sX6_cutAt_18
noncomputable def sX6_cutAt_14 : List UInt8 := 180 :: 0 :: 19 :: sX6_cutAt_17
noncomputable def sX6_cutAt_13 : List UInt8 := 42 :: sX6_cutAt_14
noncomputable def sX6_cutAt_10 : List UInt8 := 180 :: 0 :: 47 :: sX6_cutAt_13
noncomputable def sX6_cutAt_9 : List UInt8 := 42 :: sX6_cutAt_10
noncomputable def sX6_cutAt_8 : List UInt8 := 172 :: sX6_cutAt_9
noncomputable def sX6_cutAt_7 : List UInt8 := 2 :: sX6_cutAt_8
noncomputable def sX6_cutAt_4 : List UInt8 := 153 :: 0 :: 5 :: sX6_cutAt_7
noncomputable def sX6_cutAt_1 : List UInt8 := 182 :: 0 :: 140 :: sX6_cutAt_4
noncomputable def sX6_cutAt_0 : List UInt8 := 42 :: sX6_cutAt_1
set_option maxRecDepth 100000 in
theorem hX6_cutAt_0 : cX6_cutAt.data.toList.drop 0 = sX6_cutAt_0 := by decide +kernel
theorem dX6_cutAt_0 : decode cX6_cutAt 0 = .ok (.aload_n 0, 1) := dk42 hX6_cutAt_0
theorem hX6_cutAt_1 : cX6_cutAt.data.toList.drop 1 = sX6_cutAt_1 := dn1 hX6_cutAt_0
theorem dX6_cutAt_1 : decode cX6_cutAt 1 = .ok (.invokevirtual 140, 3) := dk182 hX6_cutAt_1 rfl
theorem hX6_cutAt_4 : cX6_cutAt.data.toList.drop 4 = sX6_cutAt_4 := dn3 hX6_cutAt_1
theorem dX6_cutAt_4 : decode cX6_cutAt 4 = .ok (.ifCond .eq 5, 3) := dk153 hX6_cutAt_4 (by decide)
theorem hX6_cutAt_7 : cX6_cutAt.data.toList.drop 7 = sX6_cutAt_7 := dn3 hX6_cutAt_4
theorem dX6_cutAt_7 : decode cX6_cutAt 7 = .ok (.iconst (-1), 1) := dk2 hX6_cutAt_7
theorem hX6_cutAt_8 : cX6_cutAt.data.toList.drop 8 = sX6_cutAt_8 := dn1 hX6_cutAt_7
theorem dX6_cutAt_8 : decode cX6_cutAt 8 = .ok (.ireturn, 1) := dk172 hX6_cutAt_8
theorem hX6_cutAt_9 : cX6_cutAt.data.toList.drop 9 = sX6_cutAt_9 := dn1 hX6_cutAt_8
theorem dX6_cutAt_9 : decode cX6_cutAt 9 = .ok (.aload_n 0, 1) := dk42 hX6_cutAt_9
theorem hX6_cutAt_10 : cX6_cutAt.data.toList.drop 10 = sX6_cutAt_10 := dn1 hX6_cutAt_9
theorem dX6_cutAt_10 : decode cX6_cutAt 10 = .ok (.getfield 47, 3) := dk180 hX6_cutAt_10 rfl
theorem hX6_cutAt_13 : cX6_cutAt.data.toList.drop 13 = sX6_cutAt_13 := dn3 hX6_cutAt_10
theorem dX6_cutAt_13 : decode cX6_cutAt 13 = .ok (.aload_n 0, 1) := dk42 hX6_cutAt_13
theorem hX6_cutAt_14 : cX6_cutAt.data.toList.drop 14 = sX6_cutAt_14 := dn1 hX6_cutAt_13
theorem dX6_cutAt_14 : decode cX6_cutAt 14 = .ok (.getfield 19, 3) := dk180 hX6_cutAt_14 rfl
theorem hX6_cutAt_17 : cX6_cutAt.data.toList.drop 17 = sX6_cutAt_17 := dn3 hX6_cutAt_14
theorem dX6_cutAt_17 : decode cX6_cutAt 17 = .ok (.aload_n 0, 1) := dk42 hX6_cutAt_17
theorem hX6_cutAt_18 : cX6_cutAt.data.toList.drop 18 = sX6_cutAt_18 := dn1 hX6_cutAt_17
theorem dX6_cutAt_18 : decode cX6_cutAt 18 = .ok (.getfield 26, 3) := dk180 hX6_cutAt_18 rfl
theorem hX6_cutAt_21 : cX6_cutAt.data.toList.drop 21 = sX6_cutAt_21 := dn3 hX6_cutAt_18
theorem dX6_cutAt_21 : decode cX6_cutAt 21 = .ok (.invokevirtual 177, 3) := dk182 hX6_cutAt_21 rfl
theorem hX6_cutAt_24 : cX6_cutAt.data.toList.drop 24 = sX6_cutAt_24 := dn3 hX6_cutAt_21
theorem dX6_cutAt_24 : decode cX6_cutAt 24 = .ok (.pop, 1) := dk87 hX6_cutAt_24
theorem hX6_cutAt_25 : cX6_cutAt.data.toList.drop 25 = sX6_cutAt_25 := dn1 hX6_cutAt_24
theorem dX6_cutAt_25 : decode cX6_cutAt 25 = .ok (.iload_n 1, 1) := dk27 hX6_cutAt_25
theorem hX6_cutAt_26 : cX6_cutAt.data.toList.drop 26 = sX6_cutAt_26 := dn1 hX6_cutAt_25
theorem dX6_cutAt_26 : decode cX6_cutAt 26 = .ok (.ifCond .lt 14, 3) := dk155 hX6_cutAt_26 (by decide)
theorem hX6_cutAt_29 : cX6_cutAt.data.toList.drop 29 = sX6_cutAt_29 := dn3 hX6_cutAt_26
theorem dX6_cutAt_29 : decode cX6_cutAt 29 = .ok (.iload_n 1, 1) := dk27 hX6_cutAt_29
theorem hX6_cutAt_30 : cX6_cutAt.data.toList.drop 30 = sX6_cutAt_30 := dn1 hX6_cutAt_29
theorem dX6_cutAt_30 : decode cX6_cutAt 30 = .ok (.aload_n 0, 1) := dk42 hX6_cutAt_30
theorem hX6_cutAt_31 : cX6_cutAt.data.toList.drop 31 = sX6_cutAt_31 := dn1 hX6_cutAt_30
theorem dX6_cutAt_31 : decode cX6_cutAt 31 = .ok (.getfield 47, 3) := dk180 hX6_cutAt_31 rfl
theorem hX6_cutAt_34 : cX6_cutAt.data.toList.drop 34 = sX6_cutAt_34 := dn3 hX6_cutAt_31
theorem dX6_cutAt_34 : decode cX6_cutAt 34 = .ok (.getfield 187, 3) := dk180 hX6_cutAt_34 rfl
theorem hX6_cutAt_37 : cX6_cutAt.data.toList.drop 37 = sX6_cutAt_37 := dn3 hX6_cutAt_34
theorem dX6_cutAt_37 : decode cX6_cutAt 37 = .ok (.if_icmp .lt 9, 3) := dk161 hX6_cutAt_37 (by decide)
theorem hX6_cutAt_40 : cX6_cutAt.data.toList.drop 40 = sX6_cutAt_40 := dn3 hX6_cutAt_37
theorem dX6_cutAt_40 : decode cX6_cutAt 40 = .ok (.aload_n 0, 1) := dk42 hX6_cutAt_40
theorem hX6_cutAt_41 : cX6_cutAt.data.toList.drop 41 = sX6_cutAt_41 := dn1 hX6_cutAt_40
theorem dX6_cutAt_41 : decode cX6_cutAt 41 = .ok (.iconst 1, 1) := dk4 hX6_cutAt_41
theorem hX6_cutAt_42 : cX6_cutAt.data.toList.drop 42 = sX6_cutAt_42 := dn1 hX6_cutAt_41
theorem dX6_cutAt_42 : decode cX6_cutAt 42 = .ok (.invokevirtual 66, 3) := dk182 hX6_cutAt_42 rfl
theorem hX6_cutAt_45 : cX6_cutAt.data.toList.drop 45 = sX6_cutAt_45 := dn3 hX6_cutAt_42
theorem dX6_cutAt_45 : decode cX6_cutAt 45 = .ok (.ireturn, 1) := dk172 hX6_cutAt_45
theorem hX6_cutAt_46 : cX6_cutAt.data.toList.drop 46 = sX6_cutAt_46 := dn1 hX6_cutAt_45
theorem dX6_cutAt_46 : decode cX6_cutAt 46 = .ok (.aload_n 0, 1) := dk42 hX6_cutAt_46
theorem hX6_cutAt_47 : cX6_cutAt.data.toList.drop 47 = sX6_cutAt_47 := dn1 hX6_cutAt_46
theorem dX6_cutAt_47 : decode cX6_cutAt 47 = .ok (.getfield 47, 3) := dk180 hX6_cutAt_47 rfl
theorem hX6_cutAt_50 : cX6_cutAt.data.toList.drop 50 = sX6_cutAt_50 := dn3 hX6_cutAt_47
theorem dX6_cutAt_50 : decode cX6_cutAt 50 = .ok (.iload_n 1, 1) := dk27 hX6_cutAt_50
theorem hX6_cutAt_51 : cX6_cutAt.data.toList.drop 51 = sX6_cutAt_51 := dn1 hX6_cutAt_50
theorem dX6_cutAt_51 : decode cX6_cutAt 51 = .ok (.invokevirtual 190, 3) := dk182 hX6_cutAt_51 rfl
theorem hX6_cutAt_54 : cX6_cutAt.data.toList.drop 54 = sX6_cutAt_54 := dn3 hX6_cutAt_51
theorem dX6_cutAt_54 : decode cX6_cutAt 54 = .ok (.ireturn, 1) := dk172 hX6_cutAt_54
noncomputable def sX6_cuts_32 : List UInt8 := 172 :: []
noncomputable def sX6_cuts_29 : List UInt8 := 180 :: 0 :: 187 :: sX6_cuts_32
noncomputable def sX6_cuts_26 : List UInt8 := 180 :: 0 :: 47 :: sX6_cuts_29
noncomputable def sX6_cuts_25 : List UInt8 := 42 :: sX6_cuts_26
noncomputable def sX6_cuts_24 : List UInt8 := 87 :: sX6_cuts_25
noncomputable def sX6_cuts_21 : List UInt8 := 182 :: 0 :: 177 :: sX6_cuts_24
noncomputable def sX6_cuts_18 : List UInt8 := 180 :: 0 :: 26 :: sX6_cuts_21
noncomputable def sX6_cuts_17 : List UInt8 := 42 :: sX6_cuts_18
noncomputable def sX6_cuts_14 : List UInt8 := 180 :: 0 :: 19 :: sX6_cuts_17
noncomputable def sX6_cuts_13 : List UInt8 := 42 :: sX6_cuts_14
noncomputable def sX6_cuts_10 : List UInt8 := 180 :: 0 :: 47 :: sX6_cuts_13
noncomputable def sX6_cuts_9 : List UInt8 := 42 :: sX6_cuts_10
noncomputable def sX6_cuts_8 : List UInt8 := 172 :: sX6_cuts_9
noncomputable def sX6_cuts_7 : List UInt8 := 2 :: sX6_cuts_8
noncomputable def sX6_cuts_4 : List UInt8 := 153 :: 0 :: 5 :: sX6_cuts_7
noncomputable def sX6_cuts_1 : List UInt8 := 182 :: 0 :: 140 :: sX6_cuts_4
noncomputable def sX6_cuts_0 : List UInt8 := 42 :: sX6_cuts_1
set_option maxRecDepth 100000 in
theorem hX6_cuts_0 : cX6_cuts.data.toList.drop 0 = sX6_cuts_0 := by decide +kernel
theorem dX6_cuts_0 : decode cX6_cuts 0 = .ok (.aload_n 0, 1) := dk42 hX6_cuts_0
theorem hX6_cuts_1 : cX6_cuts.data.toList.drop 1 = sX6_cuts_1 := dn1 hX6_cuts_0
theorem dX6_cuts_1 : decode cX6_cuts 1 = .ok (.invokevirtual 140, 3) := dk182 hX6_cuts_1 rfl
theorem hX6_cuts_4 : cX6_cuts.data.toList.drop 4 = sX6_cuts_4 := dn3 hX6_cuts_1
theorem dX6_cuts_4 : decode cX6_cuts 4 = .ok (.ifCond .eq 5, 3) := dk153 hX6_cuts_4 (by decide)
theorem hX6_cuts_7 : cX6_cuts.data.toList.drop 7 = sX6_cuts_7 := dn3 hX6_cuts_4
theorem dX6_cuts_7 : decode cX6_cuts 7 = .ok (.iconst (-1), 1) := dk2 hX6_cuts_7
theorem hX6_cuts_8 : cX6_cuts.data.toList.drop 8 = sX6_cuts_8 := dn1 hX6_cuts_7
theorem dX6_cuts_8 : decode cX6_cuts 8 = .ok (.ireturn, 1) := dk172 hX6_cuts_8
theorem hX6_cuts_9 : cX6_cuts.data.toList.drop 9 = sX6_cuts_9 := dn1 hX6_cuts_8
theorem dX6_cuts_9 : decode cX6_cuts 9 = .ok (.aload_n 0, 1) := dk42 hX6_cuts_9
theorem hX6_cuts_10 : cX6_cuts.data.toList.drop 10 = sX6_cuts_10 := dn1 hX6_cuts_9
theorem dX6_cuts_10 : decode cX6_cuts 10 = .ok (.getfield 47, 3) := dk180 hX6_cuts_10 rfl
theorem hX6_cuts_13 : cX6_cuts.data.toList.drop 13 = sX6_cuts_13 := dn3 hX6_cuts_10
theorem dX6_cuts_13 : decode cX6_cuts 13 = .ok (.aload_n 0, 1) := dk42 hX6_cuts_13
theorem hX6_cuts_14 : cX6_cuts.data.toList.drop 14 = sX6_cuts_14 := dn1 hX6_cuts_13
theorem dX6_cuts_14 : decode cX6_cuts 14 = .ok (.getfield 19, 3) := dk180 hX6_cuts_14 rfl
theorem hX6_cuts_17 : cX6_cuts.data.toList.drop 17 = sX6_cuts_17 := dn3 hX6_cuts_14
theorem dX6_cuts_17 : decode cX6_cuts 17 = .ok (.aload_n 0, 1) := dk42 hX6_cuts_17
theorem hX6_cuts_18 : cX6_cuts.data.toList.drop 18 = sX6_cuts_18 := dn1 hX6_cuts_17
theorem dX6_cuts_18 : decode cX6_cuts 18 = .ok (.getfield 26, 3) := dk180 hX6_cuts_18 rfl
theorem hX6_cuts_21 : cX6_cuts.data.toList.drop 21 = sX6_cuts_21 := dn3 hX6_cuts_18
theorem dX6_cuts_21 : decode cX6_cuts 21 = .ok (.invokevirtual 177, 3) := dk182 hX6_cuts_21 rfl
theorem hX6_cuts_24 : cX6_cuts.data.toList.drop 24 = sX6_cuts_24 := dn3 hX6_cuts_21
theorem dX6_cuts_24 : decode cX6_cuts 24 = .ok (.pop, 1) := dk87 hX6_cuts_24
theorem hX6_cuts_25 : cX6_cuts.data.toList.drop 25 = sX6_cuts_25 := dn1 hX6_cuts_24
theorem dX6_cuts_25 : decode cX6_cuts 25 = .ok (.aload_n 0, 1) := dk42 hX6_cuts_25
theorem hX6_cuts_26 : cX6_cuts.data.toList.drop 26 = sX6_cuts_26 := dn1 hX6_cuts_25
theorem dX6_cuts_26 : decode cX6_cuts 26 = .ok (.getfield 47, 3) := dk180 hX6_cuts_26 rfl
theorem hX6_cuts_29 : cX6_cuts.data.toList.drop 29 = sX6_cuts_29 := dn3 hX6_cuts_26
theorem dX6_cuts_29 : decode cX6_cuts 29 = .ok (.getfield 187, 3) := dk180 hX6_cuts_29 rfl
theorem hX6_cuts_32 : cX6_cuts.data.toList.drop 32 = sX6_cuts_32 := dn3 hX6_cuts_29
theorem dX6_cuts_32 : decode cX6_cuts 32 = .ok (.ireturn, 1) := dk172 hX6_cuts_32
noncomputable def sX6_disproof_21 : List UInt8 := 172 :: []
noncomputable def sX6_disproof_18 : List UInt8 := 182 :: 0 :: 221 :: sX6_disproof_21
noncomputable def sX6_disproof_17 : List UInt8 := 27 :: sX6_disproof_18
noncomputable def sX6_disproof_16 : List UInt8 := 4 :: sX6_disproof_17
noncomputable def sX6_disproof_15 : List UInt8 := 42 :: sX6_disproof_16
noncomputable def sX6_disproof_12 : List UInt8 := 167 :: 0 :: 9 :: sX6_disproof_15
noncomputable def sX6_disproof_11 : List UInt8 := 2 :: sX6_disproof_12
noncomputable def sX6_disproof_8 : List UInt8 := 153 :: 0 :: 7 :: sX6_disproof_11
noncomputable def sX6_disproof_5 : List UInt8 := 182 :: 0 :: 203 :: sX6_disproof_8
noncomputable def sX6_disproof_3 : List UInt8 := 16 :: 100 :: sX6_disproof_5
noncomputable def sX6_disproof_2 : List UInt8 := 3 :: sX6_disproof_3
noncomputable def sX6_disproof_1 : List UInt8 := 27 :: sX6_disproof_2
noncomputable def sX6_disproof_0 : List UInt8 := 42 :: sX6_disproof_1
set_option maxRecDepth 100000 in
theorem hX6_disproof_0 : cX6_disproof.data.toList.drop 0 = sX6_disproof_0 := by decide +kernel
theorem dX6_disproof_0 : decode cX6_disproof 0 = .ok (.aload_n 0, 1) := dk42 hX6_disproof_0
theorem hX6_disproof_1 : cX6_disproof.data.toList.drop 1 = sX6_disproof_1 := dn1 hX6_disproof_0
theorem dX6_disproof_1 : decode cX6_disproof 1 = .ok (.iload_n 1, 1) := dk27 hX6_disproof_1
theorem hX6_disproof_2 : cX6_disproof.data.toList.drop 2 = sX6_disproof_2 := dn1 hX6_disproof_1
theorem dX6_disproof_2 : decode cX6_disproof 2 = .ok (.iconst 0, 1) := dk3 hX6_disproof_2
theorem hX6_disproof_3 : cX6_disproof.data.toList.drop 3 = sX6_disproof_3 := dn1 hX6_disproof_2
theorem dX6_disproof_3 : decode cX6_disproof 3 = .ok (.bipush 100, 2) := dk16 hX6_disproof_3 (by decide)
theorem hX6_disproof_5 : cX6_disproof.data.toList.drop 5 = sX6_disproof_5 := dn2 hX6_disproof_3
theorem dX6_disproof_5 : decode cX6_disproof 5 = .ok (.invokevirtual 203, 3) := dk182 hX6_disproof_5 rfl
theorem hX6_disproof_8 : cX6_disproof.data.toList.drop 8 = sX6_disproof_8 := dn3 hX6_disproof_5
theorem dX6_disproof_8 : decode cX6_disproof 8 = .ok (.ifCond .eq 7, 3) := dk153 hX6_disproof_8 (by decide)
theorem hX6_disproof_11 : cX6_disproof.data.toList.drop 11 = sX6_disproof_11 := dn3 hX6_disproof_8
theorem dX6_disproof_11 : decode cX6_disproof 11 = .ok (.iconst (-1), 1) := dk2 hX6_disproof_11
theorem hX6_disproof_12 : cX6_disproof.data.toList.drop 12 = sX6_disproof_12 := dn1 hX6_disproof_11
theorem dX6_disproof_12 : decode cX6_disproof 12 = .ok (.goto 9, 3) := dk167 hX6_disproof_12 (by decide)
theorem hX6_disproof_15 : cX6_disproof.data.toList.drop 15 = sX6_disproof_15 := dn3 hX6_disproof_12
theorem dX6_disproof_15 : decode cX6_disproof 15 = .ok (.aload_n 0, 1) := dk42 hX6_disproof_15
theorem hX6_disproof_16 : cX6_disproof.data.toList.drop 16 = sX6_disproof_16 := dn1 hX6_disproof_15
theorem dX6_disproof_16 : decode cX6_disproof 16 = .ok (.iconst 1, 1) := dk4 hX6_disproof_16
theorem hX6_disproof_17 : cX6_disproof.data.toList.drop 17 = sX6_disproof_17 := dn1 hX6_disproof_16
theorem dX6_disproof_17 : decode cX6_disproof 17 = .ok (.iload_n 1, 1) := dk27 hX6_disproof_17
theorem hX6_disproof_18 : cX6_disproof.data.toList.drop 18 = sX6_disproof_18 := dn1 hX6_disproof_17
theorem dX6_disproof_18 : decode cX6_disproof 18 = .ok (.invokevirtual 221, 3) := dk182 hX6_disproof_18 rfl
theorem hX6_disproof_21 : cX6_disproof.data.toList.drop 21 = sX6_disproof_21 := dn3 hX6_disproof_18
theorem dX6_disproof_21 : decode cX6_disproof 21 = .ok (.ireturn, 1) := dk172 hX6_disproof_21
noncomputable def sX6_drawOrders_68 : List UInt8 := 172 :: []
noncomputable def sX6_drawOrders_67 : List UInt8 := 28 :: sX6_drawOrders_68
noncomputable def sX6_drawOrders_64 : List UInt8 := 167 :: 255 :: 196 :: sX6_drawOrders_67
noncomputable def sX6_drawOrders_61 : List UInt8 := 132 :: 3 :: 1 :: sX6_drawOrders_64
noncomputable def sX6_drawOrders_58 : List UInt8 := 182 :: 1 :: 86 :: sX6_drawOrders_61
noncomputable def sX6_drawOrders_57 : List UInt8 := 112 :: sX6_drawOrders_58
noncomputable def sX6_drawOrders_55 : List UInt8 := 21 :: 4 :: sX6_drawOrders_57
noncomputable def sX6_drawOrders_54 : List UInt8 := 28 :: sX6_drawOrders_55
noncomputable def sX6_drawOrders_52 : List UInt8 := 21 :: 4 :: sX6_drawOrders_54
noncomputable def sX6_drawOrders_51 : List UInt8 := 29 :: sX6_drawOrders_52
noncomputable def sX6_drawOrders_48 : List UInt8 := 180 :: 0 :: 26 :: sX6_drawOrders_51
noncomputable def sX6_drawOrders_47 : List UInt8 := 42 :: sX6_drawOrders_48
noncomputable def sX6_drawOrders_44 : List UInt8 := 180 :: 0 :: 30 :: sX6_drawOrders_47
noncomputable def sX6_drawOrders_43 : List UInt8 := 42 :: sX6_drawOrders_44
noncomputable def sX6_drawOrders_42 : List UInt8 := 61 :: sX6_drawOrders_43
noncomputable def sX6_drawOrders_41 : List UInt8 := 112 :: sX6_drawOrders_42
noncomputable def sX6_drawOrders_38 : List UInt8 := 19 :: 1 :: 85 :: sX6_drawOrders_41
noncomputable def sX6_drawOrders_37 : List UInt8 := 96 :: sX6_drawOrders_38
noncomputable def sX6_drawOrders_35 : List UInt8 := 16 :: 74 :: sX6_drawOrders_37
noncomputable def sX6_drawOrders_34 : List UInt8 := 104 :: sX6_drawOrders_35
noncomputable def sX6_drawOrders_33 : List UInt8 := 28 :: sX6_drawOrders_34
noncomputable def sX6_drawOrders_31 : List UInt8 := 16 :: 75 :: sX6_drawOrders_33
noncomputable def sX6_drawOrders_28 : List UInt8 := 158 :: 0 :: 33 :: sX6_drawOrders_31
noncomputable def sX6_drawOrders_26 : List UInt8 := 21 :: 4 :: sX6_drawOrders_28
noncomputable def sX6_drawOrders_24 : List UInt8 := 54 :: 4 :: sX6_drawOrders_26
noncomputable def sX6_drawOrders_23 : List UInt8 := 46 :: sX6_drawOrders_24
noncomputable def sX6_drawOrders_22 : List UInt8 := 29 :: sX6_drawOrders_23
noncomputable def sX6_drawOrders_19 : List UInt8 := 180 :: 0 :: 113 :: sX6_drawOrders_22
noncomputable def sX6_drawOrders_16 : List UInt8 := 180 :: 0 :: 19 :: sX6_drawOrders_19
noncomputable def sX6_drawOrders_15 : List UInt8 := 42 :: sX6_drawOrders_16
noncomputable def sX6_drawOrders_12 : List UInt8 := 162 :: 0 :: 55 :: sX6_drawOrders_15
noncomputable def sX6_drawOrders_9 : List UInt8 := 180 :: 0 :: 103 :: sX6_drawOrders_12
noncomputable def sX6_drawOrders_6 : List UInt8 := 180 :: 0 :: 19 :: sX6_drawOrders_9
noncomputable def sX6_drawOrders_5 : List UInt8 := 42 :: sX6_drawOrders_6
noncomputable def sX6_drawOrders_4 : List UInt8 := 29 :: sX6_drawOrders_5
noncomputable def sX6_drawOrders_3 : List UInt8 := 62 :: sX6_drawOrders_4
noncomputable def sX6_drawOrders_2 : List UInt8 := 3 :: sX6_drawOrders_3
noncomputable def sX6_drawOrders_1 : List UInt8 := 61 :: sX6_drawOrders_2
noncomputable def sX6_drawOrders_0 : List UInt8 := 27 :: sX6_drawOrders_1
set_option maxRecDepth 100000 in
theorem hX6_drawOrders_0 : cX6_drawOrders.data.toList.drop 0 = sX6_drawOrders_0 := by decide +kernel
theorem dX6_drawOrders_0 : decode cX6_drawOrders 0 = .ok (.iload_n 1, 1) := dk27 hX6_drawOrders_0
theorem hX6_drawOrders_1 : cX6_drawOrders.data.toList.drop 1 = sX6_drawOrders_1 := dn1 hX6_drawOrders_0
theorem dX6_drawOrders_1 : decode cX6_drawOrders 1 = .ok (.istore_n 2, 1) := dk61 hX6_drawOrders_1
theorem hX6_drawOrders_2 : cX6_drawOrders.data.toList.drop 2 = sX6_drawOrders_2 := dn1 hX6_drawOrders_1
theorem dX6_drawOrders_2 : decode cX6_drawOrders 2 = .ok (.iconst 0, 1) := dk3 hX6_drawOrders_2
theorem hX6_drawOrders_3 : cX6_drawOrders.data.toList.drop 3 = sX6_drawOrders_3 := dn1 hX6_drawOrders_2
theorem dX6_drawOrders_3 : decode cX6_drawOrders 3 = .ok (.istore_n 3, 1) := dk62 hX6_drawOrders_3
theorem hX6_drawOrders_4 : cX6_drawOrders.data.toList.drop 4 = sX6_drawOrders_4 := dn1 hX6_drawOrders_3
theorem dX6_drawOrders_4 : decode cX6_drawOrders 4 = .ok (.iload_n 3, 1) := dk29 hX6_drawOrders_4
theorem hX6_drawOrders_5 : cX6_drawOrders.data.toList.drop 5 = sX6_drawOrders_5 := dn1 hX6_drawOrders_4
theorem dX6_drawOrders_5 : decode cX6_drawOrders 5 = .ok (.aload_n 0, 1) := dk42 hX6_drawOrders_5
theorem hX6_drawOrders_6 : cX6_drawOrders.data.toList.drop 6 = sX6_drawOrders_6 := dn1 hX6_drawOrders_5
theorem dX6_drawOrders_6 : decode cX6_drawOrders 6 = .ok (.getfield 19, 3) := dk180 hX6_drawOrders_6 rfl
theorem hX6_drawOrders_9 : cX6_drawOrders.data.toList.drop 9 = sX6_drawOrders_9 := dn3 hX6_drawOrders_6
theorem dX6_drawOrders_9 : decode cX6_drawOrders 9 = .ok (.getfield 103, 3) := dk180 hX6_drawOrders_9 rfl
theorem hX6_drawOrders_12 : cX6_drawOrders.data.toList.drop 12 = sX6_drawOrders_12 := dn3 hX6_drawOrders_9
theorem dX6_drawOrders_12 : decode cX6_drawOrders 12 = .ok (.if_icmp .ge 55, 3) := dk162 hX6_drawOrders_12 (by decide)
theorem hX6_drawOrders_15 : cX6_drawOrders.data.toList.drop 15 = sX6_drawOrders_15 := dn3 hX6_drawOrders_12
theorem dX6_drawOrders_15 : decode cX6_drawOrders 15 = .ok (.aload_n 0, 1) := dk42 hX6_drawOrders_15
theorem hX6_drawOrders_16 : cX6_drawOrders.data.toList.drop 16 = sX6_drawOrders_16 := dn1 hX6_drawOrders_15
theorem dX6_drawOrders_16 : decode cX6_drawOrders 16 = .ok (.getfield 19, 3) := dk180 hX6_drawOrders_16 rfl
theorem hX6_drawOrders_19 : cX6_drawOrders.data.toList.drop 19 = sX6_drawOrders_19 := dn3 hX6_drawOrders_16
theorem dX6_drawOrders_19 : decode cX6_drawOrders 19 = .ok (.getfield 113, 3) := dk180 hX6_drawOrders_19 rfl
theorem hX6_drawOrders_22 : cX6_drawOrders.data.toList.drop 22 = sX6_drawOrders_22 := dn3 hX6_drawOrders_19
theorem dX6_drawOrders_22 : decode cX6_drawOrders 22 = .ok (.iload_n 3, 1) := dk29 hX6_drawOrders_22
theorem hX6_drawOrders_23 : cX6_drawOrders.data.toList.drop 23 = sX6_drawOrders_23 := dn1 hX6_drawOrders_22
theorem dX6_drawOrders_23 : decode cX6_drawOrders 23 = .ok (.iaload, 1) := dk46 hX6_drawOrders_23
theorem hX6_drawOrders_24 : cX6_drawOrders.data.toList.drop 24 = sX6_drawOrders_24 := dn1 hX6_drawOrders_23
theorem dX6_drawOrders_24 : decode cX6_drawOrders 24 = .ok (.istore 4, 2) := dk54 hX6_drawOrders_24 rfl
theorem hX6_drawOrders_26 : cX6_drawOrders.data.toList.drop 26 = sX6_drawOrders_26 := dn2 hX6_drawOrders_24
theorem dX6_drawOrders_26 : decode cX6_drawOrders 26 = .ok (.iload 4, 2) := dk21 hX6_drawOrders_26 rfl
theorem hX6_drawOrders_28 : cX6_drawOrders.data.toList.drop 28 = sX6_drawOrders_28 := dn2 hX6_drawOrders_26
theorem dX6_drawOrders_28 : decode cX6_drawOrders 28 = .ok (.ifCond .le 33, 3) := dk158 hX6_drawOrders_28 (by decide)
theorem hX6_drawOrders_31 : cX6_drawOrders.data.toList.drop 31 = sX6_drawOrders_31 := dn3 hX6_drawOrders_28
theorem dX6_drawOrders_31 : decode cX6_drawOrders 31 = .ok (.bipush 75, 2) := dk16 hX6_drawOrders_31 (by decide)
theorem hX6_drawOrders_33 : cX6_drawOrders.data.toList.drop 33 = sX6_drawOrders_33 := dn2 hX6_drawOrders_31
theorem dX6_drawOrders_33 : decode cX6_drawOrders 33 = .ok (.iload_n 2, 1) := dk28 hX6_drawOrders_33
theorem hX6_drawOrders_34 : cX6_drawOrders.data.toList.drop 34 = sX6_drawOrders_34 := dn1 hX6_drawOrders_33
theorem dX6_drawOrders_34 : decode cX6_drawOrders 34 = .ok (.imul, 1) := dk104 hX6_drawOrders_34
theorem hX6_drawOrders_35 : cX6_drawOrders.data.toList.drop 35 = sX6_drawOrders_35 := dn1 hX6_drawOrders_34
theorem dX6_drawOrders_35 : decode cX6_drawOrders 35 = .ok (.bipush 74, 2) := dk16 hX6_drawOrders_35 (by decide)
theorem hX6_drawOrders_37 : cX6_drawOrders.data.toList.drop 37 = sX6_drawOrders_37 := dn2 hX6_drawOrders_35
theorem dX6_drawOrders_37 : decode cX6_drawOrders 37 = .ok (.iadd, 1) := dk96 hX6_drawOrders_37
theorem hX6_drawOrders_38 : cX6_drawOrders.data.toList.drop 38 = sX6_drawOrders_38 := dn1 hX6_drawOrders_37
theorem dX6_drawOrders_38 : decode cX6_drawOrders 38 = .ok (.ldc_w 341, 3) := dk19 hX6_drawOrders_38 rfl
theorem hX6_drawOrders_41 : cX6_drawOrders.data.toList.drop 41 = sX6_drawOrders_41 := dn3 hX6_drawOrders_38
theorem dX6_drawOrders_41 : decode cX6_drawOrders 41 = .ok (.irem, 1) := dk112 hX6_drawOrders_41
theorem hX6_drawOrders_42 : cX6_drawOrders.data.toList.drop 42 = sX6_drawOrders_42 := dn1 hX6_drawOrders_41
theorem dX6_drawOrders_42 : decode cX6_drawOrders 42 = .ok (.istore_n 2, 1) := dk61 hX6_drawOrders_42
theorem hX6_drawOrders_43 : cX6_drawOrders.data.toList.drop 43 = sX6_drawOrders_43 := dn1 hX6_drawOrders_42
theorem dX6_drawOrders_43 : decode cX6_drawOrders 43 = .ok (.aload_n 0, 1) := dk42 hX6_drawOrders_43
theorem hX6_drawOrders_44 : cX6_drawOrders.data.toList.drop 44 = sX6_drawOrders_44 := dn1 hX6_drawOrders_43
theorem dX6_drawOrders_44 : decode cX6_drawOrders 44 = .ok (.getfield 30, 3) := dk180 hX6_drawOrders_44 rfl
theorem hX6_drawOrders_47 : cX6_drawOrders.data.toList.drop 47 = sX6_drawOrders_47 := dn3 hX6_drawOrders_44
theorem dX6_drawOrders_47 : decode cX6_drawOrders 47 = .ok (.aload_n 0, 1) := dk42 hX6_drawOrders_47
theorem hX6_drawOrders_48 : cX6_drawOrders.data.toList.drop 48 = sX6_drawOrders_48 := dn1 hX6_drawOrders_47
theorem dX6_drawOrders_48 : decode cX6_drawOrders 48 = .ok (.getfield 26, 3) := dk180 hX6_drawOrders_48 rfl
theorem hX6_drawOrders_51 : cX6_drawOrders.data.toList.drop 51 = sX6_drawOrders_51 := dn3 hX6_drawOrders_48
theorem dX6_drawOrders_51 : decode cX6_drawOrders 51 = .ok (.iload_n 3, 1) := dk29 hX6_drawOrders_51
theorem hX6_drawOrders_52 : cX6_drawOrders.data.toList.drop 52 = sX6_drawOrders_52 := dn1 hX6_drawOrders_51
theorem dX6_drawOrders_52 : decode cX6_drawOrders 52 = .ok (.iload 4, 2) := dk21 hX6_drawOrders_52 rfl
theorem hX6_drawOrders_54 : cX6_drawOrders.data.toList.drop 54 = sX6_drawOrders_54 := dn2 hX6_drawOrders_52
theorem dX6_drawOrders_54 : decode cX6_drawOrders 54 = .ok (.iload_n 2, 1) := dk28 hX6_drawOrders_54
theorem hX6_drawOrders_55 : cX6_drawOrders.data.toList.drop 55 = sX6_drawOrders_55 := dn1 hX6_drawOrders_54
theorem dX6_drawOrders_55 : decode cX6_drawOrders 55 = .ok (.iload 4, 2) := dk21 hX6_drawOrders_55 rfl
theorem hX6_drawOrders_57 : cX6_drawOrders.data.toList.drop 57 = sX6_drawOrders_57 := dn2 hX6_drawOrders_55
theorem dX6_drawOrders_57 : decode cX6_drawOrders 57 = .ok (.irem, 1) := dk112 hX6_drawOrders_57
theorem hX6_drawOrders_58 : cX6_drawOrders.data.toList.drop 58 = sX6_drawOrders_58 := dn1 hX6_drawOrders_57
theorem dX6_drawOrders_58 : decode cX6_drawOrders 58 = .ok (.invokevirtual 342, 3) := dk182 hX6_drawOrders_58 rfl
theorem hX6_drawOrders_61 : cX6_drawOrders.data.toList.drop 61 = sX6_drawOrders_61 := dn3 hX6_drawOrders_58
theorem dX6_drawOrders_61 : decode cX6_drawOrders 61 = .ok (.iinc 3 1, 3) := dk132 hX6_drawOrders_61 rfl (by decide)
theorem hX6_drawOrders_64 : cX6_drawOrders.data.toList.drop 64 = sX6_drawOrders_64 := dn3 hX6_drawOrders_61
theorem dX6_drawOrders_64 : decode cX6_drawOrders 64 = .ok (.goto (-60), 3) := dk167 hX6_drawOrders_64 (by decide)
theorem hX6_drawOrders_67 : cX6_drawOrders.data.toList.drop 67 = sX6_drawOrders_67 := dn3 hX6_drawOrders_64
theorem dX6_drawOrders_67 : decode cX6_drawOrders 67 = .ok (.iload_n 2, 1) := dk28 hX6_drawOrders_67
theorem hX6_drawOrders_68 : cX6_drawOrders.data.toList.drop 68 = sX6_drawOrders_68 := dn1 hX6_drawOrders_67
theorem dX6_drawOrders_68 : decode cX6_drawOrders 68 = .ok (.ireturn, 1) := dk172 hX6_drawOrders_68
noncomputable def sX6_drawn_60 : List UInt8 := 172 :: []
noncomputable def sX6_drawn_57 : List UInt8 := 182 :: 0 :: 177 :: sX6_drawn_60
noncomputable def sX6_drawn_54 : List UInt8 := 180 :: 0 :: 30 :: sX6_drawn_57
noncomputable def sX6_drawn_53 : List UInt8 := 42 :: sX6_drawn_54
noncomputable def sX6_drawn_50 : List UInt8 := 180 :: 0 :: 19 :: sX6_drawn_53
noncomputable def sX6_drawn_49 : List UInt8 := 42 :: sX6_drawn_50
noncomputable def sX6_drawn_46 : List UInt8 := 180 :: 0 :: 47 :: sX6_drawn_49
noncomputable def sX6_drawn_45 : List UInt8 := 42 :: sX6_drawn_46
noncomputable def sX6_drawn_42 : List UInt8 := 167 :: 255 :: 241 :: sX6_drawn_45
noncomputable def sX6_drawn_39 : List UInt8 := 132 :: 4 :: 1 :: sX6_drawn_42
noncomputable def sX6_drawn_38 : List UInt8 := 62 :: sX6_drawn_39
noncomputable def sX6_drawn_35 : List UInt8 := 182 :: 1 :: 81 :: sX6_drawn_38
noncomputable def sX6_drawn_34 : List UInt8 := 29 :: sX6_drawn_35
noncomputable def sX6_drawn_33 : List UInt8 := 42 :: sX6_drawn_34
noncomputable def sX6_drawn_30 : List UInt8 := 162 :: 0 :: 15 :: sX6_drawn_33
noncomputable def sX6_drawn_29 : List UInt8 := 28 :: sX6_drawn_30
noncomputable def sX6_drawn_27 : List UInt8 := 21 :: 4 :: sX6_drawn_29
noncomputable def sX6_drawn_25 : List UInt8 := 54 :: 4 :: sX6_drawn_27
noncomputable def sX6_drawn_24 : List UInt8 := 3 :: sX6_drawn_25
noncomputable def sX6_drawn_23 : List UInt8 := 62 :: sX6_drawn_24
noncomputable def sX6_drawn_22 : List UInt8 := 27 :: sX6_drawn_23
noncomputable def sX6_drawn_19 : List UInt8 := 182 :: 0 :: 241 :: sX6_drawn_22
noncomputable def sX6_drawn_16 : List UInt8 := 180 :: 0 :: 26 :: sX6_drawn_19
noncomputable def sX6_drawn_15 : List UInt8 := 42 :: sX6_drawn_16
noncomputable def sX6_drawn_12 : List UInt8 := 180 :: 0 :: 30 :: sX6_drawn_15
noncomputable def sX6_drawn_11 : List UInt8 := 42 :: sX6_drawn_12
noncomputable def sX6_drawn_10 : List UInt8 := 172 :: sX6_drawn_11
noncomputable def sX6_drawn_9 : List UInt8 := 2 :: sX6_drawn_10
noncomputable def sX6_drawn_6 : List UInt8 := 153 :: 0 :: 5 :: sX6_drawn_9
noncomputable def sX6_drawn_3 : List UInt8 := 182 :: 1 :: 78 :: sX6_drawn_6
noncomputable def sX6_drawn_2 : List UInt8 := 28 :: sX6_drawn_3
noncomputable def sX6_drawn_1 : List UInt8 := 27 :: sX6_drawn_2
noncomputable def sX6_drawn_0 : List UInt8 := 42 :: sX6_drawn_1
set_option maxRecDepth 100000 in
theorem hX6_drawn_0 : cX6_drawn.data.toList.drop 0 = sX6_drawn_0 := by decide +kernel
theorem dX6_drawn_0 : decode cX6_drawn 0 = .ok (.aload_n 0, 1) := dk42 hX6_drawn_0
theorem hX6_drawn_1 : cX6_drawn.data.toList.drop 1 = sX6_drawn_1 := dn1 hX6_drawn_0
theorem dX6_drawn_1 : decode cX6_drawn 1 = .ok (.iload_n 1, 1) := dk27 hX6_drawn_1
theorem hX6_drawn_2 : cX6_drawn.data.toList.drop 2 = sX6_drawn_2 := dn1 hX6_drawn_1
theorem dX6_drawn_2 : decode cX6_drawn 2 = .ok (.iload_n 2, 1) := dk28 hX6_drawn_2
theorem hX6_drawn_3 : cX6_drawn.data.toList.drop 3 = sX6_drawn_3 := dn1 hX6_drawn_2
theorem dX6_drawn_3 : decode cX6_drawn 3 = .ok (.invokevirtual 334, 3) := dk182 hX6_drawn_3 rfl
theorem hX6_drawn_6 : cX6_drawn.data.toList.drop 6 = sX6_drawn_6 := dn3 hX6_drawn_3
theorem dX6_drawn_6 : decode cX6_drawn 6 = .ok (.ifCond .eq 5, 3) := dk153 hX6_drawn_6 (by decide)
theorem hX6_drawn_9 : cX6_drawn.data.toList.drop 9 = sX6_drawn_9 := dn3 hX6_drawn_6
theorem dX6_drawn_9 : decode cX6_drawn 9 = .ok (.iconst (-1), 1) := dk2 hX6_drawn_9
theorem hX6_drawn_10 : cX6_drawn.data.toList.drop 10 = sX6_drawn_10 := dn1 hX6_drawn_9
theorem dX6_drawn_10 : decode cX6_drawn 10 = .ok (.ireturn, 1) := dk172 hX6_drawn_10
theorem hX6_drawn_11 : cX6_drawn.data.toList.drop 11 = sX6_drawn_11 := dn1 hX6_drawn_10
theorem dX6_drawn_11 : decode cX6_drawn 11 = .ok (.aload_n 0, 1) := dk42 hX6_drawn_11
theorem hX6_drawn_12 : cX6_drawn.data.toList.drop 12 = sX6_drawn_12 := dn1 hX6_drawn_11
theorem dX6_drawn_12 : decode cX6_drawn 12 = .ok (.getfield 30, 3) := dk180 hX6_drawn_12 rfl
theorem hX6_drawn_15 : cX6_drawn.data.toList.drop 15 = sX6_drawn_15 := dn3 hX6_drawn_12
theorem dX6_drawn_15 : decode cX6_drawn 15 = .ok (.aload_n 0, 1) := dk42 hX6_drawn_15
theorem hX6_drawn_16 : cX6_drawn.data.toList.drop 16 = sX6_drawn_16 := dn1 hX6_drawn_15
theorem dX6_drawn_16 : decode cX6_drawn 16 = .ok (.getfield 26, 3) := dk180 hX6_drawn_16 rfl
theorem hX6_drawn_19 : cX6_drawn.data.toList.drop 19 = sX6_drawn_19 := dn3 hX6_drawn_16
theorem dX6_drawn_19 : decode cX6_drawn 19 = .ok (.invokevirtual 241, 3) := dk182 hX6_drawn_19 rfl
theorem hX6_drawn_22 : cX6_drawn.data.toList.drop 22 = sX6_drawn_22 := dn3 hX6_drawn_19
theorem dX6_drawn_22 : decode cX6_drawn 22 = .ok (.iload_n 1, 1) := dk27 hX6_drawn_22
theorem hX6_drawn_23 : cX6_drawn.data.toList.drop 23 = sX6_drawn_23 := dn1 hX6_drawn_22
theorem dX6_drawn_23 : decode cX6_drawn 23 = .ok (.istore_n 3, 1) := dk62 hX6_drawn_23
theorem hX6_drawn_24 : cX6_drawn.data.toList.drop 24 = sX6_drawn_24 := dn1 hX6_drawn_23
theorem dX6_drawn_24 : decode cX6_drawn 24 = .ok (.iconst 0, 1) := dk3 hX6_drawn_24
theorem hX6_drawn_25 : cX6_drawn.data.toList.drop 25 = sX6_drawn_25 := dn1 hX6_drawn_24
theorem dX6_drawn_25 : decode cX6_drawn 25 = .ok (.istore 4, 2) := dk54 hX6_drawn_25 rfl
theorem hX6_drawn_27 : cX6_drawn.data.toList.drop 27 = sX6_drawn_27 := dn2 hX6_drawn_25
theorem dX6_drawn_27 : decode cX6_drawn 27 = .ok (.iload 4, 2) := dk21 hX6_drawn_27 rfl
theorem hX6_drawn_29 : cX6_drawn.data.toList.drop 29 = sX6_drawn_29 := dn2 hX6_drawn_27
theorem dX6_drawn_29 : decode cX6_drawn 29 = .ok (.iload_n 2, 1) := dk28 hX6_drawn_29
theorem hX6_drawn_30 : cX6_drawn.data.toList.drop 30 = sX6_drawn_30 := dn1 hX6_drawn_29
theorem dX6_drawn_30 : decode cX6_drawn 30 = .ok (.if_icmp .ge 15, 3) := dk162 hX6_drawn_30 (by decide)
theorem hX6_drawn_33 : cX6_drawn.data.toList.drop 33 = sX6_drawn_33 := dn3 hX6_drawn_30
theorem dX6_drawn_33 : decode cX6_drawn 33 = .ok (.aload_n 0, 1) := dk42 hX6_drawn_33
theorem hX6_drawn_34 : cX6_drawn.data.toList.drop 34 = sX6_drawn_34 := dn1 hX6_drawn_33
theorem dX6_drawn_34 : decode cX6_drawn 34 = .ok (.iload_n 3, 1) := dk29 hX6_drawn_34
theorem hX6_drawn_35 : cX6_drawn.data.toList.drop 35 = sX6_drawn_35 := dn1 hX6_drawn_34
theorem dX6_drawn_35 : decode cX6_drawn 35 = .ok (.invokevirtual 337, 3) := dk182 hX6_drawn_35 rfl
theorem hX6_drawn_38 : cX6_drawn.data.toList.drop 38 = sX6_drawn_38 := dn3 hX6_drawn_35
theorem dX6_drawn_38 : decode cX6_drawn 38 = .ok (.istore_n 3, 1) := dk62 hX6_drawn_38
theorem hX6_drawn_39 : cX6_drawn.data.toList.drop 39 = sX6_drawn_39 := dn1 hX6_drawn_38
theorem dX6_drawn_39 : decode cX6_drawn 39 = .ok (.iinc 4 1, 3) := dk132 hX6_drawn_39 rfl (by decide)
theorem hX6_drawn_42 : cX6_drawn.data.toList.drop 42 = sX6_drawn_42 := dn3 hX6_drawn_39
theorem dX6_drawn_42 : decode cX6_drawn 42 = .ok (.goto (-15), 3) := dk167 hX6_drawn_42 (by decide)
theorem hX6_drawn_45 : cX6_drawn.data.toList.drop 45 = sX6_drawn_45 := dn3 hX6_drawn_42
theorem dX6_drawn_45 : decode cX6_drawn 45 = .ok (.aload_n 0, 1) := dk42 hX6_drawn_45
theorem hX6_drawn_46 : cX6_drawn.data.toList.drop 46 = sX6_drawn_46 := dn1 hX6_drawn_45
theorem dX6_drawn_46 : decode cX6_drawn 46 = .ok (.getfield 47, 3) := dk180 hX6_drawn_46 rfl
theorem hX6_drawn_49 : cX6_drawn.data.toList.drop 49 = sX6_drawn_49 := dn3 hX6_drawn_46
theorem dX6_drawn_49 : decode cX6_drawn 49 = .ok (.aload_n 0, 1) := dk42 hX6_drawn_49
theorem hX6_drawn_50 : cX6_drawn.data.toList.drop 50 = sX6_drawn_50 := dn1 hX6_drawn_49
theorem dX6_drawn_50 : decode cX6_drawn 50 = .ok (.getfield 19, 3) := dk180 hX6_drawn_50 rfl
theorem hX6_drawn_53 : cX6_drawn.data.toList.drop 53 = sX6_drawn_53 := dn3 hX6_drawn_50
theorem dX6_drawn_53 : decode cX6_drawn 53 = .ok (.aload_n 0, 1) := dk42 hX6_drawn_53
theorem hX6_drawn_54 : cX6_drawn.data.toList.drop 54 = sX6_drawn_54 := dn1 hX6_drawn_53
theorem dX6_drawn_54 : decode cX6_drawn 54 = .ok (.getfield 30, 3) := dk180 hX6_drawn_54 rfl
theorem hX6_drawn_57 : cX6_drawn.data.toList.drop 57 = sX6_drawn_57 := dn3 hX6_drawn_54
theorem dX6_drawn_57 : decode cX6_drawn 57 = .ok (.invokevirtual 177, 3) := dk182 hX6_drawn_57 rfl
theorem hX6_drawn_60 : cX6_drawn.data.toList.drop 60 = sX6_drawn_60 := dn3 hX6_drawn_57
theorem dX6_drawn_60 : decode cX6_drawn 60 = .ok (.ireturn, 1) := dk172 hX6_drawn_60
noncomputable def sX6_drawnLeast_83 : List UInt8 := 172 :: []
noncomputable def sX6_drawnLeast_81 : List UInt8 := 21 :: 4 :: sX6_drawnLeast_83
noncomputable def sX6_drawnLeast_78 : List UInt8 := 167 :: 255 :: 208 :: sX6_drawnLeast_81
noncomputable def sX6_drawnLeast_75 : List UInt8 := 132 :: 5 :: 1 :: sX6_drawnLeast_78
noncomputable def sX6_drawnLeast_73 : List UInt8 := 54 :: 4 :: sX6_drawnLeast_75
noncomputable def sX6_drawnLeast_71 : List UInt8 := 21 :: 6 :: sX6_drawnLeast_73
noncomputable def sX6_drawnLeast_68 : List UInt8 := 162 :: 0 :: 7 :: sX6_drawnLeast_71
noncomputable def sX6_drawnLeast_66 : List UInt8 := 21 :: 4 :: sX6_drawnLeast_68
noncomputable def sX6_drawnLeast_64 : List UInt8 := 21 :: 6 :: sX6_drawnLeast_66
noncomputable def sX6_drawnLeast_61 : List UInt8 := 153 :: 0 :: 10 :: sX6_drawnLeast_64
noncomputable def sX6_drawnLeast_59 : List UInt8 := 21 :: 5 :: sX6_drawnLeast_61
noncomputable def sX6_drawnLeast_57 : List UInt8 := 54 :: 6 :: sX6_drawnLeast_59
noncomputable def sX6_drawnLeast_54 : List UInt8 := 182 :: 0 :: 177 :: sX6_drawnLeast_57
noncomputable def sX6_drawnLeast_51 : List UInt8 := 180 :: 0 :: 30 :: sX6_drawnLeast_54
noncomputable def sX6_drawnLeast_50 : List UInt8 := 42 :: sX6_drawnLeast_51
noncomputable def sX6_drawnLeast_47 : List UInt8 := 180 :: 0 :: 19 :: sX6_drawnLeast_50
noncomputable def sX6_drawnLeast_46 : List UInt8 := 42 :: sX6_drawnLeast_47
noncomputable def sX6_drawnLeast_43 : List UInt8 := 180 :: 0 :: 47 :: sX6_drawnLeast_46
noncomputable def sX6_drawnLeast_42 : List UInt8 := 42 :: sX6_drawnLeast_43
noncomputable def sX6_drawnLeast_41 : List UInt8 := 62 :: sX6_drawnLeast_42
noncomputable def sX6_drawnLeast_38 : List UInt8 := 182 :: 1 :: 81 :: sX6_drawnLeast_41
noncomputable def sX6_drawnLeast_37 : List UInt8 := 29 :: sX6_drawnLeast_38
noncomputable def sX6_drawnLeast_36 : List UInt8 := 42 :: sX6_drawnLeast_37
noncomputable def sX6_drawnLeast_33 : List UInt8 := 162 :: 0 :: 48 :: sX6_drawnLeast_36
noncomputable def sX6_drawnLeast_32 : List UInt8 := 28 :: sX6_drawnLeast_33
noncomputable def sX6_drawnLeast_30 : List UInt8 := 21 :: 5 :: sX6_drawnLeast_32
noncomputable def sX6_drawnLeast_28 : List UInt8 := 54 :: 5 :: sX6_drawnLeast_30
noncomputable def sX6_drawnLeast_27 : List UInt8 := 3 :: sX6_drawnLeast_28
noncomputable def sX6_drawnLeast_25 : List UInt8 := 54 :: 4 :: sX6_drawnLeast_27
noncomputable def sX6_drawnLeast_24 : List UInt8 := 3 :: sX6_drawnLeast_25
noncomputable def sX6_drawnLeast_23 : List UInt8 := 62 :: sX6_drawnLeast_24
noncomputable def sX6_drawnLeast_22 : List UInt8 := 27 :: sX6_drawnLeast_23
noncomputable def sX6_drawnLeast_19 : List UInt8 := 182 :: 0 :: 241 :: sX6_drawnLeast_22
noncomputable def sX6_drawnLeast_16 : List UInt8 := 180 :: 0 :: 26 :: sX6_drawnLeast_19
noncomputable def sX6_drawnLeast_15 : List UInt8 := 42 :: sX6_drawnLeast_16
noncomputable def sX6_drawnLeast_12 : List UInt8 := 180 :: 0 :: 30 :: sX6_drawnLeast_15
noncomputable def sX6_drawnLeast_11 : List UInt8 := 42 :: sX6_drawnLeast_12
noncomputable def sX6_drawnLeast_10 : List UInt8 := 172 :: sX6_drawnLeast_11
noncomputable def sX6_drawnLeast_9 : List UInt8 := 2 :: sX6_drawnLeast_10
noncomputable def sX6_drawnLeast_6 : List UInt8 := 153 :: 0 :: 5 :: sX6_drawnLeast_9
noncomputable def sX6_drawnLeast_3 : List UInt8 := 182 :: 1 :: 78 :: sX6_drawnLeast_6
noncomputable def sX6_drawnLeast_2 : List UInt8 := 28 :: sX6_drawnLeast_3
noncomputable def sX6_drawnLeast_1 : List UInt8 := 27 :: sX6_drawnLeast_2
noncomputable def sX6_drawnLeast_0 : List UInt8 := 42 :: sX6_drawnLeast_1
set_option maxRecDepth 100000 in
theorem hX6_drawnLeast_0 : cX6_drawnLeast.data.toList.drop 0 = sX6_drawnLeast_0 := by decide +kernel
theorem dX6_drawnLeast_0 : decode cX6_drawnLeast 0 = .ok (.aload_n 0, 1) := dk42 hX6_drawnLeast_0
theorem hX6_drawnLeast_1 : cX6_drawnLeast.data.toList.drop 1 = sX6_drawnLeast_1 := dn1 hX6_drawnLeast_0
theorem dX6_drawnLeast_1 : decode cX6_drawnLeast 1 = .ok (.iload_n 1, 1) := dk27 hX6_drawnLeast_1
theorem hX6_drawnLeast_2 : cX6_drawnLeast.data.toList.drop 2 = sX6_drawnLeast_2 := dn1 hX6_drawnLeast_1
theorem dX6_drawnLeast_2 : decode cX6_drawnLeast 2 = .ok (.iload_n 2, 1) := dk28 hX6_drawnLeast_2
theorem hX6_drawnLeast_3 : cX6_drawnLeast.data.toList.drop 3 = sX6_drawnLeast_3 := dn1 hX6_drawnLeast_2
theorem dX6_drawnLeast_3 : decode cX6_drawnLeast 3 = .ok (.invokevirtual 334, 3) := dk182 hX6_drawnLeast_3 rfl
theorem hX6_drawnLeast_6 : cX6_drawnLeast.data.toList.drop 6 = sX6_drawnLeast_6 := dn3 hX6_drawnLeast_3
theorem dX6_drawnLeast_6 : decode cX6_drawnLeast 6 = .ok (.ifCond .eq 5, 3) := dk153 hX6_drawnLeast_6 (by decide)
theorem hX6_drawnLeast_9 : cX6_drawnLeast.data.toList.drop 9 = sX6_drawnLeast_9 := dn3 hX6_drawnLeast_6
theorem dX6_drawnLeast_9 : decode cX6_drawnLeast 9 = .ok (.iconst (-1), 1) := dk2 hX6_drawnLeast_9
theorem hX6_drawnLeast_10 : cX6_drawnLeast.data.toList.drop 10 = sX6_drawnLeast_10 := dn1 hX6_drawnLeast_9
theorem dX6_drawnLeast_10 : decode cX6_drawnLeast 10 = .ok (.ireturn, 1) := dk172 hX6_drawnLeast_10
theorem hX6_drawnLeast_11 : cX6_drawnLeast.data.toList.drop 11 = sX6_drawnLeast_11 := dn1 hX6_drawnLeast_10
theorem dX6_drawnLeast_11 : decode cX6_drawnLeast 11 = .ok (.aload_n 0, 1) := dk42 hX6_drawnLeast_11
theorem hX6_drawnLeast_12 : cX6_drawnLeast.data.toList.drop 12 = sX6_drawnLeast_12 := dn1 hX6_drawnLeast_11
theorem dX6_drawnLeast_12 : decode cX6_drawnLeast 12 = .ok (.getfield 30, 3) := dk180 hX6_drawnLeast_12 rfl
theorem hX6_drawnLeast_15 : cX6_drawnLeast.data.toList.drop 15 = sX6_drawnLeast_15 := dn3 hX6_drawnLeast_12
theorem dX6_drawnLeast_15 : decode cX6_drawnLeast 15 = .ok (.aload_n 0, 1) := dk42 hX6_drawnLeast_15
theorem hX6_drawnLeast_16 : cX6_drawnLeast.data.toList.drop 16 = sX6_drawnLeast_16 := dn1 hX6_drawnLeast_15
theorem dX6_drawnLeast_16 : decode cX6_drawnLeast 16 = .ok (.getfield 26, 3) := dk180 hX6_drawnLeast_16 rfl
theorem hX6_drawnLeast_19 : cX6_drawnLeast.data.toList.drop 19 = sX6_drawnLeast_19 := dn3 hX6_drawnLeast_16
theorem dX6_drawnLeast_19 : decode cX6_drawnLeast 19 = .ok (.invokevirtual 241, 3) := dk182 hX6_drawnLeast_19 rfl
theorem hX6_drawnLeast_22 : cX6_drawnLeast.data.toList.drop 22 = sX6_drawnLeast_22 := dn3 hX6_drawnLeast_19
theorem dX6_drawnLeast_22 : decode cX6_drawnLeast 22 = .ok (.iload_n 1, 1) := dk27 hX6_drawnLeast_22
theorem hX6_drawnLeast_23 : cX6_drawnLeast.data.toList.drop 23 = sX6_drawnLeast_23 := dn1 hX6_drawnLeast_22
theorem dX6_drawnLeast_23 : decode cX6_drawnLeast 23 = .ok (.istore_n 3, 1) := dk62 hX6_drawnLeast_23
theorem hX6_drawnLeast_24 : cX6_drawnLeast.data.toList.drop 24 = sX6_drawnLeast_24 := dn1 hX6_drawnLeast_23
theorem dX6_drawnLeast_24 : decode cX6_drawnLeast 24 = .ok (.iconst 0, 1) := dk3 hX6_drawnLeast_24
theorem hX6_drawnLeast_25 : cX6_drawnLeast.data.toList.drop 25 = sX6_drawnLeast_25 := dn1 hX6_drawnLeast_24
theorem dX6_drawnLeast_25 : decode cX6_drawnLeast 25 = .ok (.istore 4, 2) := dk54 hX6_drawnLeast_25 rfl
theorem hX6_drawnLeast_27 : cX6_drawnLeast.data.toList.drop 27 = sX6_drawnLeast_27 := dn2 hX6_drawnLeast_25
theorem dX6_drawnLeast_27 : decode cX6_drawnLeast 27 = .ok (.iconst 0, 1) := dk3 hX6_drawnLeast_27
theorem hX6_drawnLeast_28 : cX6_drawnLeast.data.toList.drop 28 = sX6_drawnLeast_28 := dn1 hX6_drawnLeast_27
theorem dX6_drawnLeast_28 : decode cX6_drawnLeast 28 = .ok (.istore 5, 2) := dk54 hX6_drawnLeast_28 rfl
theorem hX6_drawnLeast_30 : cX6_drawnLeast.data.toList.drop 30 = sX6_drawnLeast_30 := dn2 hX6_drawnLeast_28
theorem dX6_drawnLeast_30 : decode cX6_drawnLeast 30 = .ok (.iload 5, 2) := dk21 hX6_drawnLeast_30 rfl
theorem hX6_drawnLeast_32 : cX6_drawnLeast.data.toList.drop 32 = sX6_drawnLeast_32 := dn2 hX6_drawnLeast_30
theorem dX6_drawnLeast_32 : decode cX6_drawnLeast 32 = .ok (.iload_n 2, 1) := dk28 hX6_drawnLeast_32
theorem hX6_drawnLeast_33 : cX6_drawnLeast.data.toList.drop 33 = sX6_drawnLeast_33 := dn1 hX6_drawnLeast_32
theorem dX6_drawnLeast_33 : decode cX6_drawnLeast 33 = .ok (.if_icmp .ge 48, 3) := dk162 hX6_drawnLeast_33 (by decide)
theorem hX6_drawnLeast_36 : cX6_drawnLeast.data.toList.drop 36 = sX6_drawnLeast_36 := dn3 hX6_drawnLeast_33
theorem dX6_drawnLeast_36 : decode cX6_drawnLeast 36 = .ok (.aload_n 0, 1) := dk42 hX6_drawnLeast_36
theorem hX6_drawnLeast_37 : cX6_drawnLeast.data.toList.drop 37 = sX6_drawnLeast_37 := dn1 hX6_drawnLeast_36
theorem dX6_drawnLeast_37 : decode cX6_drawnLeast 37 = .ok (.iload_n 3, 1) := dk29 hX6_drawnLeast_37
theorem hX6_drawnLeast_38 : cX6_drawnLeast.data.toList.drop 38 = sX6_drawnLeast_38 := dn1 hX6_drawnLeast_37
theorem dX6_drawnLeast_38 : decode cX6_drawnLeast 38 = .ok (.invokevirtual 337, 3) := dk182 hX6_drawnLeast_38 rfl
theorem hX6_drawnLeast_41 : cX6_drawnLeast.data.toList.drop 41 = sX6_drawnLeast_41 := dn3 hX6_drawnLeast_38
theorem dX6_drawnLeast_41 : decode cX6_drawnLeast 41 = .ok (.istore_n 3, 1) := dk62 hX6_drawnLeast_41
theorem hX6_drawnLeast_42 : cX6_drawnLeast.data.toList.drop 42 = sX6_drawnLeast_42 := dn1 hX6_drawnLeast_41
theorem dX6_drawnLeast_42 : decode cX6_drawnLeast 42 = .ok (.aload_n 0, 1) := dk42 hX6_drawnLeast_42
theorem hX6_drawnLeast_43 : cX6_drawnLeast.data.toList.drop 43 = sX6_drawnLeast_43 := dn1 hX6_drawnLeast_42
theorem dX6_drawnLeast_43 : decode cX6_drawnLeast 43 = .ok (.getfield 47, 3) := dk180 hX6_drawnLeast_43 rfl
theorem hX6_drawnLeast_46 : cX6_drawnLeast.data.toList.drop 46 = sX6_drawnLeast_46 := dn3 hX6_drawnLeast_43
theorem dX6_drawnLeast_46 : decode cX6_drawnLeast 46 = .ok (.aload_n 0, 1) := dk42 hX6_drawnLeast_46
theorem hX6_drawnLeast_47 : cX6_drawnLeast.data.toList.drop 47 = sX6_drawnLeast_47 := dn1 hX6_drawnLeast_46
theorem dX6_drawnLeast_47 : decode cX6_drawnLeast 47 = .ok (.getfield 19, 3) := dk180 hX6_drawnLeast_47 rfl
theorem hX6_drawnLeast_50 : cX6_drawnLeast.data.toList.drop 50 = sX6_drawnLeast_50 := dn3 hX6_drawnLeast_47
theorem dX6_drawnLeast_50 : decode cX6_drawnLeast 50 = .ok (.aload_n 0, 1) := dk42 hX6_drawnLeast_50
theorem hX6_drawnLeast_51 : cX6_drawnLeast.data.toList.drop 51 = sX6_drawnLeast_51 := dn1 hX6_drawnLeast_50
theorem dX6_drawnLeast_51 : decode cX6_drawnLeast 51 = .ok (.getfield 30, 3) := dk180 hX6_drawnLeast_51 rfl
theorem hX6_drawnLeast_54 : cX6_drawnLeast.data.toList.drop 54 = sX6_drawnLeast_54 := dn3 hX6_drawnLeast_51
theorem dX6_drawnLeast_54 : decode cX6_drawnLeast 54 = .ok (.invokevirtual 177, 3) := dk182 hX6_drawnLeast_54 rfl
theorem hX6_drawnLeast_57 : cX6_drawnLeast.data.toList.drop 57 = sX6_drawnLeast_57 := dn3 hX6_drawnLeast_54
theorem dX6_drawnLeast_57 : decode cX6_drawnLeast 57 = .ok (.istore 6, 2) := dk54 hX6_drawnLeast_57 rfl
theorem hX6_drawnLeast_59 : cX6_drawnLeast.data.toList.drop 59 = sX6_drawnLeast_59 := dn2 hX6_drawnLeast_57
theorem dX6_drawnLeast_59 : decode cX6_drawnLeast 59 = .ok (.iload 5, 2) := dk21 hX6_drawnLeast_59 rfl
theorem hX6_drawnLeast_61 : cX6_drawnLeast.data.toList.drop 61 = sX6_drawnLeast_61 := dn2 hX6_drawnLeast_59
theorem dX6_drawnLeast_61 : decode cX6_drawnLeast 61 = .ok (.ifCond .eq 10, 3) := dk153 hX6_drawnLeast_61 (by decide)
theorem hX6_drawnLeast_64 : cX6_drawnLeast.data.toList.drop 64 = sX6_drawnLeast_64 := dn3 hX6_drawnLeast_61
theorem dX6_drawnLeast_64 : decode cX6_drawnLeast 64 = .ok (.iload 6, 2) := dk21 hX6_drawnLeast_64 rfl
theorem hX6_drawnLeast_66 : cX6_drawnLeast.data.toList.drop 66 = sX6_drawnLeast_66 := dn2 hX6_drawnLeast_64
theorem dX6_drawnLeast_66 : decode cX6_drawnLeast 66 = .ok (.iload 4, 2) := dk21 hX6_drawnLeast_66 rfl
theorem hX6_drawnLeast_68 : cX6_drawnLeast.data.toList.drop 68 = sX6_drawnLeast_68 := dn2 hX6_drawnLeast_66
theorem dX6_drawnLeast_68 : decode cX6_drawnLeast 68 = .ok (.if_icmp .ge 7, 3) := dk162 hX6_drawnLeast_68 (by decide)
theorem hX6_drawnLeast_71 : cX6_drawnLeast.data.toList.drop 71 = sX6_drawnLeast_71 := dn3 hX6_drawnLeast_68
theorem dX6_drawnLeast_71 : decode cX6_drawnLeast 71 = .ok (.iload 6, 2) := dk21 hX6_drawnLeast_71 rfl
theorem hX6_drawnLeast_73 : cX6_drawnLeast.data.toList.drop 73 = sX6_drawnLeast_73 := dn2 hX6_drawnLeast_71
theorem dX6_drawnLeast_73 : decode cX6_drawnLeast 73 = .ok (.istore 4, 2) := dk54 hX6_drawnLeast_73 rfl
theorem hX6_drawnLeast_75 : cX6_drawnLeast.data.toList.drop 75 = sX6_drawnLeast_75 := dn2 hX6_drawnLeast_73
theorem dX6_drawnLeast_75 : decode cX6_drawnLeast 75 = .ok (.iinc 5 1, 3) := dk132 hX6_drawnLeast_75 rfl (by decide)
theorem hX6_drawnLeast_78 : cX6_drawnLeast.data.toList.drop 78 = sX6_drawnLeast_78 := dn3 hX6_drawnLeast_75
theorem dX6_drawnLeast_78 : decode cX6_drawnLeast 78 = .ok (.goto (-48), 3) := dk167 hX6_drawnLeast_78 (by decide)
theorem hX6_drawnLeast_81 : cX6_drawnLeast.data.toList.drop 81 = sX6_drawnLeast_81 := dn3 hX6_drawnLeast_78
theorem dX6_drawnLeast_81 : decode cX6_drawnLeast 81 = .ok (.iload 4, 2) := dk21 hX6_drawnLeast_81 rfl
theorem hX6_drawnLeast_83 : cX6_drawnLeast.data.toList.drop 83 = sX6_drawnLeast_83 := dn2 hX6_drawnLeast_81
theorem dX6_drawnLeast_83 : decode cX6_drawnLeast 83 = .ok (.ireturn, 1) := dk172 hX6_drawnLeast_83
noncomputable def sX6_fault_4 : List UInt8 := 172 :: []
noncomputable def sX6_fault_1 : List UInt8 := 180 :: 0 :: 77 :: sX6_fault_4
noncomputable def sX6_fault_0 : List UInt8 := 42 :: sX6_fault_1
set_option maxRecDepth 100000 in
theorem hX6_fault_0 : cX6_fault.data.toList.drop 0 = sX6_fault_0 := by decide +kernel
theorem dX6_fault_0 : decode cX6_fault 0 = .ok (.aload_n 0, 1) := dk42 hX6_fault_0
theorem hX6_fault_1 : cX6_fault.data.toList.drop 1 = sX6_fault_1 := dn1 hX6_fault_0
theorem dX6_fault_1 : decode cX6_fault 1 = .ok (.getfield 77, 3) := dk180 hX6_fault_1 rfl
theorem hX6_fault_4 : cX6_fault.data.toList.drop 4 = sX6_fault_4 := dn3 hX6_fault_1
theorem dX6_fault_4 : decode cX6_fault 4 = .ok (.ireturn, 1) := dk172 hX6_fault_4
noncomputable def sX6_feed_64 : List UInt8 := 172 :: []
noncomputable def sX6_feed_61 : List UInt8 := 180 :: 0 :: 58 :: sX6_feed_64
noncomputable def sX6_feed_58 : List UInt8 := 180 :: 0 :: 10 :: sX6_feed_61
noncomputable def sX6_feed_57 : List UInt8 := 42 :: sX6_feed_58
noncomputable def sX6_feed_54 : List UInt8 := 182 :: 0 :: 62 :: sX6_feed_57
noncomputable def sX6_feed_52 : List UInt8 := 21 :: 5 :: sX6_feed_54
noncomputable def sX6_feed_49 : List UInt8 := 180 :: 0 :: 10 :: sX6_feed_52
noncomputable def sX6_feed_48 : List UInt8 := 42 :: sX6_feed_49
noncomputable def sX6_feed_45 : List UInt8 := 182 :: 0 :: 62 :: sX6_feed_48
noncomputable def sX6_feed_43 : List UInt8 := 21 :: 4 :: sX6_feed_45
noncomputable def sX6_feed_40 : List UInt8 := 180 :: 0 :: 10 :: sX6_feed_43
noncomputable def sX6_feed_39 : List UInt8 := 42 :: sX6_feed_40
noncomputable def sX6_feed_36 : List UInt8 := 182 :: 0 :: 62 :: sX6_feed_39
noncomputable def sX6_feed_35 : List UInt8 := 29 :: sX6_feed_36
noncomputable def sX6_feed_32 : List UInt8 := 180 :: 0 :: 10 :: sX6_feed_35
noncomputable def sX6_feed_31 : List UInt8 := 42 :: sX6_feed_32
noncomputable def sX6_feed_28 : List UInt8 := 182 :: 0 :: 62 :: sX6_feed_31
noncomputable def sX6_feed_27 : List UInt8 := 28 :: sX6_feed_28
noncomputable def sX6_feed_24 : List UInt8 := 180 :: 0 :: 10 :: sX6_feed_27
noncomputable def sX6_feed_23 : List UInt8 := 42 :: sX6_feed_24
noncomputable def sX6_feed_20 : List UInt8 := 182 :: 0 :: 62 :: sX6_feed_23
noncomputable def sX6_feed_19 : List UInt8 := 27 :: sX6_feed_20
noncomputable def sX6_feed_16 : List UInt8 := 180 :: 0 :: 10 :: sX6_feed_19
noncomputable def sX6_feed_15 : List UInt8 := 42 :: sX6_feed_16
noncomputable def sX6_feed_14 : List UInt8 := 172 :: sX6_feed_15
noncomputable def sX6_feed_13 : List UInt8 := 2 :: sX6_feed_14
noncomputable def sX6_feed_10 : List UInt8 := 164 :: 0 :: 5 :: sX6_feed_13
noncomputable def sX6_feed_7 : List UInt8 := 17 :: 3 :: 112 :: sX6_feed_10
noncomputable def sX6_feed_4 : List UInt8 := 180 :: 0 :: 58 :: sX6_feed_7
noncomputable def sX6_feed_1 : List UInt8 := 180 :: 0 :: 10 :: sX6_feed_4
noncomputable def sX6_feed_0 : List UInt8 := 42 :: sX6_feed_1
set_option maxRecDepth 100000 in
theorem hX6_feed_0 : cX6_feed.data.toList.drop 0 = sX6_feed_0 := by decide +kernel
theorem dX6_feed_0 : decode cX6_feed 0 = .ok (.aload_n 0, 1) := dk42 hX6_feed_0
theorem hX6_feed_1 : cX6_feed.data.toList.drop 1 = sX6_feed_1 := dn1 hX6_feed_0
theorem dX6_feed_1 : decode cX6_feed 1 = .ok (.getfield 10, 3) := dk180 hX6_feed_1 rfl
theorem hX6_feed_4 : cX6_feed.data.toList.drop 4 = sX6_feed_4 := dn3 hX6_feed_1
theorem dX6_feed_4 : decode cX6_feed 4 = .ok (.getfield 58, 3) := dk180 hX6_feed_4 rfl
theorem hX6_feed_7 : cX6_feed.data.toList.drop 7 = sX6_feed_7 := dn3 hX6_feed_4
theorem dX6_feed_7 : decode cX6_feed 7 = .ok (.sipush 880, 3) := dk17 hX6_feed_7 (by decide)
theorem hX6_feed_10 : cX6_feed.data.toList.drop 10 = sX6_feed_10 := dn3 hX6_feed_7
theorem dX6_feed_10 : decode cX6_feed 10 = .ok (.if_icmp .le 5, 3) := dk164 hX6_feed_10 (by decide)
theorem hX6_feed_13 : cX6_feed.data.toList.drop 13 = sX6_feed_13 := dn3 hX6_feed_10
theorem dX6_feed_13 : decode cX6_feed 13 = .ok (.iconst (-1), 1) := dk2 hX6_feed_13
theorem hX6_feed_14 : cX6_feed.data.toList.drop 14 = sX6_feed_14 := dn1 hX6_feed_13
theorem dX6_feed_14 : decode cX6_feed 14 = .ok (.ireturn, 1) := dk172 hX6_feed_14
theorem hX6_feed_15 : cX6_feed.data.toList.drop 15 = sX6_feed_15 := dn1 hX6_feed_14
theorem dX6_feed_15 : decode cX6_feed 15 = .ok (.aload_n 0, 1) := dk42 hX6_feed_15
theorem hX6_feed_16 : cX6_feed.data.toList.drop 16 = sX6_feed_16 := dn1 hX6_feed_15
theorem dX6_feed_16 : decode cX6_feed 16 = .ok (.getfield 10, 3) := dk180 hX6_feed_16 rfl
theorem hX6_feed_19 : cX6_feed.data.toList.drop 19 = sX6_feed_19 := dn3 hX6_feed_16
theorem dX6_feed_19 : decode cX6_feed 19 = .ok (.iload_n 1, 1) := dk27 hX6_feed_19
theorem hX6_feed_20 : cX6_feed.data.toList.drop 20 = sX6_feed_20 := dn1 hX6_feed_19
theorem dX6_feed_20 : decode cX6_feed 20 = .ok (.invokevirtual 62, 3) := dk182 hX6_feed_20 rfl
theorem hX6_feed_23 : cX6_feed.data.toList.drop 23 = sX6_feed_23 := dn3 hX6_feed_20
theorem dX6_feed_23 : decode cX6_feed 23 = .ok (.aload_n 0, 1) := dk42 hX6_feed_23
theorem hX6_feed_24 : cX6_feed.data.toList.drop 24 = sX6_feed_24 := dn1 hX6_feed_23
theorem dX6_feed_24 : decode cX6_feed 24 = .ok (.getfield 10, 3) := dk180 hX6_feed_24 rfl
theorem hX6_feed_27 : cX6_feed.data.toList.drop 27 = sX6_feed_27 := dn3 hX6_feed_24
theorem dX6_feed_27 : decode cX6_feed 27 = .ok (.iload_n 2, 1) := dk28 hX6_feed_27
theorem hX6_feed_28 : cX6_feed.data.toList.drop 28 = sX6_feed_28 := dn1 hX6_feed_27
theorem dX6_feed_28 : decode cX6_feed 28 = .ok (.invokevirtual 62, 3) := dk182 hX6_feed_28 rfl
theorem hX6_feed_31 : cX6_feed.data.toList.drop 31 = sX6_feed_31 := dn3 hX6_feed_28
theorem dX6_feed_31 : decode cX6_feed 31 = .ok (.aload_n 0, 1) := dk42 hX6_feed_31
theorem hX6_feed_32 : cX6_feed.data.toList.drop 32 = sX6_feed_32 := dn1 hX6_feed_31
theorem dX6_feed_32 : decode cX6_feed 32 = .ok (.getfield 10, 3) := dk180 hX6_feed_32 rfl
theorem hX6_feed_35 : cX6_feed.data.toList.drop 35 = sX6_feed_35 := dn3 hX6_feed_32
theorem dX6_feed_35 : decode cX6_feed 35 = .ok (.iload_n 3, 1) := dk29 hX6_feed_35
theorem hX6_feed_36 : cX6_feed.data.toList.drop 36 = sX6_feed_36 := dn1 hX6_feed_35
theorem dX6_feed_36 : decode cX6_feed 36 = .ok (.invokevirtual 62, 3) := dk182 hX6_feed_36 rfl
theorem hX6_feed_39 : cX6_feed.data.toList.drop 39 = sX6_feed_39 := dn3 hX6_feed_36
theorem dX6_feed_39 : decode cX6_feed 39 = .ok (.aload_n 0, 1) := dk42 hX6_feed_39
theorem hX6_feed_40 : cX6_feed.data.toList.drop 40 = sX6_feed_40 := dn1 hX6_feed_39
theorem dX6_feed_40 : decode cX6_feed 40 = .ok (.getfield 10, 3) := dk180 hX6_feed_40 rfl
theorem hX6_feed_43 : cX6_feed.data.toList.drop 43 = sX6_feed_43 := dn3 hX6_feed_40
theorem dX6_feed_43 : decode cX6_feed 43 = .ok (.iload 4, 2) := dk21 hX6_feed_43 rfl
theorem hX6_feed_45 : cX6_feed.data.toList.drop 45 = sX6_feed_45 := dn2 hX6_feed_43
theorem dX6_feed_45 : decode cX6_feed 45 = .ok (.invokevirtual 62, 3) := dk182 hX6_feed_45 rfl
theorem hX6_feed_48 : cX6_feed.data.toList.drop 48 = sX6_feed_48 := dn3 hX6_feed_45
theorem dX6_feed_48 : decode cX6_feed 48 = .ok (.aload_n 0, 1) := dk42 hX6_feed_48
theorem hX6_feed_49 : cX6_feed.data.toList.drop 49 = sX6_feed_49 := dn1 hX6_feed_48
theorem dX6_feed_49 : decode cX6_feed 49 = .ok (.getfield 10, 3) := dk180 hX6_feed_49 rfl
theorem hX6_feed_52 : cX6_feed.data.toList.drop 52 = sX6_feed_52 := dn3 hX6_feed_49
theorem dX6_feed_52 : decode cX6_feed 52 = .ok (.iload 5, 2) := dk21 hX6_feed_52 rfl
theorem hX6_feed_54 : cX6_feed.data.toList.drop 54 = sX6_feed_54 := dn2 hX6_feed_52
theorem dX6_feed_54 : decode cX6_feed 54 = .ok (.invokevirtual 62, 3) := dk182 hX6_feed_54 rfl
theorem hX6_feed_57 : cX6_feed.data.toList.drop 57 = sX6_feed_57 := dn3 hX6_feed_54
theorem dX6_feed_57 : decode cX6_feed 57 = .ok (.aload_n 0, 1) := dk42 hX6_feed_57
theorem hX6_feed_58 : cX6_feed.data.toList.drop 58 = sX6_feed_58 := dn1 hX6_feed_57
theorem dX6_feed_58 : decode cX6_feed 58 = .ok (.getfield 10, 3) := dk180 hX6_feed_58 rfl
theorem hX6_feed_61 : cX6_feed.data.toList.drop 61 = sX6_feed_61 := dn3 hX6_feed_58
theorem dX6_feed_61 : decode cX6_feed 61 = .ok (.getfield 58, 3) := dk180 hX6_feed_61 rfl
theorem hX6_feed_64 : cX6_feed.data.toList.drop 64 = sX6_feed_64 := dn3 hX6_feed_61
theorem dX6_feed_64 : decode cX6_feed 64 = .ok (.ireturn, 1) := dk172 hX6_feed_64
noncomputable def sX6_fewestWords_109 : List UInt8 := 172 :: []
noncomputable def sX6_fewestWords_108 : List UInt8 := 29 :: sX6_fewestWords_109
noncomputable def sX6_fewestWords_105 : List UInt8 := 167 :: 255 :: 195 :: sX6_fewestWords_108
noncomputable def sX6_fewestWords_102 : List UInt8 := 132 :: 6 :: 1 :: sX6_fewestWords_105
noncomputable def sX6_fewestWords_99 : List UInt8 := 167 :: 255 :: 214 :: sX6_fewestWords_102
noncomputable def sX6_fewestWords_96 : List UInt8 := 132 :: 8 :: 1 :: sX6_fewestWords_99
noncomputable def sX6_fewestWords_94 : List UInt8 := 54 :: 7 :: sX6_fewestWords_96
noncomputable def sX6_fewestWords_93 : List UInt8 := 126 :: sX6_fewestWords_94
noncomputable def sX6_fewestWords_92 : List UInt8 := 29 :: sX6_fewestWords_93
noncomputable def sX6_fewestWords_91 : List UInt8 := 100 :: sX6_fewestWords_92
noncomputable def sX6_fewestWords_90 : List UInt8 := 29 :: sX6_fewestWords_91
noncomputable def sX6_fewestWords_88 : List UInt8 := 21 :: 7 :: sX6_fewestWords_90
noncomputable def sX6_fewestWords_87 : List UInt8 := 172 :: sX6_fewestWords_88
noncomputable def sX6_fewestWords_85 : List UInt8 := 21 :: 7 :: sX6_fewestWords_87
noncomputable def sX6_fewestWords_82 : List UInt8 := 153 :: 0 :: 6 :: sX6_fewestWords_85
noncomputable def sX6_fewestWords_79 : List UInt8 := 182 :: 0 :: 224 :: sX6_fewestWords_82
noncomputable def sX6_fewestWords_78 : List UInt8 := 28 :: sX6_fewestWords_79
noncomputable def sX6_fewestWords_77 : List UInt8 := 27 :: sX6_fewestWords_78
noncomputable def sX6_fewestWords_75 : List UInt8 := 21 :: 7 :: sX6_fewestWords_77
noncomputable def sX6_fewestWords_74 : List UInt8 := 42 :: sX6_fewestWords_75
noncomputable def sX6_fewestWords_71 : List UInt8 := 160 :: 0 :: 17 :: sX6_fewestWords_74
noncomputable def sX6_fewestWords_69 : List UInt8 := 21 :: 6 :: sX6_fewestWords_71
noncomputable def sX6_fewestWords_66 : List UInt8 := 184 :: 0 :: 227 :: sX6_fewestWords_69
noncomputable def sX6_fewestWords_64 : List UInt8 := 21 :: 7 :: sX6_fewestWords_66
noncomputable def sX6_fewestWords_61 : List UInt8 := 162 :: 0 :: 41 :: sX6_fewestWords_64
noncomputable def sX6_fewestWords_59 : List UInt8 := 21 :: 5 :: sX6_fewestWords_61
noncomputable def sX6_fewestWords_57 : List UInt8 := 21 :: 8 :: sX6_fewestWords_59
noncomputable def sX6_fewestWords_55 : List UInt8 := 54 :: 8 :: sX6_fewestWords_57
noncomputable def sX6_fewestWords_54 : List UInt8 := 3 :: sX6_fewestWords_55
noncomputable def sX6_fewestWords_52 : List UInt8 := 54 :: 7 :: sX6_fewestWords_54
noncomputable def sX6_fewestWords_51 : List UInt8 := 3 :: sX6_fewestWords_52
noncomputable def sX6_fewestWords_48 : List UInt8 := 162 :: 0 :: 60 :: sX6_fewestWords_51
noncomputable def sX6_fewestWords_46 : List UInt8 := 21 :: 4 :: sX6_fewestWords_48
noncomputable def sX6_fewestWords_44 : List UInt8 := 21 :: 6 :: sX6_fewestWords_46
noncomputable def sX6_fewestWords_42 : List UInt8 := 54 :: 6 :: sX6_fewestWords_44
noncomputable def sX6_fewestWords_41 : List UInt8 := 3 :: sX6_fewestWords_42
noncomputable def sX6_fewestWords_39 : List UInt8 := 54 :: 5 :: sX6_fewestWords_41
noncomputable def sX6_fewestWords_38 : List UInt8 := 120 :: sX6_fewestWords_39
noncomputable def sX6_fewestWords_36 : List UInt8 := 21 :: 4 :: sX6_fewestWords_38
noncomputable def sX6_fewestWords_35 : List UInt8 := 4 :: sX6_fewestWords_36
noncomputable def sX6_fewestWords_33 : List UInt8 := 54 :: 4 :: sX6_fewestWords_35
noncomputable def sX6_fewestWords_30 : List UInt8 := 184 :: 0 :: 227 :: sX6_fewestWords_33
noncomputable def sX6_fewestWords_29 : List UInt8 := 29 :: sX6_fewestWords_30
noncomputable def sX6_fewestWords_28 : List UInt8 := 172 :: sX6_fewestWords_29
noncomputable def sX6_fewestWords_26 : List UInt8 := 16 :: 254 :: sX6_fewestWords_28
noncomputable def sX6_fewestWords_23 : List UInt8 := 154 :: 0 :: 6 :: sX6_fewestWords_26
noncomputable def sX6_fewestWords_20 : List UInt8 := 182 :: 0 :: 224 :: sX6_fewestWords_23
noncomputable def sX6_fewestWords_19 : List UInt8 := 28 :: sX6_fewestWords_20
noncomputable def sX6_fewestWords_18 : List UInt8 := 27 :: sX6_fewestWords_19
noncomputable def sX6_fewestWords_17 : List UInt8 := 29 :: sX6_fewestWords_18
noncomputable def sX6_fewestWords_16 : List UInt8 := 42 :: sX6_fewestWords_17
noncomputable def sX6_fewestWords_15 : List UInt8 := 62 :: sX6_fewestWords_16
noncomputable def sX6_fewestWords_14 : List UInt8 := 46 :: sX6_fewestWords_15
noncomputable def sX6_fewestWords_11 : List UInt8 := 180 :: 0 :: 144 :: sX6_fewestWords_14
noncomputable def sX6_fewestWords_8 : List UInt8 := 180 :: 0 :: 19 :: sX6_fewestWords_11
noncomputable def sX6_fewestWords_7 : List UInt8 := 42 :: sX6_fewestWords_8
noncomputable def sX6_fewestWords_4 : List UInt8 := 180 :: 0 :: 119 :: sX6_fewestWords_7
noncomputable def sX6_fewestWords_1 : List UInt8 := 180 :: 0 :: 19 :: sX6_fewestWords_4
noncomputable def sX6_fewestWords_0 : List UInt8 := 42 :: sX6_fewestWords_1
set_option maxRecDepth 100000 in
theorem hX6_fewestWords_0 : cX6_fewestWords.data.toList.drop 0 = sX6_fewestWords_0 := by decide +kernel
theorem dX6_fewestWords_0 : decode cX6_fewestWords 0 = .ok (.aload_n 0, 1) := dk42 hX6_fewestWords_0
theorem hX6_fewestWords_1 : cX6_fewestWords.data.toList.drop 1 = sX6_fewestWords_1 := dn1 hX6_fewestWords_0
theorem dX6_fewestWords_1 : decode cX6_fewestWords 1 = .ok (.getfield 19, 3) := dk180 hX6_fewestWords_1 rfl
theorem hX6_fewestWords_4 : cX6_fewestWords.data.toList.drop 4 = sX6_fewestWords_4 := dn3 hX6_fewestWords_1
theorem dX6_fewestWords_4 : decode cX6_fewestWords 4 = .ok (.getfield 119, 3) := dk180 hX6_fewestWords_4 rfl
theorem hX6_fewestWords_7 : cX6_fewestWords.data.toList.drop 7 = sX6_fewestWords_7 := dn3 hX6_fewestWords_4
theorem dX6_fewestWords_7 : decode cX6_fewestWords 7 = .ok (.aload_n 0, 1) := dk42 hX6_fewestWords_7
theorem hX6_fewestWords_8 : cX6_fewestWords.data.toList.drop 8 = sX6_fewestWords_8 := dn1 hX6_fewestWords_7
theorem dX6_fewestWords_8 : decode cX6_fewestWords 8 = .ok (.getfield 19, 3) := dk180 hX6_fewestWords_8 rfl
theorem hX6_fewestWords_11 : cX6_fewestWords.data.toList.drop 11 = sX6_fewestWords_11 := dn3 hX6_fewestWords_8
theorem dX6_fewestWords_11 : decode cX6_fewestWords 11 = .ok (.getfield 144, 3) := dk180 hX6_fewestWords_11 rfl
theorem hX6_fewestWords_14 : cX6_fewestWords.data.toList.drop 14 = sX6_fewestWords_14 := dn3 hX6_fewestWords_11
theorem dX6_fewestWords_14 : decode cX6_fewestWords 14 = .ok (.iaload, 1) := dk46 hX6_fewestWords_14
theorem hX6_fewestWords_15 : cX6_fewestWords.data.toList.drop 15 = sX6_fewestWords_15 := dn1 hX6_fewestWords_14
theorem dX6_fewestWords_15 : decode cX6_fewestWords 15 = .ok (.istore_n 3, 1) := dk62 hX6_fewestWords_15
theorem hX6_fewestWords_16 : cX6_fewestWords.data.toList.drop 16 = sX6_fewestWords_16 := dn1 hX6_fewestWords_15
theorem dX6_fewestWords_16 : decode cX6_fewestWords 16 = .ok (.aload_n 0, 1) := dk42 hX6_fewestWords_16
theorem hX6_fewestWords_17 : cX6_fewestWords.data.toList.drop 17 = sX6_fewestWords_17 := dn1 hX6_fewestWords_16
theorem dX6_fewestWords_17 : decode cX6_fewestWords 17 = .ok (.iload_n 3, 1) := dk29 hX6_fewestWords_17
theorem hX6_fewestWords_18 : cX6_fewestWords.data.toList.drop 18 = sX6_fewestWords_18 := dn1 hX6_fewestWords_17
theorem dX6_fewestWords_18 : decode cX6_fewestWords 18 = .ok (.iload_n 1, 1) := dk27 hX6_fewestWords_18
theorem hX6_fewestWords_19 : cX6_fewestWords.data.toList.drop 19 = sX6_fewestWords_19 := dn1 hX6_fewestWords_18
theorem dX6_fewestWords_19 : decode cX6_fewestWords 19 = .ok (.iload_n 2, 1) := dk28 hX6_fewestWords_19
theorem hX6_fewestWords_20 : cX6_fewestWords.data.toList.drop 20 = sX6_fewestWords_20 := dn1 hX6_fewestWords_19
theorem dX6_fewestWords_20 : decode cX6_fewestWords 20 = .ok (.invokevirtual 224, 3) := dk182 hX6_fewestWords_20 rfl
theorem hX6_fewestWords_23 : cX6_fewestWords.data.toList.drop 23 = sX6_fewestWords_23 := dn3 hX6_fewestWords_20
theorem dX6_fewestWords_23 : decode cX6_fewestWords 23 = .ok (.ifCond .ne 6, 3) := dk154 hX6_fewestWords_23 (by decide)
theorem hX6_fewestWords_26 : cX6_fewestWords.data.toList.drop 26 = sX6_fewestWords_26 := dn3 hX6_fewestWords_23
theorem dX6_fewestWords_26 : decode cX6_fewestWords 26 = .ok (.bipush (-2), 2) := dk16 hX6_fewestWords_26 (by decide)
theorem hX6_fewestWords_28 : cX6_fewestWords.data.toList.drop 28 = sX6_fewestWords_28 := dn2 hX6_fewestWords_26
theorem dX6_fewestWords_28 : decode cX6_fewestWords 28 = .ok (.ireturn, 1) := dk172 hX6_fewestWords_28
theorem hX6_fewestWords_29 : cX6_fewestWords.data.toList.drop 29 = sX6_fewestWords_29 := dn1 hX6_fewestWords_28
theorem dX6_fewestWords_29 : decode cX6_fewestWords 29 = .ok (.iload_n 3, 1) := dk29 hX6_fewestWords_29
theorem hX6_fewestWords_30 : cX6_fewestWords.data.toList.drop 30 = sX6_fewestWords_30 := dn1 hX6_fewestWords_29
theorem dX6_fewestWords_30 : decode cX6_fewestWords 30 = .ok (.invokestatic 227, 3) := dk184 hX6_fewestWords_30 rfl
theorem hX6_fewestWords_33 : cX6_fewestWords.data.toList.drop 33 = sX6_fewestWords_33 := dn3 hX6_fewestWords_30
theorem dX6_fewestWords_33 : decode cX6_fewestWords 33 = .ok (.istore 4, 2) := dk54 hX6_fewestWords_33 rfl
theorem hX6_fewestWords_35 : cX6_fewestWords.data.toList.drop 35 = sX6_fewestWords_35 := dn2 hX6_fewestWords_33
theorem dX6_fewestWords_35 : decode cX6_fewestWords 35 = .ok (.iconst 1, 1) := dk4 hX6_fewestWords_35
theorem hX6_fewestWords_36 : cX6_fewestWords.data.toList.drop 36 = sX6_fewestWords_36 := dn1 hX6_fewestWords_35
theorem dX6_fewestWords_36 : decode cX6_fewestWords 36 = .ok (.iload 4, 2) := dk21 hX6_fewestWords_36 rfl
theorem hX6_fewestWords_38 : cX6_fewestWords.data.toList.drop 38 = sX6_fewestWords_38 := dn2 hX6_fewestWords_36
theorem dX6_fewestWords_38 : decode cX6_fewestWords 38 = .ok (.ishl, 1) := dk120 hX6_fewestWords_38
theorem hX6_fewestWords_39 : cX6_fewestWords.data.toList.drop 39 = sX6_fewestWords_39 := dn1 hX6_fewestWords_38
theorem dX6_fewestWords_39 : decode cX6_fewestWords 39 = .ok (.istore 5, 2) := dk54 hX6_fewestWords_39 rfl
theorem hX6_fewestWords_41 : cX6_fewestWords.data.toList.drop 41 = sX6_fewestWords_41 := dn2 hX6_fewestWords_39
theorem dX6_fewestWords_41 : decode cX6_fewestWords 41 = .ok (.iconst 0, 1) := dk3 hX6_fewestWords_41
theorem hX6_fewestWords_42 : cX6_fewestWords.data.toList.drop 42 = sX6_fewestWords_42 := dn1 hX6_fewestWords_41
theorem dX6_fewestWords_42 : decode cX6_fewestWords 42 = .ok (.istore 6, 2) := dk54 hX6_fewestWords_42 rfl
theorem hX6_fewestWords_44 : cX6_fewestWords.data.toList.drop 44 = sX6_fewestWords_44 := dn2 hX6_fewestWords_42
theorem dX6_fewestWords_44 : decode cX6_fewestWords 44 = .ok (.iload 6, 2) := dk21 hX6_fewestWords_44 rfl
theorem hX6_fewestWords_46 : cX6_fewestWords.data.toList.drop 46 = sX6_fewestWords_46 := dn2 hX6_fewestWords_44
theorem dX6_fewestWords_46 : decode cX6_fewestWords 46 = .ok (.iload 4, 2) := dk21 hX6_fewestWords_46 rfl
theorem hX6_fewestWords_48 : cX6_fewestWords.data.toList.drop 48 = sX6_fewestWords_48 := dn2 hX6_fewestWords_46
theorem dX6_fewestWords_48 : decode cX6_fewestWords 48 = .ok (.if_icmp .ge 60, 3) := dk162 hX6_fewestWords_48 (by decide)
theorem hX6_fewestWords_51 : cX6_fewestWords.data.toList.drop 51 = sX6_fewestWords_51 := dn3 hX6_fewestWords_48
theorem dX6_fewestWords_51 : decode cX6_fewestWords 51 = .ok (.iconst 0, 1) := dk3 hX6_fewestWords_51
theorem hX6_fewestWords_52 : cX6_fewestWords.data.toList.drop 52 = sX6_fewestWords_52 := dn1 hX6_fewestWords_51
theorem dX6_fewestWords_52 : decode cX6_fewestWords 52 = .ok (.istore 7, 2) := dk54 hX6_fewestWords_52 rfl
theorem hX6_fewestWords_54 : cX6_fewestWords.data.toList.drop 54 = sX6_fewestWords_54 := dn2 hX6_fewestWords_52
theorem dX6_fewestWords_54 : decode cX6_fewestWords 54 = .ok (.iconst 0, 1) := dk3 hX6_fewestWords_54
theorem hX6_fewestWords_55 : cX6_fewestWords.data.toList.drop 55 = sX6_fewestWords_55 := dn1 hX6_fewestWords_54
theorem dX6_fewestWords_55 : decode cX6_fewestWords 55 = .ok (.istore 8, 2) := dk54 hX6_fewestWords_55 rfl
theorem hX6_fewestWords_57 : cX6_fewestWords.data.toList.drop 57 = sX6_fewestWords_57 := dn2 hX6_fewestWords_55
theorem dX6_fewestWords_57 : decode cX6_fewestWords 57 = .ok (.iload 8, 2) := dk21 hX6_fewestWords_57 rfl
theorem hX6_fewestWords_59 : cX6_fewestWords.data.toList.drop 59 = sX6_fewestWords_59 := dn2 hX6_fewestWords_57
theorem dX6_fewestWords_59 : decode cX6_fewestWords 59 = .ok (.iload 5, 2) := dk21 hX6_fewestWords_59 rfl
theorem hX6_fewestWords_61 : cX6_fewestWords.data.toList.drop 61 = sX6_fewestWords_61 := dn2 hX6_fewestWords_59
theorem dX6_fewestWords_61 : decode cX6_fewestWords 61 = .ok (.if_icmp .ge 41, 3) := dk162 hX6_fewestWords_61 (by decide)
theorem hX6_fewestWords_64 : cX6_fewestWords.data.toList.drop 64 = sX6_fewestWords_64 := dn3 hX6_fewestWords_61
theorem dX6_fewestWords_64 : decode cX6_fewestWords 64 = .ok (.iload 7, 2) := dk21 hX6_fewestWords_64 rfl
theorem hX6_fewestWords_66 : cX6_fewestWords.data.toList.drop 66 = sX6_fewestWords_66 := dn2 hX6_fewestWords_64
theorem dX6_fewestWords_66 : decode cX6_fewestWords 66 = .ok (.invokestatic 227, 3) := dk184 hX6_fewestWords_66 rfl
theorem hX6_fewestWords_69 : cX6_fewestWords.data.toList.drop 69 = sX6_fewestWords_69 := dn3 hX6_fewestWords_66
theorem dX6_fewestWords_69 : decode cX6_fewestWords 69 = .ok (.iload 6, 2) := dk21 hX6_fewestWords_69 rfl
theorem hX6_fewestWords_71 : cX6_fewestWords.data.toList.drop 71 = sX6_fewestWords_71 := dn2 hX6_fewestWords_69
theorem dX6_fewestWords_71 : decode cX6_fewestWords 71 = .ok (.if_icmp .ne 17, 3) := dk160 hX6_fewestWords_71 (by decide)
theorem hX6_fewestWords_74 : cX6_fewestWords.data.toList.drop 74 = sX6_fewestWords_74 := dn3 hX6_fewestWords_71
theorem dX6_fewestWords_74 : decode cX6_fewestWords 74 = .ok (.aload_n 0, 1) := dk42 hX6_fewestWords_74
theorem hX6_fewestWords_75 : cX6_fewestWords.data.toList.drop 75 = sX6_fewestWords_75 := dn1 hX6_fewestWords_74
theorem dX6_fewestWords_75 : decode cX6_fewestWords 75 = .ok (.iload 7, 2) := dk21 hX6_fewestWords_75 rfl
theorem hX6_fewestWords_77 : cX6_fewestWords.data.toList.drop 77 = sX6_fewestWords_77 := dn2 hX6_fewestWords_75
theorem dX6_fewestWords_77 : decode cX6_fewestWords 77 = .ok (.iload_n 1, 1) := dk27 hX6_fewestWords_77
theorem hX6_fewestWords_78 : cX6_fewestWords.data.toList.drop 78 = sX6_fewestWords_78 := dn1 hX6_fewestWords_77
theorem dX6_fewestWords_78 : decode cX6_fewestWords 78 = .ok (.iload_n 2, 1) := dk28 hX6_fewestWords_78
theorem hX6_fewestWords_79 : cX6_fewestWords.data.toList.drop 79 = sX6_fewestWords_79 := dn1 hX6_fewestWords_78
theorem dX6_fewestWords_79 : decode cX6_fewestWords 79 = .ok (.invokevirtual 224, 3) := dk182 hX6_fewestWords_79 rfl
theorem hX6_fewestWords_82 : cX6_fewestWords.data.toList.drop 82 = sX6_fewestWords_82 := dn3 hX6_fewestWords_79
theorem dX6_fewestWords_82 : decode cX6_fewestWords 82 = .ok (.ifCond .eq 6, 3) := dk153 hX6_fewestWords_82 (by decide)
theorem hX6_fewestWords_85 : cX6_fewestWords.data.toList.drop 85 = sX6_fewestWords_85 := dn3 hX6_fewestWords_82
theorem dX6_fewestWords_85 : decode cX6_fewestWords 85 = .ok (.iload 7, 2) := dk21 hX6_fewestWords_85 rfl
theorem hX6_fewestWords_87 : cX6_fewestWords.data.toList.drop 87 = sX6_fewestWords_87 := dn2 hX6_fewestWords_85
theorem dX6_fewestWords_87 : decode cX6_fewestWords 87 = .ok (.ireturn, 1) := dk172 hX6_fewestWords_87
theorem hX6_fewestWords_88 : cX6_fewestWords.data.toList.drop 88 = sX6_fewestWords_88 := dn1 hX6_fewestWords_87
theorem dX6_fewestWords_88 : decode cX6_fewestWords 88 = .ok (.iload 7, 2) := dk21 hX6_fewestWords_88 rfl
theorem hX6_fewestWords_90 : cX6_fewestWords.data.toList.drop 90 = sX6_fewestWords_90 := dn2 hX6_fewestWords_88
theorem dX6_fewestWords_90 : decode cX6_fewestWords 90 = .ok (.iload_n 3, 1) := dk29 hX6_fewestWords_90
theorem hX6_fewestWords_91 : cX6_fewestWords.data.toList.drop 91 = sX6_fewestWords_91 := dn1 hX6_fewestWords_90
theorem dX6_fewestWords_91 : decode cX6_fewestWords 91 = .ok (.isub, 1) := dk100 hX6_fewestWords_91
theorem hX6_fewestWords_92 : cX6_fewestWords.data.toList.drop 92 = sX6_fewestWords_92 := dn1 hX6_fewestWords_91
theorem dX6_fewestWords_92 : decode cX6_fewestWords 92 = .ok (.iload_n 3, 1) := dk29 hX6_fewestWords_92
theorem hX6_fewestWords_93 : cX6_fewestWords.data.toList.drop 93 = sX6_fewestWords_93 := dn1 hX6_fewestWords_92
theorem dX6_fewestWords_93 : decode cX6_fewestWords 93 = .ok (.iand, 1) := dk126 hX6_fewestWords_93
theorem hX6_fewestWords_94 : cX6_fewestWords.data.toList.drop 94 = sX6_fewestWords_94 := dn1 hX6_fewestWords_93
theorem dX6_fewestWords_94 : decode cX6_fewestWords 94 = .ok (.istore 7, 2) := dk54 hX6_fewestWords_94 rfl
theorem hX6_fewestWords_96 : cX6_fewestWords.data.toList.drop 96 = sX6_fewestWords_96 := dn2 hX6_fewestWords_94
theorem dX6_fewestWords_96 : decode cX6_fewestWords 96 = .ok (.iinc 8 1, 3) := dk132 hX6_fewestWords_96 rfl (by decide)
theorem hX6_fewestWords_99 : cX6_fewestWords.data.toList.drop 99 = sX6_fewestWords_99 := dn3 hX6_fewestWords_96
theorem dX6_fewestWords_99 : decode cX6_fewestWords 99 = .ok (.goto (-42), 3) := dk167 hX6_fewestWords_99 (by decide)
theorem hX6_fewestWords_102 : cX6_fewestWords.data.toList.drop 102 = sX6_fewestWords_102 := dn3 hX6_fewestWords_99
theorem dX6_fewestWords_102 : decode cX6_fewestWords 102 = .ok (.iinc 6 1, 3) := dk132 hX6_fewestWords_102 rfl (by decide)
theorem hX6_fewestWords_105 : cX6_fewestWords.data.toList.drop 105 = sX6_fewestWords_105 := dn3 hX6_fewestWords_102
theorem dX6_fewestWords_105 : decode cX6_fewestWords 105 = .ok (.goto (-61), 3) := dk167 hX6_fewestWords_105 (by decide)
theorem hX6_fewestWords_108 : cX6_fewestWords.data.toList.drop 108 = sX6_fewestWords_108 := dn3 hX6_fewestWords_105
theorem dX6_fewestWords_108 : decode cX6_fewestWords 108 = .ok (.iload_n 3, 1) := dk29 hX6_fewestWords_108
theorem hX6_fewestWords_109 : cX6_fewestWords.data.toList.drop 109 = sX6_fewestWords_109 := dn1 hX6_fewestWords_108
theorem dX6_fewestWords_109 : decode cX6_fewestWords 109 = .ok (.ireturn, 1) := dk172 hX6_fewestWords_109
noncomputable def sX6_first_38 : List UInt8 := 172 :: []
noncomputable def sX6_first_35 : List UInt8 := 182 :: 0 :: 129 :: sX6_first_38
noncomputable def sX6_first_34 : List UInt8 := 28 :: sX6_first_35
noncomputable def sX6_first_33 : List UInt8 := 27 :: sX6_first_34
noncomputable def sX6_first_30 : List UInt8 := 180 :: 0 :: 19 :: sX6_first_33
noncomputable def sX6_first_29 : List UInt8 := 42 :: sX6_first_30
noncomputable def sX6_first_26 : List UInt8 := 180 :: 0 :: 26 :: sX6_first_29
noncomputable def sX6_first_25 : List UInt8 := 42 :: sX6_first_26
noncomputable def sX6_first_22 : List UInt8 := 167 :: 0 :: 16 :: sX6_first_25
noncomputable def sX6_first_20 : List UInt8 := 16 :: 254 :: sX6_first_22
noncomputable def sX6_first_17 : List UInt8 := 156 :: 0 :: 8 :: sX6_first_20
noncomputable def sX6_first_16 : List UInt8 := 28 :: sX6_first_17
noncomputable def sX6_first_15 : List UInt8 := 61 :: sX6_first_16
noncomputable def sX6_first_12 : List UInt8 := 182 :: 0 :: 235 :: sX6_first_15
noncomputable def sX6_first_11 : List UInt8 := 27 :: sX6_first_12
noncomputable def sX6_first_10 : List UInt8 := 42 :: sX6_first_11
noncomputable def sX6_first_9 : List UInt8 := 172 :: sX6_first_10
noncomputable def sX6_first_8 : List UInt8 := 2 :: sX6_first_9
noncomputable def sX6_first_5 : List UInt8 := 153 :: 0 :: 5 :: sX6_first_8
noncomputable def sX6_first_2 : List UInt8 := 182 :: 0 :: 106 :: sX6_first_5
noncomputable def sX6_first_1 : List UInt8 := 27 :: sX6_first_2
noncomputable def sX6_first_0 : List UInt8 := 42 :: sX6_first_1
set_option maxRecDepth 100000 in
theorem hX6_first_0 : cX6_first.data.toList.drop 0 = sX6_first_0 := by decide +kernel
theorem dX6_first_0 : decode cX6_first 0 = .ok (.aload_n 0, 1) := dk42 hX6_first_0
theorem hX6_first_1 : cX6_first.data.toList.drop 1 = sX6_first_1 := dn1 hX6_first_0
theorem dX6_first_1 : decode cX6_first 1 = .ok (.iload_n 1, 1) := dk27 hX6_first_1
theorem hX6_first_2 : cX6_first.data.toList.drop 2 = sX6_first_2 := dn1 hX6_first_1
theorem dX6_first_2 : decode cX6_first 2 = .ok (.invokevirtual 106, 3) := dk182 hX6_first_2 rfl
theorem hX6_first_5 : cX6_first.data.toList.drop 5 = sX6_first_5 := dn3 hX6_first_2
theorem dX6_first_5 : decode cX6_first 5 = .ok (.ifCond .eq 5, 3) := dk153 hX6_first_5 (by decide)
theorem hX6_first_8 : cX6_first.data.toList.drop 8 = sX6_first_8 := dn3 hX6_first_5
theorem dX6_first_8 : decode cX6_first 8 = .ok (.iconst (-1), 1) := dk2 hX6_first_8
theorem hX6_first_9 : cX6_first.data.toList.drop 9 = sX6_first_9 := dn1 hX6_first_8
theorem dX6_first_9 : decode cX6_first 9 = .ok (.ireturn, 1) := dk172 hX6_first_9
theorem hX6_first_10 : cX6_first.data.toList.drop 10 = sX6_first_10 := dn1 hX6_first_9
theorem dX6_first_10 : decode cX6_first 10 = .ok (.aload_n 0, 1) := dk42 hX6_first_10
theorem hX6_first_11 : cX6_first.data.toList.drop 11 = sX6_first_11 := dn1 hX6_first_10
theorem dX6_first_11 : decode cX6_first 11 = .ok (.iload_n 1, 1) := dk27 hX6_first_11
theorem hX6_first_12 : cX6_first.data.toList.drop 12 = sX6_first_12 := dn1 hX6_first_11
theorem dX6_first_12 : decode cX6_first 12 = .ok (.invokevirtual 235, 3) := dk182 hX6_first_12 rfl
theorem hX6_first_15 : cX6_first.data.toList.drop 15 = sX6_first_15 := dn3 hX6_first_12
theorem dX6_first_15 : decode cX6_first 15 = .ok (.istore_n 2, 1) := dk61 hX6_first_15
theorem hX6_first_16 : cX6_first.data.toList.drop 16 = sX6_first_16 := dn1 hX6_first_15
theorem dX6_first_16 : decode cX6_first 16 = .ok (.iload_n 2, 1) := dk28 hX6_first_16
theorem hX6_first_17 : cX6_first.data.toList.drop 17 = sX6_first_17 := dn1 hX6_first_16
theorem dX6_first_17 : decode cX6_first 17 = .ok (.ifCond .ge 8, 3) := dk156 hX6_first_17 (by decide)
theorem hX6_first_20 : cX6_first.data.toList.drop 20 = sX6_first_20 := dn3 hX6_first_17
theorem dX6_first_20 : decode cX6_first 20 = .ok (.bipush (-2), 2) := dk16 hX6_first_20 (by decide)
theorem hX6_first_22 : cX6_first.data.toList.drop 22 = sX6_first_22 := dn2 hX6_first_20
theorem dX6_first_22 : decode cX6_first 22 = .ok (.goto 16, 3) := dk167 hX6_first_22 (by decide)
theorem hX6_first_25 : cX6_first.data.toList.drop 25 = sX6_first_25 := dn3 hX6_first_22
theorem dX6_first_25 : decode cX6_first 25 = .ok (.aload_n 0, 1) := dk42 hX6_first_25
theorem hX6_first_26 : cX6_first.data.toList.drop 26 = sX6_first_26 := dn1 hX6_first_25
theorem dX6_first_26 : decode cX6_first 26 = .ok (.getfield 26, 3) := dk180 hX6_first_26 rfl
theorem hX6_first_29 : cX6_first.data.toList.drop 29 = sX6_first_29 := dn3 hX6_first_26
theorem dX6_first_29 : decode cX6_first 29 = .ok (.aload_n 0, 1) := dk42 hX6_first_29
theorem hX6_first_30 : cX6_first.data.toList.drop 30 = sX6_first_30 := dn1 hX6_first_29
theorem dX6_first_30 : decode cX6_first 30 = .ok (.getfield 19, 3) := dk180 hX6_first_30 rfl
theorem hX6_first_33 : cX6_first.data.toList.drop 33 = sX6_first_33 := dn3 hX6_first_30
theorem dX6_first_33 : decode cX6_first 33 = .ok (.iload_n 1, 1) := dk27 hX6_first_33
theorem hX6_first_34 : cX6_first.data.toList.drop 34 = sX6_first_34 := dn1 hX6_first_33
theorem dX6_first_34 : decode cX6_first 34 = .ok (.iload_n 2, 1) := dk28 hX6_first_34
theorem hX6_first_35 : cX6_first.data.toList.drop 35 = sX6_first_35 := dn1 hX6_first_34
theorem dX6_first_35 : decode cX6_first 35 = .ok (.invokevirtual 129, 3) := dk182 hX6_first_35 rfl
theorem hX6_first_38 : cX6_first.data.toList.drop 38 = sX6_first_38 := dn3 hX6_first_35
theorem dX6_first_38 : decode cX6_first 38 = .ok (.ireturn, 1) := dk172 hX6_first_38
noncomputable def sX6_firstBreaths_31 : List UInt8 := 172 :: []
noncomputable def sX6_firstBreaths_28 : List UInt8 := 182 :: 0 :: 238 :: sX6_firstBreaths_31
noncomputable def sX6_firstBreaths_27 : List UInt8 := 28 :: sX6_firstBreaths_28
noncomputable def sX6_firstBreaths_26 : List UInt8 := 27 :: sX6_firstBreaths_27
noncomputable def sX6_firstBreaths_25 : List UInt8 := 42 :: sX6_firstBreaths_26
noncomputable def sX6_firstBreaths_22 : List UInt8 := 167 :: 0 :: 9 :: sX6_firstBreaths_25
noncomputable def sX6_firstBreaths_20 : List UInt8 := 16 :: 254 :: sX6_firstBreaths_22
noncomputable def sX6_firstBreaths_17 : List UInt8 := 156 :: 0 :: 8 :: sX6_firstBreaths_20
noncomputable def sX6_firstBreaths_16 : List UInt8 := 28 :: sX6_firstBreaths_17
noncomputable def sX6_firstBreaths_15 : List UInt8 := 61 :: sX6_firstBreaths_16
noncomputable def sX6_firstBreaths_12 : List UInt8 := 182 :: 0 :: 235 :: sX6_firstBreaths_15
noncomputable def sX6_firstBreaths_11 : List UInt8 := 27 :: sX6_firstBreaths_12
noncomputable def sX6_firstBreaths_10 : List UInt8 := 42 :: sX6_firstBreaths_11
noncomputable def sX6_firstBreaths_9 : List UInt8 := 172 :: sX6_firstBreaths_10
noncomputable def sX6_firstBreaths_8 : List UInt8 := 2 :: sX6_firstBreaths_9
noncomputable def sX6_firstBreaths_5 : List UInt8 := 153 :: 0 :: 5 :: sX6_firstBreaths_8
noncomputable def sX6_firstBreaths_2 : List UInt8 := 182 :: 0 :: 106 :: sX6_firstBreaths_5
noncomputable def sX6_firstBreaths_1 : List UInt8 := 27 :: sX6_firstBreaths_2
noncomputable def sX6_firstBreaths_0 : List UInt8 := 42 :: sX6_firstBreaths_1
set_option maxRecDepth 100000 in
theorem hX6_firstBreaths_0 : cX6_firstBreaths.data.toList.drop 0 = sX6_firstBreaths_0 := by decide +kernel
theorem dX6_firstBreaths_0 : decode cX6_firstBreaths 0 = .ok (.aload_n 0, 1) := dk42 hX6_firstBreaths_0
theorem hX6_firstBreaths_1 : cX6_firstBreaths.data.toList.drop 1 = sX6_firstBreaths_1 := dn1 hX6_firstBreaths_0
theorem dX6_firstBreaths_1 : decode cX6_firstBreaths 1 = .ok (.iload_n 1, 1) := dk27 hX6_firstBreaths_1
theorem hX6_firstBreaths_2 : cX6_firstBreaths.data.toList.drop 2 = sX6_firstBreaths_2 := dn1 hX6_firstBreaths_1
theorem dX6_firstBreaths_2 : decode cX6_firstBreaths 2 = .ok (.invokevirtual 106, 3) := dk182 hX6_firstBreaths_2 rfl
theorem hX6_firstBreaths_5 : cX6_firstBreaths.data.toList.drop 5 = sX6_firstBreaths_5 := dn3 hX6_firstBreaths_2
theorem dX6_firstBreaths_5 : decode cX6_firstBreaths 5 = .ok (.ifCond .eq 5, 3) := dk153 hX6_firstBreaths_5 (by decide)
theorem hX6_firstBreaths_8 : cX6_firstBreaths.data.toList.drop 8 = sX6_firstBreaths_8 := dn3 hX6_firstBreaths_5
theorem dX6_firstBreaths_8 : decode cX6_firstBreaths 8 = .ok (.iconst (-1), 1) := dk2 hX6_firstBreaths_8
theorem hX6_firstBreaths_9 : cX6_firstBreaths.data.toList.drop 9 = sX6_firstBreaths_9 := dn1 hX6_firstBreaths_8
theorem dX6_firstBreaths_9 : decode cX6_firstBreaths 9 = .ok (.ireturn, 1) := dk172 hX6_firstBreaths_9
theorem hX6_firstBreaths_10 : cX6_firstBreaths.data.toList.drop 10 = sX6_firstBreaths_10 := dn1 hX6_firstBreaths_9
theorem dX6_firstBreaths_10 : decode cX6_firstBreaths 10 = .ok (.aload_n 0, 1) := dk42 hX6_firstBreaths_10
theorem hX6_firstBreaths_11 : cX6_firstBreaths.data.toList.drop 11 = sX6_firstBreaths_11 := dn1 hX6_firstBreaths_10
theorem dX6_firstBreaths_11 : decode cX6_firstBreaths 11 = .ok (.iload_n 1, 1) := dk27 hX6_firstBreaths_11
theorem hX6_firstBreaths_12 : cX6_firstBreaths.data.toList.drop 12 = sX6_firstBreaths_12 := dn1 hX6_firstBreaths_11
theorem dX6_firstBreaths_12 : decode cX6_firstBreaths 12 = .ok (.invokevirtual 235, 3) := dk182 hX6_firstBreaths_12 rfl
theorem hX6_firstBreaths_15 : cX6_firstBreaths.data.toList.drop 15 = sX6_firstBreaths_15 := dn3 hX6_firstBreaths_12
theorem dX6_firstBreaths_15 : decode cX6_firstBreaths 15 = .ok (.istore_n 2, 1) := dk61 hX6_firstBreaths_15
theorem hX6_firstBreaths_16 : cX6_firstBreaths.data.toList.drop 16 = sX6_firstBreaths_16 := dn1 hX6_firstBreaths_15
theorem dX6_firstBreaths_16 : decode cX6_firstBreaths 16 = .ok (.iload_n 2, 1) := dk28 hX6_firstBreaths_16
theorem hX6_firstBreaths_17 : cX6_firstBreaths.data.toList.drop 17 = sX6_firstBreaths_17 := dn1 hX6_firstBreaths_16
theorem dX6_firstBreaths_17 : decode cX6_firstBreaths 17 = .ok (.ifCond .ge 8, 3) := dk156 hX6_firstBreaths_17 (by decide)
theorem hX6_firstBreaths_20 : cX6_firstBreaths.data.toList.drop 20 = sX6_firstBreaths_20 := dn3 hX6_firstBreaths_17
theorem dX6_firstBreaths_20 : decode cX6_firstBreaths 20 = .ok (.bipush (-2), 2) := dk16 hX6_firstBreaths_20 (by decide)
theorem hX6_firstBreaths_22 : cX6_firstBreaths.data.toList.drop 22 = sX6_firstBreaths_22 := dn2 hX6_firstBreaths_20
theorem dX6_firstBreaths_22 : decode cX6_firstBreaths 22 = .ok (.goto 9, 3) := dk167 hX6_firstBreaths_22 (by decide)
theorem hX6_firstBreaths_25 : cX6_firstBreaths.data.toList.drop 25 = sX6_firstBreaths_25 := dn3 hX6_firstBreaths_22
theorem dX6_firstBreaths_25 : decode cX6_firstBreaths 25 = .ok (.aload_n 0, 1) := dk42 hX6_firstBreaths_25
theorem hX6_firstBreaths_26 : cX6_firstBreaths.data.toList.drop 26 = sX6_firstBreaths_26 := dn1 hX6_firstBreaths_25
theorem dX6_firstBreaths_26 : decode cX6_firstBreaths 26 = .ok (.iload_n 1, 1) := dk27 hX6_firstBreaths_26
theorem hX6_firstBreaths_27 : cX6_firstBreaths.data.toList.drop 27 = sX6_firstBreaths_27 := dn1 hX6_firstBreaths_26
theorem dX6_firstBreaths_27 : decode cX6_firstBreaths 27 = .ok (.iload_n 2, 1) := dk28 hX6_firstBreaths_27
theorem hX6_firstBreaths_28 : cX6_firstBreaths.data.toList.drop 28 = sX6_firstBreaths_28 := dn1 hX6_firstBreaths_27
theorem dX6_firstBreaths_28 : decode cX6_firstBreaths 28 = .ok (.invokevirtual 238, 3) := dk182 hX6_firstBreaths_28 rfl
theorem hX6_firstBreaths_31 : cX6_firstBreaths.data.toList.drop 31 = sX6_firstBreaths_31 := dn3 hX6_firstBreaths_28
theorem dX6_firstBreaths_31 : decode cX6_firstBreaths 31 = .ok (.ireturn, 1) := dk172 hX6_firstBreaths_31
noncomputable def sX6_fitAt_63 : List UInt8 := 172 :: []
noncomputable def sX6_fitAt_60 : List UInt8 := 182 :: 0 :: 66 :: sX6_fitAt_63
noncomputable def sX6_fitAt_59 : List UInt8 := 4 :: sX6_fitAt_60
noncomputable def sX6_fitAt_58 : List UInt8 := 42 :: sX6_fitAt_59
noncomputable def sX6_fitAt_55 : List UInt8 := 167 :: 255 :: 220 :: sX6_fitAt_58
noncomputable def sX6_fitAt_52 : List UInt8 := 132 :: 4 :: 1 :: sX6_fitAt_55
noncomputable def sX6_fitAt_49 : List UInt8 := 132 :: 3 :: 1 :: sX6_fitAt_52
noncomputable def sX6_fitAt_48 : List UInt8 := 172 :: sX6_fitAt_49
noncomputable def sX6_fitAt_46 : List UInt8 := 21 :: 4 :: sX6_fitAt_48
noncomputable def sX6_fitAt_43 : List UInt8 := 160 :: 0 :: 6 :: sX6_fitAt_46
noncomputable def sX6_fitAt_42 : List UInt8 := 27 :: sX6_fitAt_43
noncomputable def sX6_fitAt_41 : List UInt8 := 29 :: sX6_fitAt_42
noncomputable def sX6_fitAt_38 : List UInt8 := 160 :: 0 :: 14 :: sX6_fitAt_41
noncomputable def sX6_fitAt_37 : List UInt8 := 4 :: sX6_fitAt_38
noncomputable def sX6_fitAt_36 : List UInt8 := 126 :: sX6_fitAt_37
noncomputable def sX6_fitAt_35 : List UInt8 := 4 :: sX6_fitAt_36
noncomputable def sX6_fitAt_34 : List UInt8 := 122 :: sX6_fitAt_35
noncomputable def sX6_fitAt_32 : List UInt8 := 21 :: 4 :: sX6_fitAt_34
noncomputable def sX6_fitAt_31 : List UInt8 := 28 :: sX6_fitAt_32
noncomputable def sX6_fitAt_28 : List UInt8 := 162 :: 0 :: 30 :: sX6_fitAt_31
noncomputable def sX6_fitAt_25 : List UInt8 := 182 :: 1 :: 34 :: sX6_fitAt_28
noncomputable def sX6_fitAt_22 : List UInt8 := 180 :: 0 :: 19 :: sX6_fitAt_25
noncomputable def sX6_fitAt_21 : List UInt8 := 42 :: sX6_fitAt_22
noncomputable def sX6_fitAt_19 : List UInt8 := 21 :: 4 :: sX6_fitAt_21
noncomputable def sX6_fitAt_17 : List UInt8 := 54 :: 4 :: sX6_fitAt_19
noncomputable def sX6_fitAt_16 : List UInt8 := 3 :: sX6_fitAt_17
noncomputable def sX6_fitAt_15 : List UInt8 := 62 :: sX6_fitAt_16
noncomputable def sX6_fitAt_14 : List UInt8 := 3 :: sX6_fitAt_15
noncomputable def sX6_fitAt_13 : List UInt8 := 61 :: sX6_fitAt_14
noncomputable def sX6_fitAt_10 : List UInt8 := 182 :: 1 :: 31 :: sX6_fitAt_13
noncomputable def sX6_fitAt_9 : List UInt8 := 42 :: sX6_fitAt_10
noncomputable def sX6_fitAt_8 : List UInt8 := 172 :: sX6_fitAt_9
noncomputable def sX6_fitAt_7 : List UInt8 := 2 :: sX6_fitAt_8
noncomputable def sX6_fitAt_4 : List UInt8 := 153 :: 0 :: 5 :: sX6_fitAt_7
noncomputable def sX6_fitAt_1 : List UInt8 := 182 :: 0 :: 140 :: sX6_fitAt_4
noncomputable def sX6_fitAt_0 : List UInt8 := 42 :: sX6_fitAt_1
set_option maxRecDepth 100000 in
theorem hX6_fitAt_0 : cX6_fitAt.data.toList.drop 0 = sX6_fitAt_0 := by decide +kernel
theorem dX6_fitAt_0 : decode cX6_fitAt 0 = .ok (.aload_n 0, 1) := dk42 hX6_fitAt_0
theorem hX6_fitAt_1 : cX6_fitAt.data.toList.drop 1 = sX6_fitAt_1 := dn1 hX6_fitAt_0
theorem dX6_fitAt_1 : decode cX6_fitAt 1 = .ok (.invokevirtual 140, 3) := dk182 hX6_fitAt_1 rfl
theorem hX6_fitAt_4 : cX6_fitAt.data.toList.drop 4 = sX6_fitAt_4 := dn3 hX6_fitAt_1
theorem dX6_fitAt_4 : decode cX6_fitAt 4 = .ok (.ifCond .eq 5, 3) := dk153 hX6_fitAt_4 (by decide)
theorem hX6_fitAt_7 : cX6_fitAt.data.toList.drop 7 = sX6_fitAt_7 := dn3 hX6_fitAt_4
theorem dX6_fitAt_7 : decode cX6_fitAt 7 = .ok (.iconst (-1), 1) := dk2 hX6_fitAt_7
theorem hX6_fitAt_8 : cX6_fitAt.data.toList.drop 8 = sX6_fitAt_8 := dn1 hX6_fitAt_7
theorem dX6_fitAt_8 : decode cX6_fitAt 8 = .ok (.ireturn, 1) := dk172 hX6_fitAt_8
theorem hX6_fitAt_9 : cX6_fitAt.data.toList.drop 9 = sX6_fitAt_9 := dn1 hX6_fitAt_8
theorem dX6_fitAt_9 : decode cX6_fitAt 9 = .ok (.aload_n 0, 1) := dk42 hX6_fitAt_9
theorem hX6_fitAt_10 : cX6_fitAt.data.toList.drop 10 = sX6_fitAt_10 := dn1 hX6_fitAt_9
theorem dX6_fitAt_10 : decode cX6_fitAt 10 = .ok (.invokevirtual 287, 3) := dk182 hX6_fitAt_10 rfl
theorem hX6_fitAt_13 : cX6_fitAt.data.toList.drop 13 = sX6_fitAt_13 := dn3 hX6_fitAt_10
theorem dX6_fitAt_13 : decode cX6_fitAt 13 = .ok (.istore_n 2, 1) := dk61 hX6_fitAt_13
theorem hX6_fitAt_14 : cX6_fitAt.data.toList.drop 14 = sX6_fitAt_14 := dn1 hX6_fitAt_13
theorem dX6_fitAt_14 : decode cX6_fitAt 14 = .ok (.iconst 0, 1) := dk3 hX6_fitAt_14
theorem hX6_fitAt_15 : cX6_fitAt.data.toList.drop 15 = sX6_fitAt_15 := dn1 hX6_fitAt_14
theorem dX6_fitAt_15 : decode cX6_fitAt 15 = .ok (.istore_n 3, 1) := dk62 hX6_fitAt_15
theorem hX6_fitAt_16 : cX6_fitAt.data.toList.drop 16 = sX6_fitAt_16 := dn1 hX6_fitAt_15
theorem dX6_fitAt_16 : decode cX6_fitAt 16 = .ok (.iconst 0, 1) := dk3 hX6_fitAt_16
theorem hX6_fitAt_17 : cX6_fitAt.data.toList.drop 17 = sX6_fitAt_17 := dn1 hX6_fitAt_16
theorem dX6_fitAt_17 : decode cX6_fitAt 17 = .ok (.istore 4, 2) := dk54 hX6_fitAt_17 rfl
theorem hX6_fitAt_19 : cX6_fitAt.data.toList.drop 19 = sX6_fitAt_19 := dn2 hX6_fitAt_17
theorem dX6_fitAt_19 : decode cX6_fitAt 19 = .ok (.iload 4, 2) := dk21 hX6_fitAt_19 rfl
theorem hX6_fitAt_21 : cX6_fitAt.data.toList.drop 21 = sX6_fitAt_21 := dn2 hX6_fitAt_19
theorem dX6_fitAt_21 : decode cX6_fitAt 21 = .ok (.aload_n 0, 1) := dk42 hX6_fitAt_21
theorem hX6_fitAt_22 : cX6_fitAt.data.toList.drop 22 = sX6_fitAt_22 := dn1 hX6_fitAt_21
theorem dX6_fitAt_22 : decode cX6_fitAt 22 = .ok (.getfield 19, 3) := dk180 hX6_fitAt_22 rfl
theorem hX6_fitAt_25 : cX6_fitAt.data.toList.drop 25 = sX6_fitAt_25 := dn3 hX6_fitAt_22
theorem dX6_fitAt_25 : decode cX6_fitAt 25 = .ok (.invokevirtual 290, 3) := dk182 hX6_fitAt_25 rfl
theorem hX6_fitAt_28 : cX6_fitAt.data.toList.drop 28 = sX6_fitAt_28 := dn3 hX6_fitAt_25
theorem dX6_fitAt_28 : decode cX6_fitAt 28 = .ok (.if_icmp .ge 30, 3) := dk162 hX6_fitAt_28 (by decide)
theorem hX6_fitAt_31 : cX6_fitAt.data.toList.drop 31 = sX6_fitAt_31 := dn3 hX6_fitAt_28
theorem dX6_fitAt_31 : decode cX6_fitAt 31 = .ok (.iload_n 2, 1) := dk28 hX6_fitAt_31
theorem hX6_fitAt_32 : cX6_fitAt.data.toList.drop 32 = sX6_fitAt_32 := dn1 hX6_fitAt_31
theorem dX6_fitAt_32 : decode cX6_fitAt 32 = .ok (.iload 4, 2) := dk21 hX6_fitAt_32 rfl
theorem hX6_fitAt_34 : cX6_fitAt.data.toList.drop 34 = sX6_fitAt_34 := dn2 hX6_fitAt_32
theorem dX6_fitAt_34 : decode cX6_fitAt 34 = .ok (.ishr, 1) := dk122 hX6_fitAt_34
theorem hX6_fitAt_35 : cX6_fitAt.data.toList.drop 35 = sX6_fitAt_35 := dn1 hX6_fitAt_34
theorem dX6_fitAt_35 : decode cX6_fitAt 35 = .ok (.iconst 1, 1) := dk4 hX6_fitAt_35
theorem hX6_fitAt_36 : cX6_fitAt.data.toList.drop 36 = sX6_fitAt_36 := dn1 hX6_fitAt_35
theorem dX6_fitAt_36 : decode cX6_fitAt 36 = .ok (.iand, 1) := dk126 hX6_fitAt_36
theorem hX6_fitAt_37 : cX6_fitAt.data.toList.drop 37 = sX6_fitAt_37 := dn1 hX6_fitAt_36
theorem dX6_fitAt_37 : decode cX6_fitAt 37 = .ok (.iconst 1, 1) := dk4 hX6_fitAt_37
theorem hX6_fitAt_38 : cX6_fitAt.data.toList.drop 38 = sX6_fitAt_38 := dn1 hX6_fitAt_37
theorem dX6_fitAt_38 : decode cX6_fitAt 38 = .ok (.if_icmp .ne 14, 3) := dk160 hX6_fitAt_38 (by decide)
theorem hX6_fitAt_41 : cX6_fitAt.data.toList.drop 41 = sX6_fitAt_41 := dn3 hX6_fitAt_38
theorem dX6_fitAt_41 : decode cX6_fitAt 41 = .ok (.iload_n 3, 1) := dk29 hX6_fitAt_41
theorem hX6_fitAt_42 : cX6_fitAt.data.toList.drop 42 = sX6_fitAt_42 := dn1 hX6_fitAt_41
theorem dX6_fitAt_42 : decode cX6_fitAt 42 = .ok (.iload_n 1, 1) := dk27 hX6_fitAt_42
theorem hX6_fitAt_43 : cX6_fitAt.data.toList.drop 43 = sX6_fitAt_43 := dn1 hX6_fitAt_42
theorem dX6_fitAt_43 : decode cX6_fitAt 43 = .ok (.if_icmp .ne 6, 3) := dk160 hX6_fitAt_43 (by decide)
theorem hX6_fitAt_46 : cX6_fitAt.data.toList.drop 46 = sX6_fitAt_46 := dn3 hX6_fitAt_43
theorem dX6_fitAt_46 : decode cX6_fitAt 46 = .ok (.iload 4, 2) := dk21 hX6_fitAt_46 rfl
theorem hX6_fitAt_48 : cX6_fitAt.data.toList.drop 48 = sX6_fitAt_48 := dn2 hX6_fitAt_46
theorem dX6_fitAt_48 : decode cX6_fitAt 48 = .ok (.ireturn, 1) := dk172 hX6_fitAt_48
theorem hX6_fitAt_49 : cX6_fitAt.data.toList.drop 49 = sX6_fitAt_49 := dn1 hX6_fitAt_48
theorem dX6_fitAt_49 : decode cX6_fitAt 49 = .ok (.iinc 3 1, 3) := dk132 hX6_fitAt_49 rfl (by decide)
theorem hX6_fitAt_52 : cX6_fitAt.data.toList.drop 52 = sX6_fitAt_52 := dn3 hX6_fitAt_49
theorem dX6_fitAt_52 : decode cX6_fitAt 52 = .ok (.iinc 4 1, 3) := dk132 hX6_fitAt_52 rfl (by decide)
theorem hX6_fitAt_55 : cX6_fitAt.data.toList.drop 55 = sX6_fitAt_55 := dn3 hX6_fitAt_52
theorem dX6_fitAt_55 : decode cX6_fitAt 55 = .ok (.goto (-36), 3) := dk167 hX6_fitAt_55 (by decide)
theorem hX6_fitAt_58 : cX6_fitAt.data.toList.drop 58 = sX6_fitAt_58 := dn3 hX6_fitAt_55
theorem dX6_fitAt_58 : decode cX6_fitAt 58 = .ok (.aload_n 0, 1) := dk42 hX6_fitAt_58
theorem hX6_fitAt_59 : cX6_fitAt.data.toList.drop 59 = sX6_fitAt_59 := dn1 hX6_fitAt_58
theorem dX6_fitAt_59 : decode cX6_fitAt 59 = .ok (.iconst 1, 1) := dk4 hX6_fitAt_59
theorem hX6_fitAt_60 : cX6_fitAt.data.toList.drop 60 = sX6_fitAt_60 := dn1 hX6_fitAt_59
theorem dX6_fitAt_60 : decode cX6_fitAt 60 = .ok (.invokevirtual 66, 3) := dk182 hX6_fitAt_60 rfl
theorem hX6_fitAt_63 : cX6_fitAt.data.toList.drop 63 = sX6_fitAt_63 := dn3 hX6_fitAt_60
theorem dX6_fitAt_63 : decode cX6_fitAt 63 = .ok (.ireturn, 1) := dk172 hX6_fitAt_63
noncomputable def sX6_fits_18 : List UInt8 := 172 :: []
noncomputable def sX6_fits_15 : List UInt8 := 184 :: 0 :: 227 :: sX6_fits_18
noncomputable def sX6_fits_12 : List UInt8 := 182 :: 1 :: 31 :: sX6_fits_15
noncomputable def sX6_fits_11 : List UInt8 := 42 :: sX6_fits_12
noncomputable def sX6_fits_8 : List UInt8 := 167 :: 0 :: 10 :: sX6_fits_11
noncomputable def sX6_fits_7 : List UInt8 := 2 :: sX6_fits_8
noncomputable def sX6_fits_4 : List UInt8 := 153 :: 0 :: 7 :: sX6_fits_7
noncomputable def sX6_fits_1 : List UInt8 := 182 :: 0 :: 140 :: sX6_fits_4
noncomputable def sX6_fits_0 : List UInt8 := 42 :: sX6_fits_1
set_option maxRecDepth 100000 in
theorem hX6_fits_0 : cX6_fits.data.toList.drop 0 = sX6_fits_0 := by decide +kernel
theorem dX6_fits_0 : decode cX6_fits 0 = .ok (.aload_n 0, 1) := dk42 hX6_fits_0
theorem hX6_fits_1 : cX6_fits.data.toList.drop 1 = sX6_fits_1 := dn1 hX6_fits_0
theorem dX6_fits_1 : decode cX6_fits 1 = .ok (.invokevirtual 140, 3) := dk182 hX6_fits_1 rfl
theorem hX6_fits_4 : cX6_fits.data.toList.drop 4 = sX6_fits_4 := dn3 hX6_fits_1
theorem dX6_fits_4 : decode cX6_fits 4 = .ok (.ifCond .eq 7, 3) := dk153 hX6_fits_4 (by decide)
theorem hX6_fits_7 : cX6_fits.data.toList.drop 7 = sX6_fits_7 := dn3 hX6_fits_4
theorem dX6_fits_7 : decode cX6_fits 7 = .ok (.iconst (-1), 1) := dk2 hX6_fits_7
theorem hX6_fits_8 : cX6_fits.data.toList.drop 8 = sX6_fits_8 := dn1 hX6_fits_7
theorem dX6_fits_8 : decode cX6_fits 8 = .ok (.goto 10, 3) := dk167 hX6_fits_8 (by decide)
theorem hX6_fits_11 : cX6_fits.data.toList.drop 11 = sX6_fits_11 := dn3 hX6_fits_8
theorem dX6_fits_11 : decode cX6_fits 11 = .ok (.aload_n 0, 1) := dk42 hX6_fits_11
theorem hX6_fits_12 : cX6_fits.data.toList.drop 12 = sX6_fits_12 := dn1 hX6_fits_11
theorem dX6_fits_12 : decode cX6_fits 12 = .ok (.invokevirtual 287, 3) := dk182 hX6_fits_12 rfl
theorem hX6_fits_15 : cX6_fits.data.toList.drop 15 = sX6_fits_15 := dn3 hX6_fits_12
theorem dX6_fits_15 : decode cX6_fits 15 = .ok (.invokestatic 227, 3) := dk184 hX6_fits_15 rfl
theorem hX6_fits_18 : cX6_fits.data.toList.drop 18 = sX6_fits_18 := dn3 hX6_fits_15
theorem dX6_fits_18 : decode cX6_fits 18 = .ok (.ireturn, 1) := dk172 hX6_fits_18
noncomputable def sX6_fittingSets_79 : List UInt8 := 172 :: []
noncomputable def sX6_fittingSets_78 : List UInt8 := 27 :: sX6_fittingSets_79
noncomputable def sX6_fittingSets_75 : List UInt8 := 167 :: 255 :: 185 :: sX6_fittingSets_78
noncomputable def sX6_fittingSets_72 : List UInt8 := 132 :: 2 :: 1 :: sX6_fittingSets_75
noncomputable def sX6_fittingSets_71 : List UInt8 := 60 :: sX6_fittingSets_72
noncomputable def sX6_fittingSets_70 : List UInt8 := 128 :: sX6_fittingSets_71
noncomputable def sX6_fittingSets_69 : List UInt8 := 120 :: sX6_fittingSets_70
noncomputable def sX6_fittingSets_68 : List UInt8 := 28 :: sX6_fittingSets_69
noncomputable def sX6_fittingSets_67 : List UInt8 := 4 :: sX6_fittingSets_68
noncomputable def sX6_fittingSets_66 : List UInt8 := 27 :: sX6_fittingSets_67
noncomputable def sX6_fittingSets_63 : List UInt8 := 160 :: 0 :: 9 :: sX6_fittingSets_66
noncomputable def sX6_fittingSets_60 : List UInt8 := 180 :: 1 :: 53 :: sX6_fittingSets_63
noncomputable def sX6_fittingSets_57 : List UInt8 := 180 :: 0 :: 19 :: sX6_fittingSets_60
noncomputable def sX6_fittingSets_56 : List UInt8 := 42 :: sX6_fittingSets_57
noncomputable def sX6_fittingSets_53 : List UInt8 := 184 :: 1 :: 56 :: sX6_fittingSets_56
noncomputable def sX6_fittingSets_50 : List UInt8 := 180 :: 0 :: 159 :: sX6_fittingSets_53
noncomputable def sX6_fittingSets_47 : List UInt8 := 180 :: 0 :: 19 :: sX6_fittingSets_50
noncomputable def sX6_fittingSets_46 : List UInt8 := 42 :: sX6_fittingSets_47
noncomputable def sX6_fittingSets_45 : List UInt8 := 29 :: sX6_fittingSets_46
noncomputable def sX6_fittingSets_42 : List UInt8 := 155 :: 0 :: 24 :: sX6_fittingSets_45
noncomputable def sX6_fittingSets_39 : List UInt8 := 180 :: 1 :: 53 :: sX6_fittingSets_42
noncomputable def sX6_fittingSets_36 : List UInt8 := 180 :: 0 :: 19 :: sX6_fittingSets_39
noncomputable def sX6_fittingSets_35 : List UInt8 := 42 :: sX6_fittingSets_36
noncomputable def sX6_fittingSets_34 : List UInt8 := 62 :: sX6_fittingSets_35
noncomputable def sX6_fittingSets_31 : List UInt8 := 182 :: 1 :: 49 :: sX6_fittingSets_34
noncomputable def sX6_fittingSets_30 : List UInt8 := 28 :: sX6_fittingSets_31
noncomputable def sX6_fittingSets_27 : List UInt8 := 180 :: 1 :: 46 :: sX6_fittingSets_30
noncomputable def sX6_fittingSets_24 : List UInt8 := 180 :: 0 :: 19 :: sX6_fittingSets_27
noncomputable def sX6_fittingSets_23 : List UInt8 := 42 :: sX6_fittingSets_24
noncomputable def sX6_fittingSets_20 : List UInt8 := 180 :: 0 :: 19 :: sX6_fittingSets_23
noncomputable def sX6_fittingSets_19 : List UInt8 := 42 :: sX6_fittingSets_20
noncomputable def sX6_fittingSets_16 : List UInt8 := 180 :: 0 :: 54 :: sX6_fittingSets_19
noncomputable def sX6_fittingSets_15 : List UInt8 := 42 :: sX6_fittingSets_16
noncomputable def sX6_fittingSets_12 : List UInt8 := 162 :: 0 :: 66 :: sX6_fittingSets_15
noncomputable def sX6_fittingSets_9 : List UInt8 := 182 :: 1 :: 34 :: sX6_fittingSets_12
noncomputable def sX6_fittingSets_6 : List UInt8 := 180 :: 0 :: 19 :: sX6_fittingSets_9
noncomputable def sX6_fittingSets_5 : List UInt8 := 42 :: sX6_fittingSets_6
noncomputable def sX6_fittingSets_4 : List UInt8 := 28 :: sX6_fittingSets_5
noncomputable def sX6_fittingSets_3 : List UInt8 := 61 :: sX6_fittingSets_4
noncomputable def sX6_fittingSets_2 : List UInt8 := 3 :: sX6_fittingSets_3
noncomputable def sX6_fittingSets_1 : List UInt8 := 60 :: sX6_fittingSets_2
noncomputable def sX6_fittingSets_0 : List UInt8 := 3 :: sX6_fittingSets_1
set_option maxRecDepth 100000 in
theorem hX6_fittingSets_0 : cX6_fittingSets.data.toList.drop 0 = sX6_fittingSets_0 := by decide +kernel
theorem dX6_fittingSets_0 : decode cX6_fittingSets 0 = .ok (.iconst 0, 1) := dk3 hX6_fittingSets_0
theorem hX6_fittingSets_1 : cX6_fittingSets.data.toList.drop 1 = sX6_fittingSets_1 := dn1 hX6_fittingSets_0
theorem dX6_fittingSets_1 : decode cX6_fittingSets 1 = .ok (.istore_n 1, 1) := dk60 hX6_fittingSets_1
theorem hX6_fittingSets_2 : cX6_fittingSets.data.toList.drop 2 = sX6_fittingSets_2 := dn1 hX6_fittingSets_1
theorem dX6_fittingSets_2 : decode cX6_fittingSets 2 = .ok (.iconst 0, 1) := dk3 hX6_fittingSets_2
theorem hX6_fittingSets_3 : cX6_fittingSets.data.toList.drop 3 = sX6_fittingSets_3 := dn1 hX6_fittingSets_2
theorem dX6_fittingSets_3 : decode cX6_fittingSets 3 = .ok (.istore_n 2, 1) := dk61 hX6_fittingSets_3
theorem hX6_fittingSets_4 : cX6_fittingSets.data.toList.drop 4 = sX6_fittingSets_4 := dn1 hX6_fittingSets_3
theorem dX6_fittingSets_4 : decode cX6_fittingSets 4 = .ok (.iload_n 2, 1) := dk28 hX6_fittingSets_4
theorem hX6_fittingSets_5 : cX6_fittingSets.data.toList.drop 5 = sX6_fittingSets_5 := dn1 hX6_fittingSets_4
theorem dX6_fittingSets_5 : decode cX6_fittingSets 5 = .ok (.aload_n 0, 1) := dk42 hX6_fittingSets_5
theorem hX6_fittingSets_6 : cX6_fittingSets.data.toList.drop 6 = sX6_fittingSets_6 := dn1 hX6_fittingSets_5
theorem dX6_fittingSets_6 : decode cX6_fittingSets 6 = .ok (.getfield 19, 3) := dk180 hX6_fittingSets_6 rfl
theorem hX6_fittingSets_9 : cX6_fittingSets.data.toList.drop 9 = sX6_fittingSets_9 := dn3 hX6_fittingSets_6
theorem dX6_fittingSets_9 : decode cX6_fittingSets 9 = .ok (.invokevirtual 290, 3) := dk182 hX6_fittingSets_9 rfl
theorem hX6_fittingSets_12 : cX6_fittingSets.data.toList.drop 12 = sX6_fittingSets_12 := dn3 hX6_fittingSets_9
theorem dX6_fittingSets_12 : decode cX6_fittingSets 12 = .ok (.if_icmp .ge 66, 3) := dk162 hX6_fittingSets_12 (by decide)
theorem hX6_fittingSets_15 : cX6_fittingSets.data.toList.drop 15 = sX6_fittingSets_15 := dn3 hX6_fittingSets_12
theorem dX6_fittingSets_15 : decode cX6_fittingSets 15 = .ok (.aload_n 0, 1) := dk42 hX6_fittingSets_15
theorem hX6_fittingSets_16 : cX6_fittingSets.data.toList.drop 16 = sX6_fittingSets_16 := dn1 hX6_fittingSets_15
theorem dX6_fittingSets_16 : decode cX6_fittingSets 16 = .ok (.getfield 54, 3) := dk180 hX6_fittingSets_16 rfl
theorem hX6_fittingSets_19 : cX6_fittingSets.data.toList.drop 19 = sX6_fittingSets_19 := dn3 hX6_fittingSets_16
theorem dX6_fittingSets_19 : decode cX6_fittingSets 19 = .ok (.aload_n 0, 1) := dk42 hX6_fittingSets_19
theorem hX6_fittingSets_20 : cX6_fittingSets.data.toList.drop 20 = sX6_fittingSets_20 := dn1 hX6_fittingSets_19
theorem dX6_fittingSets_20 : decode cX6_fittingSets 20 = .ok (.getfield 19, 3) := dk180 hX6_fittingSets_20 rfl
theorem hX6_fittingSets_23 : cX6_fittingSets.data.toList.drop 23 = sX6_fittingSets_23 := dn3 hX6_fittingSets_20
theorem dX6_fittingSets_23 : decode cX6_fittingSets 23 = .ok (.aload_n 0, 1) := dk42 hX6_fittingSets_23
theorem hX6_fittingSets_24 : cX6_fittingSets.data.toList.drop 24 = sX6_fittingSets_24 := dn1 hX6_fittingSets_23
theorem dX6_fittingSets_24 : decode cX6_fittingSets 24 = .ok (.getfield 19, 3) := dk180 hX6_fittingSets_24 rfl
theorem hX6_fittingSets_27 : cX6_fittingSets.data.toList.drop 27 = sX6_fittingSets_27 := dn3 hX6_fittingSets_24
theorem dX6_fittingSets_27 : decode cX6_fittingSets 27 = .ok (.getfield 302, 3) := dk180 hX6_fittingSets_27 rfl
theorem hX6_fittingSets_30 : cX6_fittingSets.data.toList.drop 30 = sX6_fittingSets_30 := dn3 hX6_fittingSets_27
theorem dX6_fittingSets_30 : decode cX6_fittingSets 30 = .ok (.iload_n 2, 1) := dk28 hX6_fittingSets_30
theorem hX6_fittingSets_31 : cX6_fittingSets.data.toList.drop 31 = sX6_fittingSets_31 := dn1 hX6_fittingSets_30
theorem dX6_fittingSets_31 : decode cX6_fittingSets 31 = .ok (.invokevirtual 305, 3) := dk182 hX6_fittingSets_31 rfl
theorem hX6_fittingSets_34 : cX6_fittingSets.data.toList.drop 34 = sX6_fittingSets_34 := dn3 hX6_fittingSets_31
theorem dX6_fittingSets_34 : decode cX6_fittingSets 34 = .ok (.istore_n 3, 1) := dk62 hX6_fittingSets_34
theorem hX6_fittingSets_35 : cX6_fittingSets.data.toList.drop 35 = sX6_fittingSets_35 := dn1 hX6_fittingSets_34
theorem dX6_fittingSets_35 : decode cX6_fittingSets 35 = .ok (.aload_n 0, 1) := dk42 hX6_fittingSets_35
theorem hX6_fittingSets_36 : cX6_fittingSets.data.toList.drop 36 = sX6_fittingSets_36 := dn1 hX6_fittingSets_35
theorem dX6_fittingSets_36 : decode cX6_fittingSets 36 = .ok (.getfield 19, 3) := dk180 hX6_fittingSets_36 rfl
theorem hX6_fittingSets_39 : cX6_fittingSets.data.toList.drop 39 = sX6_fittingSets_39 := dn3 hX6_fittingSets_36
theorem dX6_fittingSets_39 : decode cX6_fittingSets 39 = .ok (.getfield 309, 3) := dk180 hX6_fittingSets_39 rfl
theorem hX6_fittingSets_42 : cX6_fittingSets.data.toList.drop 42 = sX6_fittingSets_42 := dn3 hX6_fittingSets_39
theorem dX6_fittingSets_42 : decode cX6_fittingSets 42 = .ok (.ifCond .lt 24, 3) := dk155 hX6_fittingSets_42 (by decide)
theorem hX6_fittingSets_45 : cX6_fittingSets.data.toList.drop 45 = sX6_fittingSets_45 := dn3 hX6_fittingSets_42
theorem dX6_fittingSets_45 : decode cX6_fittingSets 45 = .ok (.iload_n 3, 1) := dk29 hX6_fittingSets_45
theorem hX6_fittingSets_46 : cX6_fittingSets.data.toList.drop 46 = sX6_fittingSets_46 := dn1 hX6_fittingSets_45
theorem dX6_fittingSets_46 : decode cX6_fittingSets 46 = .ok (.aload_n 0, 1) := dk42 hX6_fittingSets_46
theorem hX6_fittingSets_47 : cX6_fittingSets.data.toList.drop 47 = sX6_fittingSets_47 := dn1 hX6_fittingSets_46
theorem dX6_fittingSets_47 : decode cX6_fittingSets 47 = .ok (.getfield 19, 3) := dk180 hX6_fittingSets_47 rfl
theorem hX6_fittingSets_50 : cX6_fittingSets.data.toList.drop 50 = sX6_fittingSets_50 := dn3 hX6_fittingSets_47
theorem dX6_fittingSets_50 : decode cX6_fittingSets 50 = .ok (.getfield 159, 3) := dk180 hX6_fittingSets_50 rfl
theorem hX6_fittingSets_53 : cX6_fittingSets.data.toList.drop 53 = sX6_fittingSets_53 := dn3 hX6_fittingSets_50
theorem dX6_fittingSets_53 : decode cX6_fittingSets 53 = .ok (.invokestatic 312, 3) := dk184 hX6_fittingSets_53 rfl
theorem hX6_fittingSets_56 : cX6_fittingSets.data.toList.drop 56 = sX6_fittingSets_56 := dn3 hX6_fittingSets_53
theorem dX6_fittingSets_56 : decode cX6_fittingSets 56 = .ok (.aload_n 0, 1) := dk42 hX6_fittingSets_56
theorem hX6_fittingSets_57 : cX6_fittingSets.data.toList.drop 57 = sX6_fittingSets_57 := dn1 hX6_fittingSets_56
theorem dX6_fittingSets_57 : decode cX6_fittingSets 57 = .ok (.getfield 19, 3) := dk180 hX6_fittingSets_57 rfl
theorem hX6_fittingSets_60 : cX6_fittingSets.data.toList.drop 60 = sX6_fittingSets_60 := dn3 hX6_fittingSets_57
theorem dX6_fittingSets_60 : decode cX6_fittingSets 60 = .ok (.getfield 309, 3) := dk180 hX6_fittingSets_60 rfl
theorem hX6_fittingSets_63 : cX6_fittingSets.data.toList.drop 63 = sX6_fittingSets_63 := dn3 hX6_fittingSets_60
theorem dX6_fittingSets_63 : decode cX6_fittingSets 63 = .ok (.if_icmp .ne 9, 3) := dk160 hX6_fittingSets_63 (by decide)
theorem hX6_fittingSets_66 : cX6_fittingSets.data.toList.drop 66 = sX6_fittingSets_66 := dn3 hX6_fittingSets_63
theorem dX6_fittingSets_66 : decode cX6_fittingSets 66 = .ok (.iload_n 1, 1) := dk27 hX6_fittingSets_66
theorem hX6_fittingSets_67 : cX6_fittingSets.data.toList.drop 67 = sX6_fittingSets_67 := dn1 hX6_fittingSets_66
theorem dX6_fittingSets_67 : decode cX6_fittingSets 67 = .ok (.iconst 1, 1) := dk4 hX6_fittingSets_67
theorem hX6_fittingSets_68 : cX6_fittingSets.data.toList.drop 68 = sX6_fittingSets_68 := dn1 hX6_fittingSets_67
theorem dX6_fittingSets_68 : decode cX6_fittingSets 68 = .ok (.iload_n 2, 1) := dk28 hX6_fittingSets_68
theorem hX6_fittingSets_69 : cX6_fittingSets.data.toList.drop 69 = sX6_fittingSets_69 := dn1 hX6_fittingSets_68
theorem dX6_fittingSets_69 : decode cX6_fittingSets 69 = .ok (.ishl, 1) := dk120 hX6_fittingSets_69
theorem hX6_fittingSets_70 : cX6_fittingSets.data.toList.drop 70 = sX6_fittingSets_70 := dn1 hX6_fittingSets_69
theorem dX6_fittingSets_70 : decode cX6_fittingSets 70 = .ok (.ior, 1) := dk128 hX6_fittingSets_70
theorem hX6_fittingSets_71 : cX6_fittingSets.data.toList.drop 71 = sX6_fittingSets_71 := dn1 hX6_fittingSets_70
theorem dX6_fittingSets_71 : decode cX6_fittingSets 71 = .ok (.istore_n 1, 1) := dk60 hX6_fittingSets_71
theorem hX6_fittingSets_72 : cX6_fittingSets.data.toList.drop 72 = sX6_fittingSets_72 := dn1 hX6_fittingSets_71
theorem dX6_fittingSets_72 : decode cX6_fittingSets 72 = .ok (.iinc 2 1, 3) := dk132 hX6_fittingSets_72 rfl (by decide)
theorem hX6_fittingSets_75 : cX6_fittingSets.data.toList.drop 75 = sX6_fittingSets_75 := dn3 hX6_fittingSets_72
theorem dX6_fittingSets_75 : decode cX6_fittingSets 75 = .ok (.goto (-71), 3) := dk167 hX6_fittingSets_75 (by decide)
theorem hX6_fittingSets_78 : cX6_fittingSets.data.toList.drop 78 = sX6_fittingSets_78 := dn3 hX6_fittingSets_75
theorem dX6_fittingSets_78 : decode cX6_fittingSets 78 = .ok (.iload_n 1, 1) := dk27 hX6_fittingSets_78
theorem hX6_fittingSets_79 : cX6_fittingSets.data.toList.drop 79 = sX6_fittingSets_79 := dn1 hX6_fittingSets_78
theorem dX6_fittingSets_79 : decode cX6_fittingSets 79 = .ok (.ireturn, 1) := dk172 hX6_fittingSets_79
noncomputable def sX6_front_53 : List UInt8 := 172 :: []
noncomputable def sX6_front_50 : List UInt8 := 182 :: 0 :: 129 :: sX6_front_53
noncomputable def sX6_front_49 : List UInt8 := 3 :: sX6_front_50
noncomputable def sX6_front_48 : List UInt8 := 27 :: sX6_front_49
noncomputable def sX6_front_45 : List UInt8 := 180 :: 0 :: 19 :: sX6_front_48
noncomputable def sX6_front_44 : List UInt8 := 42 :: sX6_front_45
noncomputable def sX6_front_41 : List UInt8 := 180 :: 0 :: 26 :: sX6_front_44
noncomputable def sX6_front_40 : List UInt8 := 42 :: sX6_front_41
noncomputable def sX6_front_37 : List UInt8 := 182 :: 0 :: 245 :: sX6_front_40
noncomputable def sX6_front_36 : List UInt8 := 28 :: sX6_front_37
noncomputable def sX6_front_35 : List UInt8 := 27 :: sX6_front_36
noncomputable def sX6_front_32 : List UInt8 := 180 :: 0 :: 26 :: sX6_front_35
noncomputable def sX6_front_31 : List UInt8 := 42 :: sX6_front_32
noncomputable def sX6_front_28 : List UInt8 := 182 :: 1 :: 90 :: sX6_front_31
noncomputable def sX6_front_27 : List UInt8 := 3 :: sX6_front_28
noncomputable def sX6_front_26 : List UInt8 := 28 :: sX6_front_27
noncomputable def sX6_front_25 : List UInt8 := 27 :: sX6_front_26
noncomputable def sX6_front_22 : List UInt8 := 180 :: 0 :: 40 :: sX6_front_25
noncomputable def sX6_front_21 : List UInt8 := 42 :: sX6_front_22
noncomputable def sX6_front_20 : List UInt8 := 172 :: sX6_front_21
noncomputable def sX6_front_17 : List UInt8 := 182 :: 0 :: 66 :: sX6_front_20
noncomputable def sX6_front_16 : List UInt8 := 8 :: sX6_front_17
noncomputable def sX6_front_15 : List UInt8 := 42 :: sX6_front_16
noncomputable def sX6_front_12 : List UInt8 := 154 :: 0 :: 9 :: sX6_front_15
noncomputable def sX6_front_11 : List UInt8 := 28 :: sX6_front_12
noncomputable def sX6_front_10 : List UInt8 := 172 :: sX6_front_11
noncomputable def sX6_front_9 : List UInt8 := 2 :: sX6_front_10
noncomputable def sX6_front_6 : List UInt8 := 153 :: 0 :: 5 :: sX6_front_9
noncomputable def sX6_front_3 : List UInt8 := 182 :: 0 :: 125 :: sX6_front_6
noncomputable def sX6_front_2 : List UInt8 := 28 :: sX6_front_3
noncomputable def sX6_front_1 : List UInt8 := 27 :: sX6_front_2
noncomputable def sX6_front_0 : List UInt8 := 42 :: sX6_front_1
set_option maxRecDepth 100000 in
theorem hX6_front_0 : cX6_front.data.toList.drop 0 = sX6_front_0 := by decide +kernel
theorem dX6_front_0 : decode cX6_front 0 = .ok (.aload_n 0, 1) := dk42 hX6_front_0
theorem hX6_front_1 : cX6_front.data.toList.drop 1 = sX6_front_1 := dn1 hX6_front_0
theorem dX6_front_1 : decode cX6_front 1 = .ok (.iload_n 1, 1) := dk27 hX6_front_1
theorem hX6_front_2 : cX6_front.data.toList.drop 2 = sX6_front_2 := dn1 hX6_front_1
theorem dX6_front_2 : decode cX6_front 2 = .ok (.iload_n 2, 1) := dk28 hX6_front_2
theorem hX6_front_3 : cX6_front.data.toList.drop 3 = sX6_front_3 := dn1 hX6_front_2
theorem dX6_front_3 : decode cX6_front 3 = .ok (.invokevirtual 125, 3) := dk182 hX6_front_3 rfl
theorem hX6_front_6 : cX6_front.data.toList.drop 6 = sX6_front_6 := dn3 hX6_front_3
theorem dX6_front_6 : decode cX6_front 6 = .ok (.ifCond .eq 5, 3) := dk153 hX6_front_6 (by decide)
theorem hX6_front_9 : cX6_front.data.toList.drop 9 = sX6_front_9 := dn3 hX6_front_6
theorem dX6_front_9 : decode cX6_front 9 = .ok (.iconst (-1), 1) := dk2 hX6_front_9
theorem hX6_front_10 : cX6_front.data.toList.drop 10 = sX6_front_10 := dn1 hX6_front_9
theorem dX6_front_10 : decode cX6_front 10 = .ok (.ireturn, 1) := dk172 hX6_front_10
theorem hX6_front_11 : cX6_front.data.toList.drop 11 = sX6_front_11 := dn1 hX6_front_10
theorem dX6_front_11 : decode cX6_front 11 = .ok (.iload_n 2, 1) := dk28 hX6_front_11
theorem hX6_front_12 : cX6_front.data.toList.drop 12 = sX6_front_12 := dn1 hX6_front_11
theorem dX6_front_12 : decode cX6_front 12 = .ok (.ifCond .ne 9, 3) := dk154 hX6_front_12 (by decide)
theorem hX6_front_15 : cX6_front.data.toList.drop 15 = sX6_front_15 := dn3 hX6_front_12
theorem dX6_front_15 : decode cX6_front 15 = .ok (.aload_n 0, 1) := dk42 hX6_front_15
theorem hX6_front_16 : cX6_front.data.toList.drop 16 = sX6_front_16 := dn1 hX6_front_15
theorem dX6_front_16 : decode cX6_front 16 = .ok (.iconst 5, 1) := dk8 hX6_front_16
theorem hX6_front_17 : cX6_front.data.toList.drop 17 = sX6_front_17 := dn1 hX6_front_16
theorem dX6_front_17 : decode cX6_front 17 = .ok (.invokevirtual 66, 3) := dk182 hX6_front_17 rfl
theorem hX6_front_20 : cX6_front.data.toList.drop 20 = sX6_front_20 := dn3 hX6_front_17
theorem dX6_front_20 : decode cX6_front 20 = .ok (.ireturn, 1) := dk172 hX6_front_20
theorem hX6_front_21 : cX6_front.data.toList.drop 21 = sX6_front_21 := dn1 hX6_front_20
theorem dX6_front_21 : decode cX6_front 21 = .ok (.aload_n 0, 1) := dk42 hX6_front_21
theorem hX6_front_22 : cX6_front.data.toList.drop 22 = sX6_front_22 := dn1 hX6_front_21
theorem dX6_front_22 : decode cX6_front 22 = .ok (.getfield 40, 3) := dk180 hX6_front_22 rfl
theorem hX6_front_25 : cX6_front.data.toList.drop 25 = sX6_front_25 := dn3 hX6_front_22
theorem dX6_front_25 : decode cX6_front 25 = .ok (.iload_n 1, 1) := dk27 hX6_front_25
theorem hX6_front_26 : cX6_front.data.toList.drop 26 = sX6_front_26 := dn1 hX6_front_25
theorem dX6_front_26 : decode cX6_front 26 = .ok (.iload_n 2, 1) := dk28 hX6_front_26
theorem hX6_front_27 : cX6_front.data.toList.drop 27 = sX6_front_27 := dn1 hX6_front_26
theorem dX6_front_27 : decode cX6_front 27 = .ok (.iconst 0, 1) := dk3 hX6_front_27
theorem hX6_front_28 : cX6_front.data.toList.drop 28 = sX6_front_28 := dn1 hX6_front_27
theorem dX6_front_28 : decode cX6_front 28 = .ok (.invokevirtual 346, 3) := dk182 hX6_front_28 rfl
theorem hX6_front_31 : cX6_front.data.toList.drop 31 = sX6_front_31 := dn3 hX6_front_28
theorem dX6_front_31 : decode cX6_front 31 = .ok (.aload_n 0, 1) := dk42 hX6_front_31
theorem hX6_front_32 : cX6_front.data.toList.drop 32 = sX6_front_32 := dn1 hX6_front_31
theorem dX6_front_32 : decode cX6_front 32 = .ok (.getfield 26, 3) := dk180 hX6_front_32 rfl
theorem hX6_front_35 : cX6_front.data.toList.drop 35 = sX6_front_35 := dn3 hX6_front_32
theorem dX6_front_35 : decode cX6_front 35 = .ok (.iload_n 1, 1) := dk27 hX6_front_35
theorem hX6_front_36 : cX6_front.data.toList.drop 36 = sX6_front_36 := dn1 hX6_front_35
theorem dX6_front_36 : decode cX6_front 36 = .ok (.iload_n 2, 1) := dk28 hX6_front_36
theorem hX6_front_37 : cX6_front.data.toList.drop 37 = sX6_front_37 := dn1 hX6_front_36
theorem dX6_front_37 : decode cX6_front 37 = .ok (.invokevirtual 245, 3) := dk182 hX6_front_37 rfl
theorem hX6_front_40 : cX6_front.data.toList.drop 40 = sX6_front_40 := dn3 hX6_front_37
theorem dX6_front_40 : decode cX6_front 40 = .ok (.aload_n 0, 1) := dk42 hX6_front_40
theorem hX6_front_41 : cX6_front.data.toList.drop 41 = sX6_front_41 := dn1 hX6_front_40
theorem dX6_front_41 : decode cX6_front 41 = .ok (.getfield 26, 3) := dk180 hX6_front_41 rfl
theorem hX6_front_44 : cX6_front.data.toList.drop 44 = sX6_front_44 := dn3 hX6_front_41
theorem dX6_front_44 : decode cX6_front 44 = .ok (.aload_n 0, 1) := dk42 hX6_front_44
theorem hX6_front_45 : cX6_front.data.toList.drop 45 = sX6_front_45 := dn1 hX6_front_44
theorem dX6_front_45 : decode cX6_front 45 = .ok (.getfield 19, 3) := dk180 hX6_front_45 rfl
theorem hX6_front_48 : cX6_front.data.toList.drop 48 = sX6_front_48 := dn3 hX6_front_45
theorem dX6_front_48 : decode cX6_front 48 = .ok (.iload_n 1, 1) := dk27 hX6_front_48
theorem hX6_front_49 : cX6_front.data.toList.drop 49 = sX6_front_49 := dn1 hX6_front_48
theorem dX6_front_49 : decode cX6_front 49 = .ok (.iconst 0, 1) := dk3 hX6_front_49
theorem hX6_front_50 : cX6_front.data.toList.drop 50 = sX6_front_50 := dn1 hX6_front_49
theorem dX6_front_50 : decode cX6_front 50 = .ok (.invokevirtual 129, 3) := dk182 hX6_front_50 rfl
theorem hX6_front_53 : cX6_front.data.toList.drop 53 = sX6_front_53 := dn3 hX6_front_50
theorem dX6_front_53 : decode cX6_front 53 = .ok (.ireturn, 1) := dk172 hX6_front_53
noncomputable def sX6_greatestCommon_47 : List UInt8 := 173 :: []
noncomputable def sX6_greatestCommon_45 : List UInt8 := 22 :: 4 :: sX6_greatestCommon_47
noncomputable def sX6_greatestCommon_42 : List UInt8 := 167 :: 255 :: 223 :: sX6_greatestCommon_45
noncomputable def sX6_greatestCommon_39 : List UInt8 := 132 :: 8 :: 1 :: sX6_greatestCommon_42
noncomputable def sX6_greatestCommon_37 : List UInt8 := 55 :: 6 :: sX6_greatestCommon_39
noncomputable def sX6_greatestCommon_35 : List UInt8 := 22 :: 9 :: sX6_greatestCommon_37
noncomputable def sX6_greatestCommon_33 : List UInt8 := 55 :: 4 :: sX6_greatestCommon_35
noncomputable def sX6_greatestCommon_31 : List UInt8 := 22 :: 6 :: sX6_greatestCommon_33
noncomputable def sX6_greatestCommon_29 : List UInt8 := 55 :: 9 :: sX6_greatestCommon_31
noncomputable def sX6_greatestCommon_28 : List UInt8 := 113 :: sX6_greatestCommon_29
noncomputable def sX6_greatestCommon_26 : List UInt8 := 22 :: 6 :: sX6_greatestCommon_28
noncomputable def sX6_greatestCommon_24 : List UInt8 := 22 :: 4 :: sX6_greatestCommon_26
noncomputable def sX6_greatestCommon_21 : List UInt8 := 153 :: 0 :: 24 :: sX6_greatestCommon_24
noncomputable def sX6_greatestCommon_20 : List UInt8 := 148 :: sX6_greatestCommon_21
noncomputable def sX6_greatestCommon_19 : List UInt8 := 9 :: sX6_greatestCommon_20
noncomputable def sX6_greatestCommon_17 : List UInt8 := 22 :: 6 :: sX6_greatestCommon_19
noncomputable def sX6_greatestCommon_14 : List UInt8 := 162 :: 0 :: 31 :: sX6_greatestCommon_17
noncomputable def sX6_greatestCommon_11 : List UInt8 := 17 :: 3 :: 232 :: sX6_greatestCommon_14
noncomputable def sX6_greatestCommon_9 : List UInt8 := 21 :: 8 :: sX6_greatestCommon_11
noncomputable def sX6_greatestCommon_7 : List UInt8 := 54 :: 8 :: sX6_greatestCommon_9
noncomputable def sX6_greatestCommon_6 : List UInt8 := 3 :: sX6_greatestCommon_7
noncomputable def sX6_greatestCommon_4 : List UInt8 := 55 :: 6 :: sX6_greatestCommon_6
noncomputable def sX6_greatestCommon_3 : List UInt8 := 32 :: sX6_greatestCommon_4
noncomputable def sX6_greatestCommon_1 : List UInt8 := 55 :: 4 :: sX6_greatestCommon_3
noncomputable def sX6_greatestCommon_0 : List UInt8 := 30 :: sX6_greatestCommon_1
set_option maxRecDepth 100000 in
theorem hX6_greatestCommon_0 : cX6_greatestCommon.data.toList.drop 0 = sX6_greatestCommon_0 := by decide +kernel
theorem dX6_greatestCommon_0 : decode cX6_greatestCommon 0 = .ok (.lload_n 0, 1) := dk30 hX6_greatestCommon_0
theorem hX6_greatestCommon_1 : cX6_greatestCommon.data.toList.drop 1 = sX6_greatestCommon_1 := dn1 hX6_greatestCommon_0
theorem dX6_greatestCommon_1 : decode cX6_greatestCommon 1 = .ok (.lstore 4, 2) := dk55 hX6_greatestCommon_1 rfl
theorem hX6_greatestCommon_3 : cX6_greatestCommon.data.toList.drop 3 = sX6_greatestCommon_3 := dn2 hX6_greatestCommon_1
theorem dX6_greatestCommon_3 : decode cX6_greatestCommon 3 = .ok (.lload_n 2, 1) := dk32 hX6_greatestCommon_3
theorem hX6_greatestCommon_4 : cX6_greatestCommon.data.toList.drop 4 = sX6_greatestCommon_4 := dn1 hX6_greatestCommon_3
theorem dX6_greatestCommon_4 : decode cX6_greatestCommon 4 = .ok (.lstore 6, 2) := dk55 hX6_greatestCommon_4 rfl
theorem hX6_greatestCommon_6 : cX6_greatestCommon.data.toList.drop 6 = sX6_greatestCommon_6 := dn2 hX6_greatestCommon_4
theorem dX6_greatestCommon_6 : decode cX6_greatestCommon 6 = .ok (.iconst 0, 1) := dk3 hX6_greatestCommon_6
theorem hX6_greatestCommon_7 : cX6_greatestCommon.data.toList.drop 7 = sX6_greatestCommon_7 := dn1 hX6_greatestCommon_6
theorem dX6_greatestCommon_7 : decode cX6_greatestCommon 7 = .ok (.istore 8, 2) := dk54 hX6_greatestCommon_7 rfl
theorem hX6_greatestCommon_9 : cX6_greatestCommon.data.toList.drop 9 = sX6_greatestCommon_9 := dn2 hX6_greatestCommon_7
theorem dX6_greatestCommon_9 : decode cX6_greatestCommon 9 = .ok (.iload 8, 2) := dk21 hX6_greatestCommon_9 rfl
theorem hX6_greatestCommon_11 : cX6_greatestCommon.data.toList.drop 11 = sX6_greatestCommon_11 := dn2 hX6_greatestCommon_9
theorem dX6_greatestCommon_11 : decode cX6_greatestCommon 11 = .ok (.sipush 1000, 3) := dk17 hX6_greatestCommon_11 (by decide)
theorem hX6_greatestCommon_14 : cX6_greatestCommon.data.toList.drop 14 = sX6_greatestCommon_14 := dn3 hX6_greatestCommon_11
theorem dX6_greatestCommon_14 : decode cX6_greatestCommon 14 = .ok (.if_icmp .ge 31, 3) := dk162 hX6_greatestCommon_14 (by decide)
theorem hX6_greatestCommon_17 : cX6_greatestCommon.data.toList.drop 17 = sX6_greatestCommon_17 := dn3 hX6_greatestCommon_14
theorem dX6_greatestCommon_17 : decode cX6_greatestCommon 17 = .ok (.lload 6, 2) := dk22 hX6_greatestCommon_17 rfl
theorem hX6_greatestCommon_19 : cX6_greatestCommon.data.toList.drop 19 = sX6_greatestCommon_19 := dn2 hX6_greatestCommon_17
theorem dX6_greatestCommon_19 : decode cX6_greatestCommon 19 = .ok (.lconst 0, 1) := dk9 hX6_greatestCommon_19
theorem hX6_greatestCommon_20 : cX6_greatestCommon.data.toList.drop 20 = sX6_greatestCommon_20 := dn1 hX6_greatestCommon_19
theorem dX6_greatestCommon_20 : decode cX6_greatestCommon 20 = .ok (.lcmp, 1) := dk148 hX6_greatestCommon_20
theorem hX6_greatestCommon_21 : cX6_greatestCommon.data.toList.drop 21 = sX6_greatestCommon_21 := dn1 hX6_greatestCommon_20
theorem dX6_greatestCommon_21 : decode cX6_greatestCommon 21 = .ok (.ifCond .eq 24, 3) := dk153 hX6_greatestCommon_21 (by decide)
theorem hX6_greatestCommon_24 : cX6_greatestCommon.data.toList.drop 24 = sX6_greatestCommon_24 := dn3 hX6_greatestCommon_21
theorem dX6_greatestCommon_24 : decode cX6_greatestCommon 24 = .ok (.lload 4, 2) := dk22 hX6_greatestCommon_24 rfl
theorem hX6_greatestCommon_26 : cX6_greatestCommon.data.toList.drop 26 = sX6_greatestCommon_26 := dn2 hX6_greatestCommon_24
theorem dX6_greatestCommon_26 : decode cX6_greatestCommon 26 = .ok (.lload 6, 2) := dk22 hX6_greatestCommon_26 rfl
theorem hX6_greatestCommon_28 : cX6_greatestCommon.data.toList.drop 28 = sX6_greatestCommon_28 := dn2 hX6_greatestCommon_26
theorem dX6_greatestCommon_28 : decode cX6_greatestCommon 28 = .ok (.lrem, 1) := dk113 hX6_greatestCommon_28
theorem hX6_greatestCommon_29 : cX6_greatestCommon.data.toList.drop 29 = sX6_greatestCommon_29 := dn1 hX6_greatestCommon_28
theorem dX6_greatestCommon_29 : decode cX6_greatestCommon 29 = .ok (.lstore 9, 2) := dk55 hX6_greatestCommon_29 rfl
theorem hX6_greatestCommon_31 : cX6_greatestCommon.data.toList.drop 31 = sX6_greatestCommon_31 := dn2 hX6_greatestCommon_29
theorem dX6_greatestCommon_31 : decode cX6_greatestCommon 31 = .ok (.lload 6, 2) := dk22 hX6_greatestCommon_31 rfl
theorem hX6_greatestCommon_33 : cX6_greatestCommon.data.toList.drop 33 = sX6_greatestCommon_33 := dn2 hX6_greatestCommon_31
theorem dX6_greatestCommon_33 : decode cX6_greatestCommon 33 = .ok (.lstore 4, 2) := dk55 hX6_greatestCommon_33 rfl
theorem hX6_greatestCommon_35 : cX6_greatestCommon.data.toList.drop 35 = sX6_greatestCommon_35 := dn2 hX6_greatestCommon_33
theorem dX6_greatestCommon_35 : decode cX6_greatestCommon 35 = .ok (.lload 9, 2) := dk22 hX6_greatestCommon_35 rfl
theorem hX6_greatestCommon_37 : cX6_greatestCommon.data.toList.drop 37 = sX6_greatestCommon_37 := dn2 hX6_greatestCommon_35
theorem dX6_greatestCommon_37 : decode cX6_greatestCommon 37 = .ok (.lstore 6, 2) := dk55 hX6_greatestCommon_37 rfl
theorem hX6_greatestCommon_39 : cX6_greatestCommon.data.toList.drop 39 = sX6_greatestCommon_39 := dn2 hX6_greatestCommon_37
theorem dX6_greatestCommon_39 : decode cX6_greatestCommon 39 = .ok (.iinc 8 1, 3) := dk132 hX6_greatestCommon_39 rfl (by decide)
theorem hX6_greatestCommon_42 : cX6_greatestCommon.data.toList.drop 42 = sX6_greatestCommon_42 := dn3 hX6_greatestCommon_39
theorem dX6_greatestCommon_42 : decode cX6_greatestCommon 42 = .ok (.goto (-33), 3) := dk167 hX6_greatestCommon_42 (by decide)
theorem hX6_greatestCommon_45 : cX6_greatestCommon.data.toList.drop 45 = sX6_greatestCommon_45 := dn3 hX6_greatestCommon_42
theorem dX6_greatestCommon_45 : decode cX6_greatestCommon 45 = .ok (.lload 4, 2) := dk22 hX6_greatestCommon_45 rfl
theorem hX6_greatestCommon_47 : cX6_greatestCommon.data.toList.drop 47 = sX6_greatestCommon_47 := dn2 hX6_greatestCommon_45
theorem dX6_greatestCommon_47 : decode cX6_greatestCommon 47 = .ok (.lreturn, 1) := dk173 hX6_greatestCommon_47
noncomputable def sX6_halves_31 : List UInt8 := 172 :: []
noncomputable def sX6_halves_28 : List UInt8 := 180 :: 0 :: 215 :: sX6_halves_31
noncomputable def sX6_halves_25 : List UInt8 := 180 :: 0 :: 47 :: sX6_halves_28
noncomputable def sX6_halves_24 : List UInt8 := 42 :: sX6_halves_25
noncomputable def sX6_halves_21 : List UInt8 := 182 :: 0 :: 211 :: sX6_halves_24
noncomputable def sX6_halves_18 : List UInt8 := 180 :: 0 :: 26 :: sX6_halves_21
noncomputable def sX6_halves_17 : List UInt8 := 42 :: sX6_halves_18
noncomputable def sX6_halves_14 : List UInt8 := 180 :: 0 :: 19 :: sX6_halves_17
noncomputable def sX6_halves_13 : List UInt8 := 42 :: sX6_halves_14
noncomputable def sX6_halves_10 : List UInt8 := 180 :: 0 :: 47 :: sX6_halves_13
noncomputable def sX6_halves_9 : List UInt8 := 42 :: sX6_halves_10
noncomputable def sX6_halves_8 : List UInt8 := 172 :: sX6_halves_9
noncomputable def sX6_halves_7 : List UInt8 := 2 :: sX6_halves_8
noncomputable def sX6_halves_4 : List UInt8 := 153 :: 0 :: 5 :: sX6_halves_7
noncomputable def sX6_halves_1 : List UInt8 := 182 :: 0 :: 140 :: sX6_halves_4
noncomputable def sX6_halves_0 : List UInt8 := 42 :: sX6_halves_1
set_option maxRecDepth 100000 in
theorem hX6_halves_0 : cX6_halves.data.toList.drop 0 = sX6_halves_0 := by decide +kernel
theorem dX6_halves_0 : decode cX6_halves 0 = .ok (.aload_n 0, 1) := dk42 hX6_halves_0
theorem hX6_halves_1 : cX6_halves.data.toList.drop 1 = sX6_halves_1 := dn1 hX6_halves_0
theorem dX6_halves_1 : decode cX6_halves 1 = .ok (.invokevirtual 140, 3) := dk182 hX6_halves_1 rfl
theorem hX6_halves_4 : cX6_halves.data.toList.drop 4 = sX6_halves_4 := dn3 hX6_halves_1
theorem dX6_halves_4 : decode cX6_halves 4 = .ok (.ifCond .eq 5, 3) := dk153 hX6_halves_4 (by decide)
theorem hX6_halves_7 : cX6_halves.data.toList.drop 7 = sX6_halves_7 := dn3 hX6_halves_4
theorem dX6_halves_7 : decode cX6_halves 7 = .ok (.iconst (-1), 1) := dk2 hX6_halves_7
theorem hX6_halves_8 : cX6_halves.data.toList.drop 8 = sX6_halves_8 := dn1 hX6_halves_7
theorem dX6_halves_8 : decode cX6_halves 8 = .ok (.ireturn, 1) := dk172 hX6_halves_8
theorem hX6_halves_9 : cX6_halves.data.toList.drop 9 = sX6_halves_9 := dn1 hX6_halves_8
theorem dX6_halves_9 : decode cX6_halves 9 = .ok (.aload_n 0, 1) := dk42 hX6_halves_9
theorem hX6_halves_10 : cX6_halves.data.toList.drop 10 = sX6_halves_10 := dn1 hX6_halves_9
theorem dX6_halves_10 : decode cX6_halves 10 = .ok (.getfield 47, 3) := dk180 hX6_halves_10 rfl
theorem hX6_halves_13 : cX6_halves.data.toList.drop 13 = sX6_halves_13 := dn3 hX6_halves_10
theorem dX6_halves_13 : decode cX6_halves 13 = .ok (.aload_n 0, 1) := dk42 hX6_halves_13
theorem hX6_halves_14 : cX6_halves.data.toList.drop 14 = sX6_halves_14 := dn1 hX6_halves_13
theorem dX6_halves_14 : decode cX6_halves 14 = .ok (.getfield 19, 3) := dk180 hX6_halves_14 rfl
theorem hX6_halves_17 : cX6_halves.data.toList.drop 17 = sX6_halves_17 := dn3 hX6_halves_14
theorem dX6_halves_17 : decode cX6_halves 17 = .ok (.aload_n 0, 1) := dk42 hX6_halves_17
theorem hX6_halves_18 : cX6_halves.data.toList.drop 18 = sX6_halves_18 := dn1 hX6_halves_17
theorem dX6_halves_18 : decode cX6_halves 18 = .ok (.getfield 26, 3) := dk180 hX6_halves_18 rfl
theorem hX6_halves_21 : cX6_halves.data.toList.drop 21 = sX6_halves_21 := dn3 hX6_halves_18
theorem dX6_halves_21 : decode cX6_halves 21 = .ok (.invokevirtual 211, 3) := dk182 hX6_halves_21 rfl
theorem hX6_halves_24 : cX6_halves.data.toList.drop 24 = sX6_halves_24 := dn3 hX6_halves_21
theorem dX6_halves_24 : decode cX6_halves 24 = .ok (.aload_n 0, 1) := dk42 hX6_halves_24
theorem hX6_halves_25 : cX6_halves.data.toList.drop 25 = sX6_halves_25 := dn1 hX6_halves_24
theorem dX6_halves_25 : decode cX6_halves 25 = .ok (.getfield 47, 3) := dk180 hX6_halves_25 rfl
theorem hX6_halves_28 : cX6_halves.data.toList.drop 28 = sX6_halves_28 := dn3 hX6_halves_25
theorem dX6_halves_28 : decode cX6_halves 28 = .ok (.getfield 215, 3) := dk180 hX6_halves_28 rfl
theorem hX6_halves_31 : cX6_halves.data.toList.drop 31 = sX6_halves_31 := dn3 hX6_halves_28
theorem dX6_halves_31 : decode cX6_halves 31 = .ok (.ireturn, 1) := dk172 hX6_halves_31
noncomputable def sX6_handed_43 : List UInt8 := 173 :: []
noncomputable def sX6_handed_40 : List UInt8 := 184 :: 0 :: 162 :: sX6_handed_43
noncomputable def sX6_handed_39 : List UInt8 := 29 :: sX6_handed_40
noncomputable def sX6_handed_38 : List UInt8 := 133 :: sX6_handed_39
noncomputable def sX6_handed_35 : List UInt8 := 180 :: 0 :: 159 :: sX6_handed_38
noncomputable def sX6_handed_32 : List UInt8 := 180 :: 0 :: 19 :: sX6_handed_35
noncomputable def sX6_handed_31 : List UInt8 := 42 :: sX6_handed_32
noncomputable def sX6_handed_30 : List UInt8 := 133 :: sX6_handed_31
noncomputable def sX6_handed_27 : List UInt8 := 182 :: 0 :: 196 :: sX6_handed_30
noncomputable def sX6_handed_26 : List UInt8 := 28 :: sX6_handed_27
noncomputable def sX6_handed_25 : List UInt8 := 27 :: sX6_handed_26
noncomputable def sX6_handed_22 : List UInt8 := 180 :: 0 :: 26 :: sX6_handed_25
noncomputable def sX6_handed_21 : List UInt8 := 42 :: sX6_handed_22
noncomputable def sX6_handed_18 : List UInt8 := 180 :: 0 :: 19 :: sX6_handed_21
noncomputable def sX6_handed_17 : List UInt8 := 42 :: sX6_handed_18
noncomputable def sX6_handed_14 : List UInt8 := 180 :: 0 :: 47 :: sX6_handed_17
noncomputable def sX6_handed_13 : List UInt8 := 42 :: sX6_handed_14
noncomputable def sX6_handed_12 : List UInt8 := 173 :: sX6_handed_13
noncomputable def sX6_handed_9 : List UInt8 := 20 :: 0 :: 147 :: sX6_handed_12
noncomputable def sX6_handed_6 : List UInt8 := 153 :: 0 :: 7 :: sX6_handed_9
noncomputable def sX6_handed_3 : List UInt8 := 182 :: 0 :: 193 :: sX6_handed_6
noncomputable def sX6_handed_2 : List UInt8 := 28 :: sX6_handed_3
noncomputable def sX6_handed_1 : List UInt8 := 27 :: sX6_handed_2
noncomputable def sX6_handed_0 : List UInt8 := 42 :: sX6_handed_1
set_option maxRecDepth 100000 in
theorem hX6_handed_0 : cX6_handed.data.toList.drop 0 = sX6_handed_0 := by decide +kernel
theorem dX6_handed_0 : decode cX6_handed 0 = .ok (.aload_n 0, 1) := dk42 hX6_handed_0
theorem hX6_handed_1 : cX6_handed.data.toList.drop 1 = sX6_handed_1 := dn1 hX6_handed_0
theorem dX6_handed_1 : decode cX6_handed 1 = .ok (.iload_n 1, 1) := dk27 hX6_handed_1
theorem hX6_handed_2 : cX6_handed.data.toList.drop 2 = sX6_handed_2 := dn1 hX6_handed_1
theorem dX6_handed_2 : decode cX6_handed 2 = .ok (.iload_n 2, 1) := dk28 hX6_handed_2
theorem hX6_handed_3 : cX6_handed.data.toList.drop 3 = sX6_handed_3 := dn1 hX6_handed_2
theorem dX6_handed_3 : decode cX6_handed 3 = .ok (.invokevirtual 193, 3) := dk182 hX6_handed_3 rfl
theorem hX6_handed_6 : cX6_handed.data.toList.drop 6 = sX6_handed_6 := dn3 hX6_handed_3
theorem dX6_handed_6 : decode cX6_handed 6 = .ok (.ifCond .eq 7, 3) := dk153 hX6_handed_6 (by decide)
theorem hX6_handed_9 : cX6_handed.data.toList.drop 9 = sX6_handed_9 := dn3 hX6_handed_6
theorem dX6_handed_9 : decode cX6_handed 9 = .ok (.ldc2_w 147, 3) := dk20 hX6_handed_9 rfl
theorem hX6_handed_12 : cX6_handed.data.toList.drop 12 = sX6_handed_12 := dn3 hX6_handed_9
theorem dX6_handed_12 : decode cX6_handed 12 = .ok (.lreturn, 1) := dk173 hX6_handed_12
theorem hX6_handed_13 : cX6_handed.data.toList.drop 13 = sX6_handed_13 := dn1 hX6_handed_12
theorem dX6_handed_13 : decode cX6_handed 13 = .ok (.aload_n 0, 1) := dk42 hX6_handed_13
theorem hX6_handed_14 : cX6_handed.data.toList.drop 14 = sX6_handed_14 := dn1 hX6_handed_13
theorem dX6_handed_14 : decode cX6_handed 14 = .ok (.getfield 47, 3) := dk180 hX6_handed_14 rfl
theorem hX6_handed_17 : cX6_handed.data.toList.drop 17 = sX6_handed_17 := dn3 hX6_handed_14
theorem dX6_handed_17 : decode cX6_handed 17 = .ok (.aload_n 0, 1) := dk42 hX6_handed_17
theorem hX6_handed_18 : cX6_handed.data.toList.drop 18 = sX6_handed_18 := dn1 hX6_handed_17
theorem dX6_handed_18 : decode cX6_handed 18 = .ok (.getfield 19, 3) := dk180 hX6_handed_18 rfl
theorem hX6_handed_21 : cX6_handed.data.toList.drop 21 = sX6_handed_21 := dn3 hX6_handed_18
theorem dX6_handed_21 : decode cX6_handed 21 = .ok (.aload_n 0, 1) := dk42 hX6_handed_21
theorem hX6_handed_22 : cX6_handed.data.toList.drop 22 = sX6_handed_22 := dn1 hX6_handed_21
theorem dX6_handed_22 : decode cX6_handed 22 = .ok (.getfield 26, 3) := dk180 hX6_handed_22 rfl
theorem hX6_handed_25 : cX6_handed.data.toList.drop 25 = sX6_handed_25 := dn3 hX6_handed_22
theorem dX6_handed_25 : decode cX6_handed 25 = .ok (.iload_n 1, 1) := dk27 hX6_handed_25
theorem hX6_handed_26 : cX6_handed.data.toList.drop 26 = sX6_handed_26 := dn1 hX6_handed_25
theorem dX6_handed_26 : decode cX6_handed 26 = .ok (.iload_n 2, 1) := dk28 hX6_handed_26
theorem hX6_handed_27 : cX6_handed.data.toList.drop 27 = sX6_handed_27 := dn1 hX6_handed_26
theorem dX6_handed_27 : decode cX6_handed 27 = .ok (.invokevirtual 196, 3) := dk182 hX6_handed_27 rfl
theorem hX6_handed_30 : cX6_handed.data.toList.drop 30 = sX6_handed_30 := dn3 hX6_handed_27
theorem dX6_handed_30 : decode cX6_handed 30 = .ok (.i2l, 1) := dk133 hX6_handed_30
theorem hX6_handed_31 : cX6_handed.data.toList.drop 31 = sX6_handed_31 := dn1 hX6_handed_30
theorem dX6_handed_31 : decode cX6_handed 31 = .ok (.aload_n 0, 1) := dk42 hX6_handed_31
theorem hX6_handed_32 : cX6_handed.data.toList.drop 32 = sX6_handed_32 := dn1 hX6_handed_31
theorem dX6_handed_32 : decode cX6_handed 32 = .ok (.getfield 19, 3) := dk180 hX6_handed_32 rfl
theorem hX6_handed_35 : cX6_handed.data.toList.drop 35 = sX6_handed_35 := dn3 hX6_handed_32
theorem dX6_handed_35 : decode cX6_handed 35 = .ok (.getfield 159, 3) := dk180 hX6_handed_35 rfl
theorem hX6_handed_38 : cX6_handed.data.toList.drop 38 = sX6_handed_38 := dn3 hX6_handed_35
theorem dX6_handed_38 : decode cX6_handed 38 = .ok (.i2l, 1) := dk133 hX6_handed_38
theorem hX6_handed_39 : cX6_handed.data.toList.drop 39 = sX6_handed_39 := dn1 hX6_handed_38
theorem dX6_handed_39 : decode cX6_handed 39 = .ok (.iload_n 3, 1) := dk29 hX6_handed_39
theorem hX6_handed_40 : cX6_handed.data.toList.drop 40 = sX6_handed_40 := dn1 hX6_handed_39
theorem dX6_handed_40 : decode cX6_handed 40 = .ok (.invokestatic 162, 3) := dk184 hX6_handed_40 rfl
theorem hX6_handed_43 : cX6_handed.data.toList.drop 43 = sX6_handed_43 := dn3 hX6_handed_40
theorem dX6_handed_43 : decode cX6_handed 43 = .ok (.lreturn, 1) := dk173 hX6_handed_43
noncomputable def sX6_heard_32 : List UInt8 := 172 :: []
noncomputable def sX6_heard_29 : List UInt8 := 180 :: 0 :: 184 :: sX6_heard_32
noncomputable def sX6_heard_26 : List UInt8 := 180 :: 0 :: 47 :: sX6_heard_29
noncomputable def sX6_heard_25 : List UInt8 := 42 :: sX6_heard_26
noncomputable def sX6_heard_24 : List UInt8 := 87 :: sX6_heard_25
noncomputable def sX6_heard_21 : List UInt8 := 182 :: 0 :: 177 :: sX6_heard_24
noncomputable def sX6_heard_18 : List UInt8 := 180 :: 0 :: 26 :: sX6_heard_21
noncomputable def sX6_heard_17 : List UInt8 := 42 :: sX6_heard_18
noncomputable def sX6_heard_14 : List UInt8 := 180 :: 0 :: 19 :: sX6_heard_17
noncomputable def sX6_heard_13 : List UInt8 := 42 :: sX6_heard_14
noncomputable def sX6_heard_10 : List UInt8 := 180 :: 0 :: 47 :: sX6_heard_13
noncomputable def sX6_heard_9 : List UInt8 := 42 :: sX6_heard_10
noncomputable def sX6_heard_8 : List UInt8 := 172 :: sX6_heard_9
noncomputable def sX6_heard_7 : List UInt8 := 2 :: sX6_heard_8
noncomputable def sX6_heard_4 : List UInt8 := 153 :: 0 :: 5 :: sX6_heard_7
noncomputable def sX6_heard_1 : List UInt8 := 182 :: 0 :: 140 :: sX6_heard_4
noncomputable def sX6_heard_0 : List UInt8 := 42 :: sX6_heard_1
set_option maxRecDepth 100000 in
theorem hX6_heard_0 : cX6_heard.data.toList.drop 0 = sX6_heard_0 := by decide +kernel
theorem dX6_heard_0 : decode cX6_heard 0 = .ok (.aload_n 0, 1) := dk42 hX6_heard_0
theorem hX6_heard_1 : cX6_heard.data.toList.drop 1 = sX6_heard_1 := dn1 hX6_heard_0
theorem dX6_heard_1 : decode cX6_heard 1 = .ok (.invokevirtual 140, 3) := dk182 hX6_heard_1 rfl
theorem hX6_heard_4 : cX6_heard.data.toList.drop 4 = sX6_heard_4 := dn3 hX6_heard_1
theorem dX6_heard_4 : decode cX6_heard 4 = .ok (.ifCond .eq 5, 3) := dk153 hX6_heard_4 (by decide)
theorem hX6_heard_7 : cX6_heard.data.toList.drop 7 = sX6_heard_7 := dn3 hX6_heard_4
theorem dX6_heard_7 : decode cX6_heard 7 = .ok (.iconst (-1), 1) := dk2 hX6_heard_7
theorem hX6_heard_8 : cX6_heard.data.toList.drop 8 = sX6_heard_8 := dn1 hX6_heard_7
theorem dX6_heard_8 : decode cX6_heard 8 = .ok (.ireturn, 1) := dk172 hX6_heard_8
theorem hX6_heard_9 : cX6_heard.data.toList.drop 9 = sX6_heard_9 := dn1 hX6_heard_8
theorem dX6_heard_9 : decode cX6_heard 9 = .ok (.aload_n 0, 1) := dk42 hX6_heard_9
theorem hX6_heard_10 : cX6_heard.data.toList.drop 10 = sX6_heard_10 := dn1 hX6_heard_9
theorem dX6_heard_10 : decode cX6_heard 10 = .ok (.getfield 47, 3) := dk180 hX6_heard_10 rfl
theorem hX6_heard_13 : cX6_heard.data.toList.drop 13 = sX6_heard_13 := dn3 hX6_heard_10
theorem dX6_heard_13 : decode cX6_heard 13 = .ok (.aload_n 0, 1) := dk42 hX6_heard_13
theorem hX6_heard_14 : cX6_heard.data.toList.drop 14 = sX6_heard_14 := dn1 hX6_heard_13
theorem dX6_heard_14 : decode cX6_heard 14 = .ok (.getfield 19, 3) := dk180 hX6_heard_14 rfl
theorem hX6_heard_17 : cX6_heard.data.toList.drop 17 = sX6_heard_17 := dn3 hX6_heard_14
theorem dX6_heard_17 : decode cX6_heard 17 = .ok (.aload_n 0, 1) := dk42 hX6_heard_17
theorem hX6_heard_18 : cX6_heard.data.toList.drop 18 = sX6_heard_18 := dn1 hX6_heard_17
theorem dX6_heard_18 : decode cX6_heard 18 = .ok (.getfield 26, 3) := dk180 hX6_heard_18 rfl
theorem hX6_heard_21 : cX6_heard.data.toList.drop 21 = sX6_heard_21 := dn3 hX6_heard_18
theorem dX6_heard_21 : decode cX6_heard 21 = .ok (.invokevirtual 177, 3) := dk182 hX6_heard_21 rfl
theorem hX6_heard_24 : cX6_heard.data.toList.drop 24 = sX6_heard_24 := dn3 hX6_heard_21
theorem dX6_heard_24 : decode cX6_heard 24 = .ok (.pop, 1) := dk87 hX6_heard_24
theorem hX6_heard_25 : cX6_heard.data.toList.drop 25 = sX6_heard_25 := dn1 hX6_heard_24
theorem dX6_heard_25 : decode cX6_heard 25 = .ok (.aload_n 0, 1) := dk42 hX6_heard_25
theorem hX6_heard_26 : cX6_heard.data.toList.drop 26 = sX6_heard_26 := dn1 hX6_heard_25
theorem dX6_heard_26 : decode cX6_heard 26 = .ok (.getfield 47, 3) := dk180 hX6_heard_26 rfl
theorem hX6_heard_29 : cX6_heard.data.toList.drop 29 = sX6_heard_29 := dn3 hX6_heard_26
theorem dX6_heard_29 : decode cX6_heard 29 = .ok (.getfield 184, 3) := dk180 hX6_heard_29 rfl
theorem hX6_heard_32 : cX6_heard.data.toList.drop 32 = sX6_heard_32 := dn3 hX6_heard_29
theorem dX6_heard_32 : decode cX6_heard 32 = .ok (.ireturn, 1) := dk172 hX6_heard_32
noncomputable def sX6_heardAt_46 : List UInt8 := 172 :: []
noncomputable def sX6_heardAt_43 : List UInt8 := 182 :: 0 :: 181 :: sX6_heardAt_46
noncomputable def sX6_heardAt_42 : List UInt8 := 27 :: sX6_heardAt_43
noncomputable def sX6_heardAt_39 : List UInt8 := 180 :: 0 :: 47 :: sX6_heardAt_42
noncomputable def sX6_heardAt_38 : List UInt8 := 42 :: sX6_heardAt_39
noncomputable def sX6_heardAt_37 : List UInt8 := 172 :: sX6_heardAt_38
noncomputable def sX6_heardAt_34 : List UInt8 := 182 :: 0 :: 66 :: sX6_heardAt_37
noncomputable def sX6_heardAt_33 : List UInt8 := 4 :: sX6_heardAt_34
noncomputable def sX6_heardAt_32 : List UInt8 := 42 :: sX6_heardAt_33
noncomputable def sX6_heardAt_29 : List UInt8 := 161 :: 0 :: 9 :: sX6_heardAt_32
noncomputable def sX6_heardAt_26 : List UInt8 := 182 :: 0 :: 177 :: sX6_heardAt_29
noncomputable def sX6_heardAt_23 : List UInt8 := 180 :: 0 :: 26 :: sX6_heardAt_26
noncomputable def sX6_heardAt_22 : List UInt8 := 42 :: sX6_heardAt_23
noncomputable def sX6_heardAt_19 : List UInt8 := 180 :: 0 :: 19 :: sX6_heardAt_22
noncomputable def sX6_heardAt_18 : List UInt8 := 42 :: sX6_heardAt_19
noncomputable def sX6_heardAt_15 : List UInt8 := 180 :: 0 :: 47 :: sX6_heardAt_18
noncomputable def sX6_heardAt_14 : List UInt8 := 42 :: sX6_heardAt_15
noncomputable def sX6_heardAt_13 : List UInt8 := 27 :: sX6_heardAt_14
noncomputable def sX6_heardAt_10 : List UInt8 := 155 :: 0 :: 22 :: sX6_heardAt_13
noncomputable def sX6_heardAt_9 : List UInt8 := 27 :: sX6_heardAt_10
noncomputable def sX6_heardAt_8 : List UInt8 := 172 :: sX6_heardAt_9
noncomputable def sX6_heardAt_7 : List UInt8 := 2 :: sX6_heardAt_8
noncomputable def sX6_heardAt_4 : List UInt8 := 153 :: 0 :: 5 :: sX6_heardAt_7
noncomputable def sX6_heardAt_1 : List UInt8 := 182 :: 0 :: 140 :: sX6_heardAt_4
noncomputable def sX6_heardAt_0 : List UInt8 := 42 :: sX6_heardAt_1
set_option maxRecDepth 100000 in
theorem hX6_heardAt_0 : cX6_heardAt.data.toList.drop 0 = sX6_heardAt_0 := by decide +kernel
theorem dX6_heardAt_0 : decode cX6_heardAt 0 = .ok (.aload_n 0, 1) := dk42 hX6_heardAt_0
theorem hX6_heardAt_1 : cX6_heardAt.data.toList.drop 1 = sX6_heardAt_1 := dn1 hX6_heardAt_0
theorem dX6_heardAt_1 : decode cX6_heardAt 1 = .ok (.invokevirtual 140, 3) := dk182 hX6_heardAt_1 rfl
theorem hX6_heardAt_4 : cX6_heardAt.data.toList.drop 4 = sX6_heardAt_4 := dn3 hX6_heardAt_1
theorem dX6_heardAt_4 : decode cX6_heardAt 4 = .ok (.ifCond .eq 5, 3) := dk153 hX6_heardAt_4 (by decide)
theorem hX6_heardAt_7 : cX6_heardAt.data.toList.drop 7 = sX6_heardAt_7 := dn3 hX6_heardAt_4
theorem dX6_heardAt_7 : decode cX6_heardAt 7 = .ok (.iconst (-1), 1) := dk2 hX6_heardAt_7
theorem hX6_heardAt_8 : cX6_heardAt.data.toList.drop 8 = sX6_heardAt_8 := dn1 hX6_heardAt_7
theorem dX6_heardAt_8 : decode cX6_heardAt 8 = .ok (.ireturn, 1) := dk172 hX6_heardAt_8
theorem hX6_heardAt_9 : cX6_heardAt.data.toList.drop 9 = sX6_heardAt_9 := dn1 hX6_heardAt_8
theorem dX6_heardAt_9 : decode cX6_heardAt 9 = .ok (.iload_n 1, 1) := dk27 hX6_heardAt_9
theorem hX6_heardAt_10 : cX6_heardAt.data.toList.drop 10 = sX6_heardAt_10 := dn1 hX6_heardAt_9
theorem dX6_heardAt_10 : decode cX6_heardAt 10 = .ok (.ifCond .lt 22, 3) := dk155 hX6_heardAt_10 (by decide)
theorem hX6_heardAt_13 : cX6_heardAt.data.toList.drop 13 = sX6_heardAt_13 := dn3 hX6_heardAt_10
theorem dX6_heardAt_13 : decode cX6_heardAt 13 = .ok (.iload_n 1, 1) := dk27 hX6_heardAt_13
theorem hX6_heardAt_14 : cX6_heardAt.data.toList.drop 14 = sX6_heardAt_14 := dn1 hX6_heardAt_13
theorem dX6_heardAt_14 : decode cX6_heardAt 14 = .ok (.aload_n 0, 1) := dk42 hX6_heardAt_14
theorem hX6_heardAt_15 : cX6_heardAt.data.toList.drop 15 = sX6_heardAt_15 := dn1 hX6_heardAt_14
theorem dX6_heardAt_15 : decode cX6_heardAt 15 = .ok (.getfield 47, 3) := dk180 hX6_heardAt_15 rfl
theorem hX6_heardAt_18 : cX6_heardAt.data.toList.drop 18 = sX6_heardAt_18 := dn3 hX6_heardAt_15
theorem dX6_heardAt_18 : decode cX6_heardAt 18 = .ok (.aload_n 0, 1) := dk42 hX6_heardAt_18
theorem hX6_heardAt_19 : cX6_heardAt.data.toList.drop 19 = sX6_heardAt_19 := dn1 hX6_heardAt_18
theorem dX6_heardAt_19 : decode cX6_heardAt 19 = .ok (.getfield 19, 3) := dk180 hX6_heardAt_19 rfl
theorem hX6_heardAt_22 : cX6_heardAt.data.toList.drop 22 = sX6_heardAt_22 := dn3 hX6_heardAt_19
theorem dX6_heardAt_22 : decode cX6_heardAt 22 = .ok (.aload_n 0, 1) := dk42 hX6_heardAt_22
theorem hX6_heardAt_23 : cX6_heardAt.data.toList.drop 23 = sX6_heardAt_23 := dn1 hX6_heardAt_22
theorem dX6_heardAt_23 : decode cX6_heardAt 23 = .ok (.getfield 26, 3) := dk180 hX6_heardAt_23 rfl
theorem hX6_heardAt_26 : cX6_heardAt.data.toList.drop 26 = sX6_heardAt_26 := dn3 hX6_heardAt_23
theorem dX6_heardAt_26 : decode cX6_heardAt 26 = .ok (.invokevirtual 177, 3) := dk182 hX6_heardAt_26 rfl
theorem hX6_heardAt_29 : cX6_heardAt.data.toList.drop 29 = sX6_heardAt_29 := dn3 hX6_heardAt_26
theorem dX6_heardAt_29 : decode cX6_heardAt 29 = .ok (.if_icmp .lt 9, 3) := dk161 hX6_heardAt_29 (by decide)
theorem hX6_heardAt_32 : cX6_heardAt.data.toList.drop 32 = sX6_heardAt_32 := dn3 hX6_heardAt_29
theorem dX6_heardAt_32 : decode cX6_heardAt 32 = .ok (.aload_n 0, 1) := dk42 hX6_heardAt_32
theorem hX6_heardAt_33 : cX6_heardAt.data.toList.drop 33 = sX6_heardAt_33 := dn1 hX6_heardAt_32
theorem dX6_heardAt_33 : decode cX6_heardAt 33 = .ok (.iconst 1, 1) := dk4 hX6_heardAt_33
theorem hX6_heardAt_34 : cX6_heardAt.data.toList.drop 34 = sX6_heardAt_34 := dn1 hX6_heardAt_33
theorem dX6_heardAt_34 : decode cX6_heardAt 34 = .ok (.invokevirtual 66, 3) := dk182 hX6_heardAt_34 rfl
theorem hX6_heardAt_37 : cX6_heardAt.data.toList.drop 37 = sX6_heardAt_37 := dn3 hX6_heardAt_34
theorem dX6_heardAt_37 : decode cX6_heardAt 37 = .ok (.ireturn, 1) := dk172 hX6_heardAt_37
theorem hX6_heardAt_38 : cX6_heardAt.data.toList.drop 38 = sX6_heardAt_38 := dn1 hX6_heardAt_37
theorem dX6_heardAt_38 : decode cX6_heardAt 38 = .ok (.aload_n 0, 1) := dk42 hX6_heardAt_38
theorem hX6_heardAt_39 : cX6_heardAt.data.toList.drop 39 = sX6_heardAt_39 := dn1 hX6_heardAt_38
theorem dX6_heardAt_39 : decode cX6_heardAt 39 = .ok (.getfield 47, 3) := dk180 hX6_heardAt_39 rfl
theorem hX6_heardAt_42 : cX6_heardAt.data.toList.drop 42 = sX6_heardAt_42 := dn3 hX6_heardAt_39
theorem dX6_heardAt_42 : decode cX6_heardAt 42 = .ok (.iload_n 1, 1) := dk27 hX6_heardAt_42
theorem hX6_heardAt_43 : cX6_heardAt.data.toList.drop 43 = sX6_heardAt_43 := dn1 hX6_heardAt_42
theorem dX6_heardAt_43 : decode cX6_heardAt 43 = .ok (.invokevirtual 181, 3) := dk182 hX6_heardAt_43 rfl
theorem hX6_heardAt_46 : cX6_heardAt.data.toList.drop 46 = sX6_heardAt_46 := dn3 hX6_heardAt_43
theorem dX6_heardAt_46 : decode cX6_heardAt 46 = .ok (.ireturn, 1) := dk172 hX6_heardAt_46
noncomputable def sX6_hears_26 : List UInt8 := 172 :: []
noncomputable def sX6_hears_23 : List UInt8 := 182 :: 0 :: 177 :: sX6_hears_26
noncomputable def sX6_hears_20 : List UInt8 := 180 :: 0 :: 26 :: sX6_hears_23
noncomputable def sX6_hears_19 : List UInt8 := 42 :: sX6_hears_20
noncomputable def sX6_hears_16 : List UInt8 := 180 :: 0 :: 19 :: sX6_hears_19
noncomputable def sX6_hears_15 : List UInt8 := 42 :: sX6_hears_16
noncomputable def sX6_hears_12 : List UInt8 := 180 :: 0 :: 47 :: sX6_hears_15
noncomputable def sX6_hears_11 : List UInt8 := 42 :: sX6_hears_12
noncomputable def sX6_hears_8 : List UInt8 := 167 :: 0 :: 18 :: sX6_hears_11
noncomputable def sX6_hears_7 : List UInt8 := 2 :: sX6_hears_8
noncomputable def sX6_hears_4 : List UInt8 := 153 :: 0 :: 7 :: sX6_hears_7
noncomputable def sX6_hears_1 : List UInt8 := 182 :: 0 :: 140 :: sX6_hears_4
noncomputable def sX6_hears_0 : List UInt8 := 42 :: sX6_hears_1
set_option maxRecDepth 100000 in
theorem hX6_hears_0 : cX6_hears.data.toList.drop 0 = sX6_hears_0 := by decide +kernel
theorem dX6_hears_0 : decode cX6_hears 0 = .ok (.aload_n 0, 1) := dk42 hX6_hears_0
theorem hX6_hears_1 : cX6_hears.data.toList.drop 1 = sX6_hears_1 := dn1 hX6_hears_0
theorem dX6_hears_1 : decode cX6_hears 1 = .ok (.invokevirtual 140, 3) := dk182 hX6_hears_1 rfl
theorem hX6_hears_4 : cX6_hears.data.toList.drop 4 = sX6_hears_4 := dn3 hX6_hears_1
theorem dX6_hears_4 : decode cX6_hears 4 = .ok (.ifCond .eq 7, 3) := dk153 hX6_hears_4 (by decide)
theorem hX6_hears_7 : cX6_hears.data.toList.drop 7 = sX6_hears_7 := dn3 hX6_hears_4
theorem dX6_hears_7 : decode cX6_hears 7 = .ok (.iconst (-1), 1) := dk2 hX6_hears_7
theorem hX6_hears_8 : cX6_hears.data.toList.drop 8 = sX6_hears_8 := dn1 hX6_hears_7
theorem dX6_hears_8 : decode cX6_hears 8 = .ok (.goto 18, 3) := dk167 hX6_hears_8 (by decide)
theorem hX6_hears_11 : cX6_hears.data.toList.drop 11 = sX6_hears_11 := dn3 hX6_hears_8
theorem dX6_hears_11 : decode cX6_hears 11 = .ok (.aload_n 0, 1) := dk42 hX6_hears_11
theorem hX6_hears_12 : cX6_hears.data.toList.drop 12 = sX6_hears_12 := dn1 hX6_hears_11
theorem dX6_hears_12 : decode cX6_hears 12 = .ok (.getfield 47, 3) := dk180 hX6_hears_12 rfl
theorem hX6_hears_15 : cX6_hears.data.toList.drop 15 = sX6_hears_15 := dn3 hX6_hears_12
theorem dX6_hears_15 : decode cX6_hears 15 = .ok (.aload_n 0, 1) := dk42 hX6_hears_15
theorem hX6_hears_16 : cX6_hears.data.toList.drop 16 = sX6_hears_16 := dn1 hX6_hears_15
theorem dX6_hears_16 : decode cX6_hears 16 = .ok (.getfield 19, 3) := dk180 hX6_hears_16 rfl
theorem hX6_hears_19 : cX6_hears.data.toList.drop 19 = sX6_hears_19 := dn3 hX6_hears_16
theorem dX6_hears_19 : decode cX6_hears 19 = .ok (.aload_n 0, 1) := dk42 hX6_hears_19
theorem hX6_hears_20 : cX6_hears.data.toList.drop 20 = sX6_hears_20 := dn1 hX6_hears_19
theorem dX6_hears_20 : decode cX6_hears 20 = .ok (.getfield 26, 3) := dk180 hX6_hears_20 rfl
theorem hX6_hears_23 : cX6_hears.data.toList.drop 23 = sX6_hears_23 := dn3 hX6_hears_20
theorem dX6_hears_23 : decode cX6_hears 23 = .ok (.invokevirtual 177, 3) := dk182 hX6_hears_23 rfl
theorem hX6_hears_26 : cX6_hears.data.toList.drop 26 = sX6_hears_26 := dn3 hX6_hears_23
theorem dX6_hears_26 : decode cX6_hears 26 = .ok (.ireturn, 1) := dk172 hX6_hears_26
noncomputable def sX6_hearsIn_36 : List UInt8 := 172 :: []
noncomputable def sX6_hearsIn_33 : List UInt8 := 180 :: 0 :: 200 :: sX6_hearsIn_36
noncomputable def sX6_hearsIn_30 : List UInt8 := 180 :: 0 :: 47 :: sX6_hearsIn_33
noncomputable def sX6_hearsIn_29 : List UInt8 := 42 :: sX6_hearsIn_30
noncomputable def sX6_hearsIn_28 : List UInt8 := 87 :: sX6_hearsIn_29
noncomputable def sX6_hearsIn_25 : List UInt8 := 182 :: 0 :: 196 :: sX6_hearsIn_28
noncomputable def sX6_hearsIn_24 : List UInt8 := 28 :: sX6_hearsIn_25
noncomputable def sX6_hearsIn_23 : List UInt8 := 27 :: sX6_hearsIn_24
noncomputable def sX6_hearsIn_20 : List UInt8 := 180 :: 0 :: 26 :: sX6_hearsIn_23
noncomputable def sX6_hearsIn_19 : List UInt8 := 42 :: sX6_hearsIn_20
noncomputable def sX6_hearsIn_16 : List UInt8 := 180 :: 0 :: 19 :: sX6_hearsIn_19
noncomputable def sX6_hearsIn_15 : List UInt8 := 42 :: sX6_hearsIn_16
noncomputable def sX6_hearsIn_12 : List UInt8 := 180 :: 0 :: 47 :: sX6_hearsIn_15
noncomputable def sX6_hearsIn_11 : List UInt8 := 42 :: sX6_hearsIn_12
noncomputable def sX6_hearsIn_10 : List UInt8 := 172 :: sX6_hearsIn_11
noncomputable def sX6_hearsIn_9 : List UInt8 := 2 :: sX6_hearsIn_10
noncomputable def sX6_hearsIn_6 : List UInt8 := 153 :: 0 :: 5 :: sX6_hearsIn_9
noncomputable def sX6_hearsIn_3 : List UInt8 := 182 :: 0 :: 193 :: sX6_hearsIn_6
noncomputable def sX6_hearsIn_2 : List UInt8 := 28 :: sX6_hearsIn_3
noncomputable def sX6_hearsIn_1 : List UInt8 := 27 :: sX6_hearsIn_2
noncomputable def sX6_hearsIn_0 : List UInt8 := 42 :: sX6_hearsIn_1
set_option maxRecDepth 100000 in
theorem hX6_hearsIn_0 : cX6_hearsIn.data.toList.drop 0 = sX6_hearsIn_0 := by decide +kernel
theorem dX6_hearsIn_0 : decode cX6_hearsIn 0 = .ok (.aload_n 0, 1) := dk42 hX6_hearsIn_0
theorem hX6_hearsIn_1 : cX6_hearsIn.data.toList.drop 1 = sX6_hearsIn_1 := dn1 hX6_hearsIn_0
theorem dX6_hearsIn_1 : decode cX6_hearsIn 1 = .ok (.iload_n 1, 1) := dk27 hX6_hearsIn_1
theorem hX6_hearsIn_2 : cX6_hearsIn.data.toList.drop 2 = sX6_hearsIn_2 := dn1 hX6_hearsIn_1
theorem dX6_hearsIn_2 : decode cX6_hearsIn 2 = .ok (.iload_n 2, 1) := dk28 hX6_hearsIn_2
theorem hX6_hearsIn_3 : cX6_hearsIn.data.toList.drop 3 = sX6_hearsIn_3 := dn1 hX6_hearsIn_2
theorem dX6_hearsIn_3 : decode cX6_hearsIn 3 = .ok (.invokevirtual 193, 3) := dk182 hX6_hearsIn_3 rfl
theorem hX6_hearsIn_6 : cX6_hearsIn.data.toList.drop 6 = sX6_hearsIn_6 := dn3 hX6_hearsIn_3
theorem dX6_hearsIn_6 : decode cX6_hearsIn 6 = .ok (.ifCond .eq 5, 3) := dk153 hX6_hearsIn_6 (by decide)
theorem hX6_hearsIn_9 : cX6_hearsIn.data.toList.drop 9 = sX6_hearsIn_9 := dn3 hX6_hearsIn_6
theorem dX6_hearsIn_9 : decode cX6_hearsIn 9 = .ok (.iconst (-1), 1) := dk2 hX6_hearsIn_9
theorem hX6_hearsIn_10 : cX6_hearsIn.data.toList.drop 10 = sX6_hearsIn_10 := dn1 hX6_hearsIn_9
theorem dX6_hearsIn_10 : decode cX6_hearsIn 10 = .ok (.ireturn, 1) := dk172 hX6_hearsIn_10
theorem hX6_hearsIn_11 : cX6_hearsIn.data.toList.drop 11 = sX6_hearsIn_11 := dn1 hX6_hearsIn_10
theorem dX6_hearsIn_11 : decode cX6_hearsIn 11 = .ok (.aload_n 0, 1) := dk42 hX6_hearsIn_11
theorem hX6_hearsIn_12 : cX6_hearsIn.data.toList.drop 12 = sX6_hearsIn_12 := dn1 hX6_hearsIn_11
theorem dX6_hearsIn_12 : decode cX6_hearsIn 12 = .ok (.getfield 47, 3) := dk180 hX6_hearsIn_12 rfl
theorem hX6_hearsIn_15 : cX6_hearsIn.data.toList.drop 15 = sX6_hearsIn_15 := dn3 hX6_hearsIn_12
theorem dX6_hearsIn_15 : decode cX6_hearsIn 15 = .ok (.aload_n 0, 1) := dk42 hX6_hearsIn_15
theorem hX6_hearsIn_16 : cX6_hearsIn.data.toList.drop 16 = sX6_hearsIn_16 := dn1 hX6_hearsIn_15
theorem dX6_hearsIn_16 : decode cX6_hearsIn 16 = .ok (.getfield 19, 3) := dk180 hX6_hearsIn_16 rfl
theorem hX6_hearsIn_19 : cX6_hearsIn.data.toList.drop 19 = sX6_hearsIn_19 := dn3 hX6_hearsIn_16
theorem dX6_hearsIn_19 : decode cX6_hearsIn 19 = .ok (.aload_n 0, 1) := dk42 hX6_hearsIn_19
theorem hX6_hearsIn_20 : cX6_hearsIn.data.toList.drop 20 = sX6_hearsIn_20 := dn1 hX6_hearsIn_19
theorem dX6_hearsIn_20 : decode cX6_hearsIn 20 = .ok (.getfield 26, 3) := dk180 hX6_hearsIn_20 rfl
theorem hX6_hearsIn_23 : cX6_hearsIn.data.toList.drop 23 = sX6_hearsIn_23 := dn3 hX6_hearsIn_20
theorem dX6_hearsIn_23 : decode cX6_hearsIn 23 = .ok (.iload_n 1, 1) := dk27 hX6_hearsIn_23
theorem hX6_hearsIn_24 : cX6_hearsIn.data.toList.drop 24 = sX6_hearsIn_24 := dn1 hX6_hearsIn_23
theorem dX6_hearsIn_24 : decode cX6_hearsIn 24 = .ok (.iload_n 2, 1) := dk28 hX6_hearsIn_24
theorem hX6_hearsIn_25 : cX6_hearsIn.data.toList.drop 25 = sX6_hearsIn_25 := dn1 hX6_hearsIn_24
theorem dX6_hearsIn_25 : decode cX6_hearsIn 25 = .ok (.invokevirtual 196, 3) := dk182 hX6_hearsIn_25 rfl
theorem hX6_hearsIn_28 : cX6_hearsIn.data.toList.drop 28 = sX6_hearsIn_28 := dn3 hX6_hearsIn_25
theorem dX6_hearsIn_28 : decode cX6_hearsIn 28 = .ok (.pop, 1) := dk87 hX6_hearsIn_28
theorem hX6_hearsIn_29 : cX6_hearsIn.data.toList.drop 29 = sX6_hearsIn_29 := dn1 hX6_hearsIn_28
theorem dX6_hearsIn_29 : decode cX6_hearsIn 29 = .ok (.aload_n 0, 1) := dk42 hX6_hearsIn_29
theorem hX6_hearsIn_30 : cX6_hearsIn.data.toList.drop 30 = sX6_hearsIn_30 := dn1 hX6_hearsIn_29
theorem dX6_hearsIn_30 : decode cX6_hearsIn 30 = .ok (.getfield 47, 3) := dk180 hX6_hearsIn_30 rfl
theorem hX6_hearsIn_33 : cX6_hearsIn.data.toList.drop 33 = sX6_hearsIn_33 := dn3 hX6_hearsIn_30
theorem dX6_hearsIn_33 : decode cX6_hearsIn 33 = .ok (.getfield 200, 3) := dk180 hX6_hearsIn_33 rfl
theorem hX6_hearsIn_36 : cX6_hearsIn.data.toList.drop 36 = sX6_hearsIn_36 := dn3 hX6_hearsIn_33
theorem dX6_hearsIn_36 : decode cX6_hearsIn 36 = .ok (.ireturn, 1) := dk172 hX6_hearsIn_36
noncomputable def sX6_image_55 : List UInt8 := 172 :: []
noncomputable def sX6_image_54 : List UInt8 := 100 :: sX6_image_55
noncomputable def sX6_image_53 : List UInt8 := 4 :: sX6_image_54
noncomputable def sX6_image_50 : List UInt8 := 180 :: 0 :: 97 :: sX6_image_53
noncomputable def sX6_image_49 : List UInt8 := 42 :: sX6_image_50
noncomputable def sX6_image_46 : List UInt8 := 181 :: 0 :: 97 :: sX6_image_49
noncomputable def sX6_image_45 : List UInt8 := 96 :: sX6_image_46
noncomputable def sX6_image_44 : List UInt8 := 4 :: sX6_image_45
noncomputable def sX6_image_41 : List UInt8 := 180 :: 0 :: 97 :: sX6_image_44
noncomputable def sX6_image_40 : List UInt8 := 89 :: sX6_image_41
noncomputable def sX6_image_39 : List UInt8 := 42 :: sX6_image_40
noncomputable def sX6_image_36 : List UInt8 := 182 :: 0 :: 241 :: sX6_image_39
noncomputable def sX6_image_33 : List UInt8 := 180 :: 0 :: 26 :: sX6_image_36
noncomputable def sX6_image_32 : List UInt8 := 42 :: sX6_image_33
noncomputable def sX6_image_31 : List UInt8 := 50 :: sX6_image_32
noncomputable def sX6_image_28 : List UInt8 := 180 :: 0 :: 97 :: sX6_image_31
noncomputable def sX6_image_27 : List UInt8 := 42 :: sX6_image_28
noncomputable def sX6_image_24 : List UInt8 := 180 :: 0 :: 33 :: sX6_image_27
noncomputable def sX6_image_23 : List UInt8 := 42 :: sX6_image_24
noncomputable def sX6_image_22 : List UInt8 := 172 :: sX6_image_23
noncomputable def sX6_image_19 : List UInt8 := 182 :: 0 :: 66 :: sX6_image_22
noncomputable def sX6_image_18 : List UInt8 := 6 :: sX6_image_19
noncomputable def sX6_image_17 : List UInt8 := 42 :: sX6_image_18
noncomputable def sX6_image_14 : List UInt8 := 161 :: 0 :: 9 :: sX6_image_17
noncomputable def sX6_image_13 : List UInt8 := 6 :: sX6_image_14
noncomputable def sX6_image_10 : List UInt8 := 180 :: 0 :: 97 :: sX6_image_13
noncomputable def sX6_image_9 : List UInt8 := 42 :: sX6_image_10
noncomputable def sX6_image_8 : List UInt8 := 172 :: sX6_image_9
noncomputable def sX6_image_7 : List UInt8 := 2 :: sX6_image_8
noncomputable def sX6_image_4 : List UInt8 := 153 :: 0 :: 5 :: sX6_image_7
noncomputable def sX6_image_1 : List UInt8 := 182 :: 0 :: 140 :: sX6_image_4
noncomputable def sX6_image_0 : List UInt8 := 42 :: sX6_image_1
set_option maxRecDepth 100000 in
theorem hX6_image_0 : cX6_image.data.toList.drop 0 = sX6_image_0 := by decide +kernel
theorem dX6_image_0 : decode cX6_image 0 = .ok (.aload_n 0, 1) := dk42 hX6_image_0
theorem hX6_image_1 : cX6_image.data.toList.drop 1 = sX6_image_1 := dn1 hX6_image_0
theorem dX6_image_1 : decode cX6_image 1 = .ok (.invokevirtual 140, 3) := dk182 hX6_image_1 rfl
theorem hX6_image_4 : cX6_image.data.toList.drop 4 = sX6_image_4 := dn3 hX6_image_1
theorem dX6_image_4 : decode cX6_image 4 = .ok (.ifCond .eq 5, 3) := dk153 hX6_image_4 (by decide)
theorem hX6_image_7 : cX6_image.data.toList.drop 7 = sX6_image_7 := dn3 hX6_image_4
theorem dX6_image_7 : decode cX6_image 7 = .ok (.iconst (-1), 1) := dk2 hX6_image_7
theorem hX6_image_8 : cX6_image.data.toList.drop 8 = sX6_image_8 := dn1 hX6_image_7
theorem dX6_image_8 : decode cX6_image 8 = .ok (.ireturn, 1) := dk172 hX6_image_8
theorem hX6_image_9 : cX6_image.data.toList.drop 9 = sX6_image_9 := dn1 hX6_image_8
theorem dX6_image_9 : decode cX6_image 9 = .ok (.aload_n 0, 1) := dk42 hX6_image_9
theorem hX6_image_10 : cX6_image.data.toList.drop 10 = sX6_image_10 := dn1 hX6_image_9
theorem dX6_image_10 : decode cX6_image 10 = .ok (.getfield 97, 3) := dk180 hX6_image_10 rfl
theorem hX6_image_13 : cX6_image.data.toList.drop 13 = sX6_image_13 := dn3 hX6_image_10
theorem dX6_image_13 : decode cX6_image 13 = .ok (.iconst 3, 1) := dk6 hX6_image_13
theorem hX6_image_14 : cX6_image.data.toList.drop 14 = sX6_image_14 := dn1 hX6_image_13
theorem dX6_image_14 : decode cX6_image 14 = .ok (.if_icmp .lt 9, 3) := dk161 hX6_image_14 (by decide)
theorem hX6_image_17 : cX6_image.data.toList.drop 17 = sX6_image_17 := dn3 hX6_image_14
theorem dX6_image_17 : decode cX6_image 17 = .ok (.aload_n 0, 1) := dk42 hX6_image_17
theorem hX6_image_18 : cX6_image.data.toList.drop 18 = sX6_image_18 := dn1 hX6_image_17
theorem dX6_image_18 : decode cX6_image 18 = .ok (.iconst 3, 1) := dk6 hX6_image_18
theorem hX6_image_19 : cX6_image.data.toList.drop 19 = sX6_image_19 := dn1 hX6_image_18
theorem dX6_image_19 : decode cX6_image 19 = .ok (.invokevirtual 66, 3) := dk182 hX6_image_19 rfl
theorem hX6_image_22 : cX6_image.data.toList.drop 22 = sX6_image_22 := dn3 hX6_image_19
theorem dX6_image_22 : decode cX6_image 22 = .ok (.ireturn, 1) := dk172 hX6_image_22
theorem hX6_image_23 : cX6_image.data.toList.drop 23 = sX6_image_23 := dn1 hX6_image_22
theorem dX6_image_23 : decode cX6_image 23 = .ok (.aload_n 0, 1) := dk42 hX6_image_23
theorem hX6_image_24 : cX6_image.data.toList.drop 24 = sX6_image_24 := dn1 hX6_image_23
theorem dX6_image_24 : decode cX6_image 24 = .ok (.getfield 33, 3) := dk180 hX6_image_24 rfl
theorem hX6_image_27 : cX6_image.data.toList.drop 27 = sX6_image_27 := dn3 hX6_image_24
theorem dX6_image_27 : decode cX6_image 27 = .ok (.aload_n 0, 1) := dk42 hX6_image_27
theorem hX6_image_28 : cX6_image.data.toList.drop 28 = sX6_image_28 := dn1 hX6_image_27
theorem dX6_image_28 : decode cX6_image 28 = .ok (.getfield 97, 3) := dk180 hX6_image_28 rfl
theorem hX6_image_31 : cX6_image.data.toList.drop 31 = sX6_image_31 := dn3 hX6_image_28
theorem dX6_image_31 : decode cX6_image 31 = .ok (.aaload, 1) := dk50 hX6_image_31
theorem hX6_image_32 : cX6_image.data.toList.drop 32 = sX6_image_32 := dn1 hX6_image_31
theorem dX6_image_32 : decode cX6_image 32 = .ok (.aload_n 0, 1) := dk42 hX6_image_32
theorem hX6_image_33 : cX6_image.data.toList.drop 33 = sX6_image_33 := dn1 hX6_image_32
theorem dX6_image_33 : decode cX6_image 33 = .ok (.getfield 26, 3) := dk180 hX6_image_33 rfl
theorem hX6_image_36 : cX6_image.data.toList.drop 36 = sX6_image_36 := dn3 hX6_image_33
theorem dX6_image_36 : decode cX6_image 36 = .ok (.invokevirtual 241, 3) := dk182 hX6_image_36 rfl
theorem hX6_image_39 : cX6_image.data.toList.drop 39 = sX6_image_39 := dn3 hX6_image_36
theorem dX6_image_39 : decode cX6_image 39 = .ok (.aload_n 0, 1) := dk42 hX6_image_39
theorem hX6_image_40 : cX6_image.data.toList.drop 40 = sX6_image_40 := dn1 hX6_image_39
theorem dX6_image_40 : decode cX6_image 40 = .ok (.dup, 1) := dk89 hX6_image_40
theorem hX6_image_41 : cX6_image.data.toList.drop 41 = sX6_image_41 := dn1 hX6_image_40
theorem dX6_image_41 : decode cX6_image 41 = .ok (.getfield 97, 3) := dk180 hX6_image_41 rfl
theorem hX6_image_44 : cX6_image.data.toList.drop 44 = sX6_image_44 := dn3 hX6_image_41
theorem dX6_image_44 : decode cX6_image 44 = .ok (.iconst 1, 1) := dk4 hX6_image_44
theorem hX6_image_45 : cX6_image.data.toList.drop 45 = sX6_image_45 := dn1 hX6_image_44
theorem dX6_image_45 : decode cX6_image 45 = .ok (.iadd, 1) := dk96 hX6_image_45
theorem hX6_image_46 : cX6_image.data.toList.drop 46 = sX6_image_46 := dn1 hX6_image_45
theorem dX6_image_46 : decode cX6_image 46 = .ok (.putfield 97, 3) := dk181 hX6_image_46 rfl
theorem hX6_image_49 : cX6_image.data.toList.drop 49 = sX6_image_49 := dn3 hX6_image_46
theorem dX6_image_49 : decode cX6_image 49 = .ok (.aload_n 0, 1) := dk42 hX6_image_49
theorem hX6_image_50 : cX6_image.data.toList.drop 50 = sX6_image_50 := dn1 hX6_image_49
theorem dX6_image_50 : decode cX6_image 50 = .ok (.getfield 97, 3) := dk180 hX6_image_50 rfl
theorem hX6_image_53 : cX6_image.data.toList.drop 53 = sX6_image_53 := dn3 hX6_image_50
theorem dX6_image_53 : decode cX6_image 53 = .ok (.iconst 1, 1) := dk4 hX6_image_53
theorem hX6_image_54 : cX6_image.data.toList.drop 54 = sX6_image_54 := dn1 hX6_image_53
theorem dX6_image_54 : decode cX6_image 54 = .ok (.isub, 1) := dk100 hX6_image_54
theorem hX6_image_55 : cX6_image.data.toList.drop 55 = sX6_image_55 := dn1 hX6_image_54
theorem dX6_image_55 : decode cX6_image 55 = .ok (.ireturn, 1) := dk172 hX6_image_55
noncomputable def sX6_inLowestTerms_31 : List UInt8 := 173 :: []
noncomputable def sX6_inLowestTerms_30 : List UInt8 := 109 :: sX6_inLowestTerms_31
noncomputable def sX6_inLowestTerms_28 : List UInt8 := 22 :: 5 :: sX6_inLowestTerms_30
noncomputable def sX6_inLowestTerms_27 : List UInt8 := 30 :: sX6_inLowestTerms_28
noncomputable def sX6_inLowestTerms_24 : List UInt8 := 167 :: 0 :: 4 :: sX6_inLowestTerms_27
noncomputable def sX6_inLowestTerms_23 : List UInt8 := 32 :: sX6_inLowestTerms_24
noncomputable def sX6_inLowestTerms_20 : List UInt8 := 153 :: 0 :: 7 :: sX6_inLowestTerms_23
noncomputable def sX6_inLowestTerms_18 : List UInt8 := 21 :: 4 :: sX6_inLowestTerms_20
noncomputable def sX6_inLowestTerms_17 : List UInt8 := 173 :: sX6_inLowestTerms_18
noncomputable def sX6_inLowestTerms_14 : List UInt8 := 20 :: 0 :: 147 :: sX6_inLowestTerms_17
noncomputable def sX6_inLowestTerms_11 : List UInt8 := 157 :: 0 :: 7 :: sX6_inLowestTerms_14
noncomputable def sX6_inLowestTerms_10 : List UInt8 := 148 :: sX6_inLowestTerms_11
noncomputable def sX6_inLowestTerms_9 : List UInt8 := 9 :: sX6_inLowestTerms_10
noncomputable def sX6_inLowestTerms_7 : List UInt8 := 22 :: 5 :: sX6_inLowestTerms_9
noncomputable def sX6_inLowestTerms_5 : List UInt8 := 55 :: 5 :: sX6_inLowestTerms_7
noncomputable def sX6_inLowestTerms_2 : List UInt8 := 184 :: 1 :: 123 :: sX6_inLowestTerms_5
noncomputable def sX6_inLowestTerms_1 : List UInt8 := 32 :: sX6_inLowestTerms_2
noncomputable def sX6_inLowestTerms_0 : List UInt8 := 30 :: sX6_inLowestTerms_1
set_option maxRecDepth 100000 in
theorem hX6_inLowestTerms_0 : cX6_inLowestTerms.data.toList.drop 0 = sX6_inLowestTerms_0 := by decide +kernel
theorem dX6_inLowestTerms_0 : decode cX6_inLowestTerms 0 = .ok (.lload_n 0, 1) := dk30 hX6_inLowestTerms_0
theorem hX6_inLowestTerms_1 : cX6_inLowestTerms.data.toList.drop 1 = sX6_inLowestTerms_1 := dn1 hX6_inLowestTerms_0
theorem dX6_inLowestTerms_1 : decode cX6_inLowestTerms 1 = .ok (.lload_n 2, 1) := dk32 hX6_inLowestTerms_1
theorem hX6_inLowestTerms_2 : cX6_inLowestTerms.data.toList.drop 2 = sX6_inLowestTerms_2 := dn1 hX6_inLowestTerms_1
theorem dX6_inLowestTerms_2 : decode cX6_inLowestTerms 2 = .ok (.invokestatic 379, 3) := dk184 hX6_inLowestTerms_2 rfl
theorem hX6_inLowestTerms_5 : cX6_inLowestTerms.data.toList.drop 5 = sX6_inLowestTerms_5 := dn3 hX6_inLowestTerms_2
theorem dX6_inLowestTerms_5 : decode cX6_inLowestTerms 5 = .ok (.lstore 5, 2) := dk55 hX6_inLowestTerms_5 rfl
theorem hX6_inLowestTerms_7 : cX6_inLowestTerms.data.toList.drop 7 = sX6_inLowestTerms_7 := dn2 hX6_inLowestTerms_5
theorem dX6_inLowestTerms_7 : decode cX6_inLowestTerms 7 = .ok (.lload 5, 2) := dk22 hX6_inLowestTerms_7 rfl
theorem hX6_inLowestTerms_9 : cX6_inLowestTerms.data.toList.drop 9 = sX6_inLowestTerms_9 := dn2 hX6_inLowestTerms_7
theorem dX6_inLowestTerms_9 : decode cX6_inLowestTerms 9 = .ok (.lconst 0, 1) := dk9 hX6_inLowestTerms_9
theorem hX6_inLowestTerms_10 : cX6_inLowestTerms.data.toList.drop 10 = sX6_inLowestTerms_10 := dn1 hX6_inLowestTerms_9
theorem dX6_inLowestTerms_10 : decode cX6_inLowestTerms 10 = .ok (.lcmp, 1) := dk148 hX6_inLowestTerms_10
theorem hX6_inLowestTerms_11 : cX6_inLowestTerms.data.toList.drop 11 = sX6_inLowestTerms_11 := dn1 hX6_inLowestTerms_10
theorem dX6_inLowestTerms_11 : decode cX6_inLowestTerms 11 = .ok (.ifCond .gt 7, 3) := dk157 hX6_inLowestTerms_11 (by decide)
theorem hX6_inLowestTerms_14 : cX6_inLowestTerms.data.toList.drop 14 = sX6_inLowestTerms_14 := dn3 hX6_inLowestTerms_11
theorem dX6_inLowestTerms_14 : decode cX6_inLowestTerms 14 = .ok (.ldc2_w 147, 3) := dk20 hX6_inLowestTerms_14 rfl
theorem hX6_inLowestTerms_17 : cX6_inLowestTerms.data.toList.drop 17 = sX6_inLowestTerms_17 := dn3 hX6_inLowestTerms_14
theorem dX6_inLowestTerms_17 : decode cX6_inLowestTerms 17 = .ok (.lreturn, 1) := dk173 hX6_inLowestTerms_17
theorem hX6_inLowestTerms_18 : cX6_inLowestTerms.data.toList.drop 18 = sX6_inLowestTerms_18 := dn1 hX6_inLowestTerms_17
theorem dX6_inLowestTerms_18 : decode cX6_inLowestTerms 18 = .ok (.iload 4, 2) := dk21 hX6_inLowestTerms_18 rfl
theorem hX6_inLowestTerms_20 : cX6_inLowestTerms.data.toList.drop 20 = sX6_inLowestTerms_20 := dn2 hX6_inLowestTerms_18
theorem dX6_inLowestTerms_20 : decode cX6_inLowestTerms 20 = .ok (.ifCond .eq 7, 3) := dk153 hX6_inLowestTerms_20 (by decide)
theorem hX6_inLowestTerms_23 : cX6_inLowestTerms.data.toList.drop 23 = sX6_inLowestTerms_23 := dn3 hX6_inLowestTerms_20
theorem dX6_inLowestTerms_23 : decode cX6_inLowestTerms 23 = .ok (.lload_n 2, 1) := dk32 hX6_inLowestTerms_23
theorem hX6_inLowestTerms_24 : cX6_inLowestTerms.data.toList.drop 24 = sX6_inLowestTerms_24 := dn1 hX6_inLowestTerms_23
theorem dX6_inLowestTerms_24 : decode cX6_inLowestTerms 24 = .ok (.goto 4, 3) := dk167 hX6_inLowestTerms_24 (by decide)
theorem hX6_inLowestTerms_27 : cX6_inLowestTerms.data.toList.drop 27 = sX6_inLowestTerms_27 := dn3 hX6_inLowestTerms_24
theorem dX6_inLowestTerms_27 : decode cX6_inLowestTerms 27 = .ok (.lload_n 0, 1) := dk30 hX6_inLowestTerms_27
theorem hX6_inLowestTerms_28 : cX6_inLowestTerms.data.toList.drop 28 = sX6_inLowestTerms_28 := dn1 hX6_inLowestTerms_27
theorem dX6_inLowestTerms_28 : decode cX6_inLowestTerms 28 = .ok (.lload 5, 2) := dk22 hX6_inLowestTerms_28 rfl
theorem hX6_inLowestTerms_30 : cX6_inLowestTerms.data.toList.drop 30 = sX6_inLowestTerms_30 := dn2 hX6_inLowestTerms_28
theorem dX6_inLowestTerms_30 : decode cX6_inLowestTerms 30 = .ok (.ldiv, 1) := dk109 hX6_inLowestTerms_30
theorem hX6_inLowestTerms_31 : cX6_inLowestTerms.data.toList.drop 31 = sX6_inLowestTerms_31 := dn1 hX6_inLowestTerms_30
theorem dX6_inLowestTerms_31 : decode cX6_inLowestTerms 31 = .ok (.lreturn, 1) := dk173 hX6_inLowestTerms_31
noncomputable def sX6_init_115 : List UInt8 := 177 :: []
noncomputable def sX6_init_112 : List UInt8 := 167 :: 255 :: 235 :: sX6_init_115
noncomputable def sX6_init_109 : List UInt8 := 132 :: 1 :: 1 :: sX6_init_112
noncomputable def sX6_init_108 : List UInt8 := 83 :: sX6_init_109
noncomputable def sX6_init_105 : List UInt8 := 183 :: 0 :: 25 :: sX6_init_108
noncomputable def sX6_init_104 : List UInt8 := 89 :: sX6_init_105
noncomputable def sX6_init_101 : List UInt8 := 187 :: 0 :: 23 :: sX6_init_104
noncomputable def sX6_init_100 : List UInt8 := 27 :: sX6_init_101
noncomputable def sX6_init_97 : List UInt8 := 180 :: 0 :: 33 :: sX6_init_100
noncomputable def sX6_init_96 : List UInt8 := 42 :: sX6_init_97
noncomputable def sX6_init_93 : List UInt8 := 162 :: 0 :: 22 :: sX6_init_96
noncomputable def sX6_init_92 : List UInt8 := 6 :: sX6_init_93
noncomputable def sX6_init_91 : List UInt8 := 27 :: sX6_init_92
noncomputable def sX6_init_90 : List UInt8 := 60 :: sX6_init_91
noncomputable def sX6_init_89 : List UInt8 := 3 :: sX6_init_90
noncomputable def sX6_init_86 : List UInt8 := 181 :: 0 :: 54 :: sX6_init_89
noncomputable def sX6_init_83 : List UInt8 := 183 :: 0 :: 53 :: sX6_init_86
noncomputable def sX6_init_82 : List UInt8 := 89 :: sX6_init_83
noncomputable def sX6_init_79 : List UInt8 := 187 :: 0 :: 51 :: sX6_init_82
noncomputable def sX6_init_78 : List UInt8 := 42 :: sX6_init_79
noncomputable def sX6_init_75 : List UInt8 := 181 :: 0 :: 47 :: sX6_init_78
noncomputable def sX6_init_72 : List UInt8 := 183 :: 0 :: 46 :: sX6_init_75
noncomputable def sX6_init_71 : List UInt8 := 89 :: sX6_init_72
noncomputable def sX6_init_68 : List UInt8 := 187 :: 0 :: 44 :: sX6_init_71
noncomputable def sX6_init_67 : List UInt8 := 42 :: sX6_init_68
noncomputable def sX6_init_64 : List UInt8 := 181 :: 0 :: 40 :: sX6_init_67
noncomputable def sX6_init_61 : List UInt8 := 183 :: 0 :: 39 :: sX6_init_64
noncomputable def sX6_init_60 : List UInt8 := 89 :: sX6_init_61
noncomputable def sX6_init_57 : List UInt8 := 187 :: 0 :: 37 :: sX6_init_60
noncomputable def sX6_init_56 : List UInt8 := 42 :: sX6_init_57
noncomputable def sX6_init_53 : List UInt8 := 181 :: 0 :: 33 :: sX6_init_56
noncomputable def sX6_init_50 : List UInt8 := 189 :: 0 :: 23 :: sX6_init_53
noncomputable def sX6_init_49 : List UInt8 := 6 :: sX6_init_50
noncomputable def sX6_init_48 : List UInt8 := 42 :: sX6_init_49
noncomputable def sX6_init_45 : List UInt8 := 181 :: 0 :: 30 :: sX6_init_48
noncomputable def sX6_init_42 : List UInt8 := 183 :: 0 :: 25 :: sX6_init_45
noncomputable def sX6_init_41 : List UInt8 := 89 :: sX6_init_42
noncomputable def sX6_init_38 : List UInt8 := 187 :: 0 :: 23 :: sX6_init_41
noncomputable def sX6_init_37 : List UInt8 := 42 :: sX6_init_38
noncomputable def sX6_init_34 : List UInt8 := 181 :: 0 :: 26 :: sX6_init_37
noncomputable def sX6_init_31 : List UInt8 := 183 :: 0 :: 25 :: sX6_init_34
noncomputable def sX6_init_30 : List UInt8 := 89 :: sX6_init_31
noncomputable def sX6_init_27 : List UInt8 := 187 :: 0 :: 23 :: sX6_init_30
noncomputable def sX6_init_26 : List UInt8 := 42 :: sX6_init_27
noncomputable def sX6_init_23 : List UInt8 := 181 :: 0 :: 19 :: sX6_init_26
noncomputable def sX6_init_20 : List UInt8 := 183 :: 0 :: 18 :: sX6_init_23
noncomputable def sX6_init_19 : List UInt8 := 89 :: sX6_init_20
noncomputable def sX6_init_16 : List UInt8 := 187 :: 0 :: 16 :: sX6_init_19
noncomputable def sX6_init_15 : List UInt8 := 42 :: sX6_init_16
noncomputable def sX6_init_12 : List UInt8 := 181 :: 0 :: 10 :: sX6_init_15
noncomputable def sX6_init_9 : List UInt8 := 183 :: 0 :: 9 :: sX6_init_12
noncomputable def sX6_init_8 : List UInt8 := 89 :: sX6_init_9
noncomputable def sX6_init_5 : List UInt8 := 187 :: 0 :: 7 :: sX6_init_8
noncomputable def sX6_init_4 : List UInt8 := 42 :: sX6_init_5
noncomputable def sX6_init_1 : List UInt8 := 183 :: 0 :: 1 :: sX6_init_4
noncomputable def sX6_init_0 : List UInt8 := 42 :: sX6_init_1
set_option maxRecDepth 100000 in
theorem hX6_init_0 : cX6_init.data.toList.drop 0 = sX6_init_0 := by decide +kernel
theorem dX6_init_0 : decode cX6_init 0 = .ok (.aload_n 0, 1) := dk42 hX6_init_0
theorem hX6_init_1 : cX6_init.data.toList.drop 1 = sX6_init_1 := dn1 hX6_init_0
theorem dX6_init_1 : decode cX6_init 1 = .ok (.invokespecial 1, 3) := dk183 hX6_init_1 rfl
theorem hX6_init_4 : cX6_init.data.toList.drop 4 = sX6_init_4 := dn3 hX6_init_1
theorem dX6_init_4 : decode cX6_init 4 = .ok (.aload_n 0, 1) := dk42 hX6_init_4
theorem hX6_init_5 : cX6_init.data.toList.drop 5 = sX6_init_5 := dn1 hX6_init_4
theorem dX6_init_5 : decode cX6_init 5 = .ok (.new 7, 3) := dk187 hX6_init_5 rfl
theorem hX6_init_8 : cX6_init.data.toList.drop 8 = sX6_init_8 := dn3 hX6_init_5
theorem dX6_init_8 : decode cX6_init 8 = .ok (.dup, 1) := dk89 hX6_init_8
theorem hX6_init_9 : cX6_init.data.toList.drop 9 = sX6_init_9 := dn1 hX6_init_8
theorem dX6_init_9 : decode cX6_init 9 = .ok (.invokespecial 9, 3) := dk183 hX6_init_9 rfl
theorem hX6_init_12 : cX6_init.data.toList.drop 12 = sX6_init_12 := dn3 hX6_init_9
theorem dX6_init_12 : decode cX6_init 12 = .ok (.putfield 10, 3) := dk181 hX6_init_12 rfl
theorem hX6_init_15 : cX6_init.data.toList.drop 15 = sX6_init_15 := dn3 hX6_init_12
theorem dX6_init_15 : decode cX6_init 15 = .ok (.aload_n 0, 1) := dk42 hX6_init_15
theorem hX6_init_16 : cX6_init.data.toList.drop 16 = sX6_init_16 := dn1 hX6_init_15
theorem dX6_init_16 : decode cX6_init 16 = .ok (.new 16, 3) := dk187 hX6_init_16 rfl
theorem hX6_init_19 : cX6_init.data.toList.drop 19 = sX6_init_19 := dn3 hX6_init_16
theorem dX6_init_19 : decode cX6_init 19 = .ok (.dup, 1) := dk89 hX6_init_19
theorem hX6_init_20 : cX6_init.data.toList.drop 20 = sX6_init_20 := dn1 hX6_init_19
theorem dX6_init_20 : decode cX6_init 20 = .ok (.invokespecial 18, 3) := dk183 hX6_init_20 rfl
theorem hX6_init_23 : cX6_init.data.toList.drop 23 = sX6_init_23 := dn3 hX6_init_20
theorem dX6_init_23 : decode cX6_init 23 = .ok (.putfield 19, 3) := dk181 hX6_init_23 rfl
theorem hX6_init_26 : cX6_init.data.toList.drop 26 = sX6_init_26 := dn3 hX6_init_23
theorem dX6_init_26 : decode cX6_init 26 = .ok (.aload_n 0, 1) := dk42 hX6_init_26
theorem hX6_init_27 : cX6_init.data.toList.drop 27 = sX6_init_27 := dn1 hX6_init_26
theorem dX6_init_27 : decode cX6_init 27 = .ok (.new 23, 3) := dk187 hX6_init_27 rfl
theorem hX6_init_30 : cX6_init.data.toList.drop 30 = sX6_init_30 := dn3 hX6_init_27
theorem dX6_init_30 : decode cX6_init 30 = .ok (.dup, 1) := dk89 hX6_init_30
theorem hX6_init_31 : cX6_init.data.toList.drop 31 = sX6_init_31 := dn1 hX6_init_30
theorem dX6_init_31 : decode cX6_init 31 = .ok (.invokespecial 25, 3) := dk183 hX6_init_31 rfl
theorem hX6_init_34 : cX6_init.data.toList.drop 34 = sX6_init_34 := dn3 hX6_init_31
theorem dX6_init_34 : decode cX6_init 34 = .ok (.putfield 26, 3) := dk181 hX6_init_34 rfl
theorem hX6_init_37 : cX6_init.data.toList.drop 37 = sX6_init_37 := dn3 hX6_init_34
theorem dX6_init_37 : decode cX6_init 37 = .ok (.aload_n 0, 1) := dk42 hX6_init_37
theorem hX6_init_38 : cX6_init.data.toList.drop 38 = sX6_init_38 := dn1 hX6_init_37
theorem dX6_init_38 : decode cX6_init 38 = .ok (.new 23, 3) := dk187 hX6_init_38 rfl
theorem hX6_init_41 : cX6_init.data.toList.drop 41 = sX6_init_41 := dn3 hX6_init_38
theorem dX6_init_41 : decode cX6_init 41 = .ok (.dup, 1) := dk89 hX6_init_41
theorem hX6_init_42 : cX6_init.data.toList.drop 42 = sX6_init_42 := dn1 hX6_init_41
theorem dX6_init_42 : decode cX6_init 42 = .ok (.invokespecial 25, 3) := dk183 hX6_init_42 rfl
theorem hX6_init_45 : cX6_init.data.toList.drop 45 = sX6_init_45 := dn3 hX6_init_42
theorem dX6_init_45 : decode cX6_init 45 = .ok (.putfield 30, 3) := dk181 hX6_init_45 rfl
theorem hX6_init_48 : cX6_init.data.toList.drop 48 = sX6_init_48 := dn3 hX6_init_45
theorem dX6_init_48 : decode cX6_init 48 = .ok (.aload_n 0, 1) := dk42 hX6_init_48
theorem hX6_init_49 : cX6_init.data.toList.drop 49 = sX6_init_49 := dn1 hX6_init_48
theorem dX6_init_49 : decode cX6_init 49 = .ok (.iconst 3, 1) := dk6 hX6_init_49
theorem hX6_init_50 : cX6_init.data.toList.drop 50 = sX6_init_50 := dn1 hX6_init_49
theorem dX6_init_50 : decode cX6_init 50 = .ok (.anewarray 23, 3) := dk189 hX6_init_50 rfl
theorem hX6_init_53 : cX6_init.data.toList.drop 53 = sX6_init_53 := dn3 hX6_init_50
theorem dX6_init_53 : decode cX6_init 53 = .ok (.putfield 33, 3) := dk181 hX6_init_53 rfl
theorem hX6_init_56 : cX6_init.data.toList.drop 56 = sX6_init_56 := dn3 hX6_init_53
theorem dX6_init_56 : decode cX6_init 56 = .ok (.aload_n 0, 1) := dk42 hX6_init_56
theorem hX6_init_57 : cX6_init.data.toList.drop 57 = sX6_init_57 := dn1 hX6_init_56
theorem dX6_init_57 : decode cX6_init 57 = .ok (.new 37, 3) := dk187 hX6_init_57 rfl
theorem hX6_init_60 : cX6_init.data.toList.drop 60 = sX6_init_60 := dn3 hX6_init_57
theorem dX6_init_60 : decode cX6_init 60 = .ok (.dup, 1) := dk89 hX6_init_60
theorem hX6_init_61 : cX6_init.data.toList.drop 61 = sX6_init_61 := dn1 hX6_init_60
theorem dX6_init_61 : decode cX6_init 61 = .ok (.invokespecial 39, 3) := dk183 hX6_init_61 rfl
theorem hX6_init_64 : cX6_init.data.toList.drop 64 = sX6_init_64 := dn3 hX6_init_61
theorem dX6_init_64 : decode cX6_init 64 = .ok (.putfield 40, 3) := dk181 hX6_init_64 rfl
theorem hX6_init_67 : cX6_init.data.toList.drop 67 = sX6_init_67 := dn3 hX6_init_64
theorem dX6_init_67 : decode cX6_init 67 = .ok (.aload_n 0, 1) := dk42 hX6_init_67
theorem hX6_init_68 : cX6_init.data.toList.drop 68 = sX6_init_68 := dn1 hX6_init_67
theorem dX6_init_68 : decode cX6_init 68 = .ok (.new 44, 3) := dk187 hX6_init_68 rfl
theorem hX6_init_71 : cX6_init.data.toList.drop 71 = sX6_init_71 := dn3 hX6_init_68
theorem dX6_init_71 : decode cX6_init 71 = .ok (.dup, 1) := dk89 hX6_init_71
theorem hX6_init_72 : cX6_init.data.toList.drop 72 = sX6_init_72 := dn1 hX6_init_71
theorem dX6_init_72 : decode cX6_init 72 = .ok (.invokespecial 46, 3) := dk183 hX6_init_72 rfl
theorem hX6_init_75 : cX6_init.data.toList.drop 75 = sX6_init_75 := dn3 hX6_init_72
theorem dX6_init_75 : decode cX6_init 75 = .ok (.putfield 47, 3) := dk181 hX6_init_75 rfl
theorem hX6_init_78 : cX6_init.data.toList.drop 78 = sX6_init_78 := dn3 hX6_init_75
theorem dX6_init_78 : decode cX6_init 78 = .ok (.aload_n 0, 1) := dk42 hX6_init_78
theorem hX6_init_79 : cX6_init.data.toList.drop 79 = sX6_init_79 := dn1 hX6_init_78
theorem dX6_init_79 : decode cX6_init 79 = .ok (.new 51, 3) := dk187 hX6_init_79 rfl
theorem hX6_init_82 : cX6_init.data.toList.drop 82 = sX6_init_82 := dn3 hX6_init_79
theorem dX6_init_82 : decode cX6_init 82 = .ok (.dup, 1) := dk89 hX6_init_82
theorem hX6_init_83 : cX6_init.data.toList.drop 83 = sX6_init_83 := dn1 hX6_init_82
theorem dX6_init_83 : decode cX6_init 83 = .ok (.invokespecial 53, 3) := dk183 hX6_init_83 rfl
theorem hX6_init_86 : cX6_init.data.toList.drop 86 = sX6_init_86 := dn3 hX6_init_83
theorem dX6_init_86 : decode cX6_init 86 = .ok (.putfield 54, 3) := dk181 hX6_init_86 rfl
theorem hX6_init_89 : cX6_init.data.toList.drop 89 = sX6_init_89 := dn3 hX6_init_86
theorem dX6_init_89 : decode cX6_init 89 = .ok (.iconst 0, 1) := dk3 hX6_init_89
theorem hX6_init_90 : cX6_init.data.toList.drop 90 = sX6_init_90 := dn1 hX6_init_89
theorem dX6_init_90 : decode cX6_init 90 = .ok (.istore_n 1, 1) := dk60 hX6_init_90
theorem hX6_init_91 : cX6_init.data.toList.drop 91 = sX6_init_91 := dn1 hX6_init_90
theorem dX6_init_91 : decode cX6_init 91 = .ok (.iload_n 1, 1) := dk27 hX6_init_91
theorem hX6_init_92 : cX6_init.data.toList.drop 92 = sX6_init_92 := dn1 hX6_init_91
theorem dX6_init_92 : decode cX6_init 92 = .ok (.iconst 3, 1) := dk6 hX6_init_92
theorem hX6_init_93 : cX6_init.data.toList.drop 93 = sX6_init_93 := dn1 hX6_init_92
theorem dX6_init_93 : decode cX6_init 93 = .ok (.if_icmp .ge 22, 3) := dk162 hX6_init_93 (by decide)
theorem hX6_init_96 : cX6_init.data.toList.drop 96 = sX6_init_96 := dn3 hX6_init_93
theorem dX6_init_96 : decode cX6_init 96 = .ok (.aload_n 0, 1) := dk42 hX6_init_96
theorem hX6_init_97 : cX6_init.data.toList.drop 97 = sX6_init_97 := dn1 hX6_init_96
theorem dX6_init_97 : decode cX6_init 97 = .ok (.getfield 33, 3) := dk180 hX6_init_97 rfl
theorem hX6_init_100 : cX6_init.data.toList.drop 100 = sX6_init_100 := dn3 hX6_init_97
theorem dX6_init_100 : decode cX6_init 100 = .ok (.iload_n 1, 1) := dk27 hX6_init_100
theorem hX6_init_101 : cX6_init.data.toList.drop 101 = sX6_init_101 := dn1 hX6_init_100
theorem dX6_init_101 : decode cX6_init 101 = .ok (.new 23, 3) := dk187 hX6_init_101 rfl
theorem hX6_init_104 : cX6_init.data.toList.drop 104 = sX6_init_104 := dn3 hX6_init_101
theorem dX6_init_104 : decode cX6_init 104 = .ok (.dup, 1) := dk89 hX6_init_104
theorem hX6_init_105 : cX6_init.data.toList.drop 105 = sX6_init_105 := dn1 hX6_init_104
theorem dX6_init_105 : decode cX6_init 105 = .ok (.invokespecial 25, 3) := dk183 hX6_init_105 rfl
theorem hX6_init_108 : cX6_init.data.toList.drop 108 = sX6_init_108 := dn3 hX6_init_105
theorem dX6_init_108 : decode cX6_init 108 = .ok (.aastore, 1) := dk83 hX6_init_108
theorem hX6_init_109 : cX6_init.data.toList.drop 109 = sX6_init_109 := dn1 hX6_init_108
theorem dX6_init_109 : decode cX6_init 109 = .ok (.iinc 1 1, 3) := dk132 hX6_init_109 rfl (by decide)
theorem hX6_init_112 : cX6_init.data.toList.drop 112 = sX6_init_112 := dn3 hX6_init_109
theorem dX6_init_112 : decode cX6_init 112 = .ok (.goto (-21), 3) := dk167 hX6_init_112 (by decide)
theorem hX6_init_115 : cX6_init.data.toList.drop 115 = sX6_init_115 := dn3 hX6_init_112
theorem dX6_init_115 : decode cX6_init 115 = .ok (.return_, 1) := dk177 hX6_init_115
noncomputable def sX6_isRest_51 : List UInt8 := 172 :: []
noncomputable def sX6_isRest_50 : List UInt8 := 3 :: sX6_isRest_51
noncomputable def sX6_isRest_47 : List UInt8 := 167 :: 0 :: 4 :: sX6_isRest_50
noncomputable def sX6_isRest_46 : List UInt8 := 4 :: sX6_isRest_47
noncomputable def sX6_isRest_43 : List UInt8 := 161 :: 0 :: 7 :: sX6_isRest_46
noncomputable def sX6_isRest_40 : List UInt8 := 184 :: 1 :: 70 :: sX6_isRest_43
noncomputable def sX6_isRest_39 : List UInt8 := 27 :: sX6_isRest_40
noncomputable def sX6_isRest_38 : List UInt8 := 3 :: sX6_isRest_39
noncomputable def sX6_isRest_35 : List UInt8 := 167 :: 0 :: 4 :: sX6_isRest_38
noncomputable def sX6_isRest_34 : List UInt8 := 4 :: sX6_isRest_35
noncomputable def sX6_isRest_31 : List UInt8 := 154 :: 0 :: 7 :: sX6_isRest_34
noncomputable def sX6_isRest_30 : List UInt8 := 28 :: sX6_isRest_31
noncomputable def sX6_isRest_29 : List UInt8 := 26 :: sX6_isRest_30
noncomputable def sX6_isRest_26 : List UInt8 := 184 :: 1 :: 70 :: sX6_isRest_29
noncomputable def sX6_isRest_25 : List UInt8 := 27 :: sX6_isRest_26
noncomputable def sX6_isRest_24 : List UInt8 := 28 :: sX6_isRest_25
noncomputable def sX6_isRest_23 : List UInt8 := 26 :: sX6_isRest_24
noncomputable def sX6_isRest_20 : List UInt8 := 161 :: 0 :: 30 :: sX6_isRest_23
noncomputable def sX6_isRest_17 : List UInt8 := 184 :: 1 :: 70 :: sX6_isRest_20
noncomputable def sX6_isRest_16 : List UInt8 := 28 :: sX6_isRest_17
noncomputable def sX6_isRest_15 : List UInt8 := 3 :: sX6_isRest_16
noncomputable def sX6_isRest_12 : List UInt8 := 167 :: 0 :: 4 :: sX6_isRest_15
noncomputable def sX6_isRest_11 : List UInt8 := 4 :: sX6_isRest_12
noncomputable def sX6_isRest_8 : List UInt8 := 154 :: 0 :: 7 :: sX6_isRest_11
noncomputable def sX6_isRest_7 : List UInt8 := 27 :: sX6_isRest_8
noncomputable def sX6_isRest_6 : List UInt8 := 26 :: sX6_isRest_7
noncomputable def sX6_isRest_3 : List UInt8 := 184 :: 1 :: 70 :: sX6_isRest_6
noncomputable def sX6_isRest_2 : List UInt8 := 28 :: sX6_isRest_3
noncomputable def sX6_isRest_1 : List UInt8 := 27 :: sX6_isRest_2
noncomputable def sX6_isRest_0 : List UInt8 := 26 :: sX6_isRest_1
set_option maxRecDepth 100000 in
theorem hX6_isRest_0 : cX6_isRest.data.toList.drop 0 = sX6_isRest_0 := by decide +kernel
theorem dX6_isRest_0 : decode cX6_isRest 0 = .ok (.iload_n 0, 1) := dk26 hX6_isRest_0
theorem hX6_isRest_1 : cX6_isRest.data.toList.drop 1 = sX6_isRest_1 := dn1 hX6_isRest_0
theorem dX6_isRest_1 : decode cX6_isRest 1 = .ok (.iload_n 1, 1) := dk27 hX6_isRest_1
theorem hX6_isRest_2 : cX6_isRest.data.toList.drop 2 = sX6_isRest_2 := dn1 hX6_isRest_1
theorem dX6_isRest_2 : decode cX6_isRest 2 = .ok (.iload_n 2, 1) := dk28 hX6_isRest_2
theorem hX6_isRest_3 : cX6_isRest.data.toList.drop 3 = sX6_isRest_3 := dn1 hX6_isRest_2
theorem dX6_isRest_3 : decode cX6_isRest 3 = .ok (.invokestatic 326, 3) := dk184 hX6_isRest_3 rfl
theorem hX6_isRest_6 : cX6_isRest.data.toList.drop 6 = sX6_isRest_6 := dn3 hX6_isRest_3
theorem dX6_isRest_6 : decode cX6_isRest 6 = .ok (.iload_n 0, 1) := dk26 hX6_isRest_6
theorem hX6_isRest_7 : cX6_isRest.data.toList.drop 7 = sX6_isRest_7 := dn1 hX6_isRest_6
theorem dX6_isRest_7 : decode cX6_isRest 7 = .ok (.iload_n 1, 1) := dk27 hX6_isRest_7
theorem hX6_isRest_8 : cX6_isRest.data.toList.drop 8 = sX6_isRest_8 := dn1 hX6_isRest_7
theorem dX6_isRest_8 : decode cX6_isRest 8 = .ok (.ifCond .ne 7, 3) := dk154 hX6_isRest_8 (by decide)
theorem hX6_isRest_11 : cX6_isRest.data.toList.drop 11 = sX6_isRest_11 := dn3 hX6_isRest_8
theorem dX6_isRest_11 : decode cX6_isRest 11 = .ok (.iconst 1, 1) := dk4 hX6_isRest_11
theorem hX6_isRest_12 : cX6_isRest.data.toList.drop 12 = sX6_isRest_12 := dn1 hX6_isRest_11
theorem dX6_isRest_12 : decode cX6_isRest 12 = .ok (.goto 4, 3) := dk167 hX6_isRest_12 (by decide)
theorem hX6_isRest_15 : cX6_isRest.data.toList.drop 15 = sX6_isRest_15 := dn3 hX6_isRest_12
theorem dX6_isRest_15 : decode cX6_isRest 15 = .ok (.iconst 0, 1) := dk3 hX6_isRest_15
theorem hX6_isRest_16 : cX6_isRest.data.toList.drop 16 = sX6_isRest_16 := dn1 hX6_isRest_15
theorem dX6_isRest_16 : decode cX6_isRest 16 = .ok (.iload_n 2, 1) := dk28 hX6_isRest_16
theorem hX6_isRest_17 : cX6_isRest.data.toList.drop 17 = sX6_isRest_17 := dn1 hX6_isRest_16
theorem dX6_isRest_17 : decode cX6_isRest 17 = .ok (.invokestatic 326, 3) := dk184 hX6_isRest_17 rfl
theorem hX6_isRest_20 : cX6_isRest.data.toList.drop 20 = sX6_isRest_20 := dn3 hX6_isRest_17
theorem dX6_isRest_20 : decode cX6_isRest 20 = .ok (.if_icmp .lt 30, 3) := dk161 hX6_isRest_20 (by decide)
theorem hX6_isRest_23 : cX6_isRest.data.toList.drop 23 = sX6_isRest_23 := dn3 hX6_isRest_20
theorem dX6_isRest_23 : decode cX6_isRest 23 = .ok (.iload_n 0, 1) := dk26 hX6_isRest_23
theorem hX6_isRest_24 : cX6_isRest.data.toList.drop 24 = sX6_isRest_24 := dn1 hX6_isRest_23
theorem dX6_isRest_24 : decode cX6_isRest 24 = .ok (.iload_n 2, 1) := dk28 hX6_isRest_24
theorem hX6_isRest_25 : cX6_isRest.data.toList.drop 25 = sX6_isRest_25 := dn1 hX6_isRest_24
theorem dX6_isRest_25 : decode cX6_isRest 25 = .ok (.iload_n 1, 1) := dk27 hX6_isRest_25
theorem hX6_isRest_26 : cX6_isRest.data.toList.drop 26 = sX6_isRest_26 := dn1 hX6_isRest_25
theorem dX6_isRest_26 : decode cX6_isRest 26 = .ok (.invokestatic 326, 3) := dk184 hX6_isRest_26 rfl
theorem hX6_isRest_29 : cX6_isRest.data.toList.drop 29 = sX6_isRest_29 := dn3 hX6_isRest_26
theorem dX6_isRest_29 : decode cX6_isRest 29 = .ok (.iload_n 0, 1) := dk26 hX6_isRest_29
theorem hX6_isRest_30 : cX6_isRest.data.toList.drop 30 = sX6_isRest_30 := dn1 hX6_isRest_29
theorem dX6_isRest_30 : decode cX6_isRest 30 = .ok (.iload_n 2, 1) := dk28 hX6_isRest_30
theorem hX6_isRest_31 : cX6_isRest.data.toList.drop 31 = sX6_isRest_31 := dn1 hX6_isRest_30
theorem dX6_isRest_31 : decode cX6_isRest 31 = .ok (.ifCond .ne 7, 3) := dk154 hX6_isRest_31 (by decide)
theorem hX6_isRest_34 : cX6_isRest.data.toList.drop 34 = sX6_isRest_34 := dn3 hX6_isRest_31
theorem dX6_isRest_34 : decode cX6_isRest 34 = .ok (.iconst 1, 1) := dk4 hX6_isRest_34
theorem hX6_isRest_35 : cX6_isRest.data.toList.drop 35 = sX6_isRest_35 := dn1 hX6_isRest_34
theorem dX6_isRest_35 : decode cX6_isRest 35 = .ok (.goto 4, 3) := dk167 hX6_isRest_35 (by decide)
theorem hX6_isRest_38 : cX6_isRest.data.toList.drop 38 = sX6_isRest_38 := dn3 hX6_isRest_35
theorem dX6_isRest_38 : decode cX6_isRest 38 = .ok (.iconst 0, 1) := dk3 hX6_isRest_38
theorem hX6_isRest_39 : cX6_isRest.data.toList.drop 39 = sX6_isRest_39 := dn1 hX6_isRest_38
theorem dX6_isRest_39 : decode cX6_isRest 39 = .ok (.iload_n 1, 1) := dk27 hX6_isRest_39
theorem hX6_isRest_40 : cX6_isRest.data.toList.drop 40 = sX6_isRest_40 := dn1 hX6_isRest_39
theorem dX6_isRest_40 : decode cX6_isRest 40 = .ok (.invokestatic 326, 3) := dk184 hX6_isRest_40 rfl
theorem hX6_isRest_43 : cX6_isRest.data.toList.drop 43 = sX6_isRest_43 := dn3 hX6_isRest_40
theorem dX6_isRest_43 : decode cX6_isRest 43 = .ok (.if_icmp .lt 7, 3) := dk161 hX6_isRest_43 (by decide)
theorem hX6_isRest_46 : cX6_isRest.data.toList.drop 46 = sX6_isRest_46 := dn3 hX6_isRest_43
theorem dX6_isRest_46 : decode cX6_isRest 46 = .ok (.iconst 1, 1) := dk4 hX6_isRest_46
theorem hX6_isRest_47 : cX6_isRest.data.toList.drop 47 = sX6_isRest_47 := dn1 hX6_isRest_46
theorem dX6_isRest_47 : decode cX6_isRest 47 = .ok (.goto 4, 3) := dk167 hX6_isRest_47 (by decide)
theorem hX6_isRest_50 : cX6_isRest.data.toList.drop 50 = sX6_isRest_50 := dn3 hX6_isRest_47
theorem dX6_isRest_50 : decode cX6_isRest 50 = .ok (.iconst 0, 1) := dk3 hX6_isRest_50
theorem hX6_isRest_51 : cX6_isRest.data.toList.drop 51 = sX6_isRest_51 := dn1 hX6_isRest_50
theorem dX6_isRest_51 : decode cX6_isRest 51 = .ok (.ireturn, 1) := dk172 hX6_isRest_51
noncomputable def sX6_lacksBounds_41 : List UInt8 := 172 :: []
noncomputable def sX6_lacksBounds_40 : List UInt8 := 3 :: sX6_lacksBounds_41
noncomputable def sX6_lacksBounds_37 : List UInt8 := 167 :: 0 :: 4 :: sX6_lacksBounds_40
noncomputable def sX6_lacksBounds_36 : List UInt8 := 4 :: sX6_lacksBounds_37
noncomputable def sX6_lacksBounds_33 : List UInt8 := 153 :: 0 :: 7 :: sX6_lacksBounds_36
noncomputable def sX6_lacksBounds_30 : List UInt8 := 180 :: 0 :: 100 :: sX6_lacksBounds_33
noncomputable def sX6_lacksBounds_29 : List UInt8 := 42 :: sX6_lacksBounds_30
noncomputable def sX6_lacksBounds_26 : List UInt8 := 181 :: 0 :: 100 :: sX6_lacksBounds_29
noncomputable def sX6_lacksBounds_25 : List UInt8 := 5 :: sX6_lacksBounds_26
noncomputable def sX6_lacksBounds_24 : List UInt8 := 42 :: sX6_lacksBounds_25
noncomputable def sX6_lacksBounds_21 : List UInt8 := 161 :: 0 :: 8 :: sX6_lacksBounds_24
noncomputable def sX6_lacksBounds_20 : List UInt8 := 28 :: sX6_lacksBounds_21
noncomputable def sX6_lacksBounds_19 : List UInt8 := 27 :: sX6_lacksBounds_20
noncomputable def sX6_lacksBounds_16 : List UInt8 := 163 :: 0 :: 8 :: sX6_lacksBounds_19
noncomputable def sX6_lacksBounds_14 : List UInt8 := 16 :: 99 :: sX6_lacksBounds_16
noncomputable def sX6_lacksBounds_13 : List UInt8 := 28 :: sX6_lacksBounds_14
noncomputable def sX6_lacksBounds_10 : List UInt8 := 155 :: 0 :: 14 :: sX6_lacksBounds_13
noncomputable def sX6_lacksBounds_9 : List UInt8 := 27 :: sX6_lacksBounds_10
noncomputable def sX6_lacksBounds_8 : List UInt8 := 172 :: sX6_lacksBounds_9
noncomputable def sX6_lacksBounds_7 : List UInt8 := 4 :: sX6_lacksBounds_8
noncomputable def sX6_lacksBounds_4 : List UInt8 := 153 :: 0 :: 5 :: sX6_lacksBounds_7
noncomputable def sX6_lacksBounds_1 : List UInt8 := 182 :: 0 :: 140 :: sX6_lacksBounds_4
noncomputable def sX6_lacksBounds_0 : List UInt8 := 42 :: sX6_lacksBounds_1
set_option maxRecDepth 100000 in
theorem hX6_lacksBounds_0 : cX6_lacksBounds.data.toList.drop 0 = sX6_lacksBounds_0 := by decide +kernel
theorem dX6_lacksBounds_0 : decode cX6_lacksBounds 0 = .ok (.aload_n 0, 1) := dk42 hX6_lacksBounds_0
theorem hX6_lacksBounds_1 : cX6_lacksBounds.data.toList.drop 1 = sX6_lacksBounds_1 := dn1 hX6_lacksBounds_0
theorem dX6_lacksBounds_1 : decode cX6_lacksBounds 1 = .ok (.invokevirtual 140, 3) := dk182 hX6_lacksBounds_1 rfl
theorem hX6_lacksBounds_4 : cX6_lacksBounds.data.toList.drop 4 = sX6_lacksBounds_4 := dn3 hX6_lacksBounds_1
theorem dX6_lacksBounds_4 : decode cX6_lacksBounds 4 = .ok (.ifCond .eq 5, 3) := dk153 hX6_lacksBounds_4 (by decide)
theorem hX6_lacksBounds_7 : cX6_lacksBounds.data.toList.drop 7 = sX6_lacksBounds_7 := dn3 hX6_lacksBounds_4
theorem dX6_lacksBounds_7 : decode cX6_lacksBounds 7 = .ok (.iconst 1, 1) := dk4 hX6_lacksBounds_7
theorem hX6_lacksBounds_8 : cX6_lacksBounds.data.toList.drop 8 = sX6_lacksBounds_8 := dn1 hX6_lacksBounds_7
theorem dX6_lacksBounds_8 : decode cX6_lacksBounds 8 = .ok (.ireturn, 1) := dk172 hX6_lacksBounds_8
theorem hX6_lacksBounds_9 : cX6_lacksBounds.data.toList.drop 9 = sX6_lacksBounds_9 := dn1 hX6_lacksBounds_8
theorem dX6_lacksBounds_9 : decode cX6_lacksBounds 9 = .ok (.iload_n 1, 1) := dk27 hX6_lacksBounds_9
theorem hX6_lacksBounds_10 : cX6_lacksBounds.data.toList.drop 10 = sX6_lacksBounds_10 := dn1 hX6_lacksBounds_9
theorem dX6_lacksBounds_10 : decode cX6_lacksBounds 10 = .ok (.ifCond .lt 14, 3) := dk155 hX6_lacksBounds_10 (by decide)
theorem hX6_lacksBounds_13 : cX6_lacksBounds.data.toList.drop 13 = sX6_lacksBounds_13 := dn3 hX6_lacksBounds_10
theorem dX6_lacksBounds_13 : decode cX6_lacksBounds 13 = .ok (.iload_n 2, 1) := dk28 hX6_lacksBounds_13
theorem hX6_lacksBounds_14 : cX6_lacksBounds.data.toList.drop 14 = sX6_lacksBounds_14 := dn1 hX6_lacksBounds_13
theorem dX6_lacksBounds_14 : decode cX6_lacksBounds 14 = .ok (.bipush 99, 2) := dk16 hX6_lacksBounds_14 (by decide)
theorem hX6_lacksBounds_16 : cX6_lacksBounds.data.toList.drop 16 = sX6_lacksBounds_16 := dn2 hX6_lacksBounds_14
theorem dX6_lacksBounds_16 : decode cX6_lacksBounds 16 = .ok (.if_icmp .gt 8, 3) := dk163 hX6_lacksBounds_16 (by decide)
theorem hX6_lacksBounds_19 : cX6_lacksBounds.data.toList.drop 19 = sX6_lacksBounds_19 := dn3 hX6_lacksBounds_16
theorem dX6_lacksBounds_19 : decode cX6_lacksBounds 19 = .ok (.iload_n 1, 1) := dk27 hX6_lacksBounds_19
theorem hX6_lacksBounds_20 : cX6_lacksBounds.data.toList.drop 20 = sX6_lacksBounds_20 := dn1 hX6_lacksBounds_19
theorem dX6_lacksBounds_20 : decode cX6_lacksBounds 20 = .ok (.iload_n 2, 1) := dk28 hX6_lacksBounds_20
theorem hX6_lacksBounds_21 : cX6_lacksBounds.data.toList.drop 21 = sX6_lacksBounds_21 := dn1 hX6_lacksBounds_20
theorem dX6_lacksBounds_21 : decode cX6_lacksBounds 21 = .ok (.if_icmp .lt 8, 3) := dk161 hX6_lacksBounds_21 (by decide)
theorem hX6_lacksBounds_24 : cX6_lacksBounds.data.toList.drop 24 = sX6_lacksBounds_24 := dn3 hX6_lacksBounds_21
theorem dX6_lacksBounds_24 : decode cX6_lacksBounds 24 = .ok (.aload_n 0, 1) := dk42 hX6_lacksBounds_24
theorem hX6_lacksBounds_25 : cX6_lacksBounds.data.toList.drop 25 = sX6_lacksBounds_25 := dn1 hX6_lacksBounds_24
theorem dX6_lacksBounds_25 : decode cX6_lacksBounds 25 = .ok (.iconst 2, 1) := dk5 hX6_lacksBounds_25
theorem hX6_lacksBounds_26 : cX6_lacksBounds.data.toList.drop 26 = sX6_lacksBounds_26 := dn1 hX6_lacksBounds_25
theorem dX6_lacksBounds_26 : decode cX6_lacksBounds 26 = .ok (.putfield 100, 3) := dk181 hX6_lacksBounds_26 rfl
theorem hX6_lacksBounds_29 : cX6_lacksBounds.data.toList.drop 29 = sX6_lacksBounds_29 := dn3 hX6_lacksBounds_26
theorem dX6_lacksBounds_29 : decode cX6_lacksBounds 29 = .ok (.aload_n 0, 1) := dk42 hX6_lacksBounds_29
theorem hX6_lacksBounds_30 : cX6_lacksBounds.data.toList.drop 30 = sX6_lacksBounds_30 := dn1 hX6_lacksBounds_29
theorem dX6_lacksBounds_30 : decode cX6_lacksBounds 30 = .ok (.getfield 100, 3) := dk180 hX6_lacksBounds_30 rfl
theorem hX6_lacksBounds_33 : cX6_lacksBounds.data.toList.drop 33 = sX6_lacksBounds_33 := dn3 hX6_lacksBounds_30
theorem dX6_lacksBounds_33 : decode cX6_lacksBounds 33 = .ok (.ifCond .eq 7, 3) := dk153 hX6_lacksBounds_33 (by decide)
theorem hX6_lacksBounds_36 : cX6_lacksBounds.data.toList.drop 36 = sX6_lacksBounds_36 := dn3 hX6_lacksBounds_33
theorem dX6_lacksBounds_36 : decode cX6_lacksBounds 36 = .ok (.iconst 1, 1) := dk4 hX6_lacksBounds_36
theorem hX6_lacksBounds_37 : cX6_lacksBounds.data.toList.drop 37 = sX6_lacksBounds_37 := dn1 hX6_lacksBounds_36
theorem dX6_lacksBounds_37 : decode cX6_lacksBounds 37 = .ok (.goto 4, 3) := dk167 hX6_lacksBounds_37 (by decide)
theorem hX6_lacksBounds_40 : cX6_lacksBounds.data.toList.drop 40 = sX6_lacksBounds_40 := dn3 hX6_lacksBounds_37
theorem dX6_lacksBounds_40 : decode cX6_lacksBounds 40 = .ok (.iconst 0, 1) := dk3 hX6_lacksBounds_40
theorem hX6_lacksBounds_41 : cX6_lacksBounds.data.toList.drop 41 = sX6_lacksBounds_41 := dn1 hX6_lacksBounds_40
theorem dX6_lacksBounds_41 : decode cX6_lacksBounds 41 = .ok (.ireturn, 1) := dk172 hX6_lacksBounds_41
noncomputable def sX6_lacksCourt_31 : List UInt8 := 172 :: []
noncomputable def sX6_lacksCourt_30 : List UInt8 := 3 :: sX6_lacksCourt_31
noncomputable def sX6_lacksCourt_27 : List UInt8 := 167 :: 0 :: 4 :: sX6_lacksCourt_30
noncomputable def sX6_lacksCourt_26 : List UInt8 := 4 :: sX6_lacksCourt_27
noncomputable def sX6_lacksCourt_23 : List UInt8 := 153 :: 0 :: 7 :: sX6_lacksCourt_26
noncomputable def sX6_lacksCourt_20 : List UInt8 := 180 :: 0 :: 100 :: sX6_lacksCourt_23
noncomputable def sX6_lacksCourt_19 : List UInt8 := 42 :: sX6_lacksCourt_20
noncomputable def sX6_lacksCourt_16 : List UInt8 := 181 :: 0 :: 100 :: sX6_lacksCourt_19
noncomputable def sX6_lacksCourt_15 : List UInt8 := 4 :: sX6_lacksCourt_16
noncomputable def sX6_lacksCourt_12 : List UInt8 := 167 :: 0 :: 4 :: sX6_lacksCourt_15
noncomputable def sX6_lacksCourt_11 : List UInt8 := 3 :: sX6_lacksCourt_12
noncomputable def sX6_lacksCourt_8 : List UInt8 := 158 :: 0 :: 7 :: sX6_lacksCourt_11
noncomputable def sX6_lacksCourt_5 : List UInt8 := 180 :: 0 :: 103 :: sX6_lacksCourt_8
noncomputable def sX6_lacksCourt_2 : List UInt8 := 180 :: 0 :: 19 :: sX6_lacksCourt_5
noncomputable def sX6_lacksCourt_1 : List UInt8 := 42 :: sX6_lacksCourt_2
noncomputable def sX6_lacksCourt_0 : List UInt8 := 42 :: sX6_lacksCourt_1
set_option maxRecDepth 100000 in
theorem hX6_lacksCourt_0 : cX6_lacksCourt.data.toList.drop 0 = sX6_lacksCourt_0 := by decide +kernel
theorem dX6_lacksCourt_0 : decode cX6_lacksCourt 0 = .ok (.aload_n 0, 1) := dk42 hX6_lacksCourt_0
theorem hX6_lacksCourt_1 : cX6_lacksCourt.data.toList.drop 1 = sX6_lacksCourt_1 := dn1 hX6_lacksCourt_0
theorem dX6_lacksCourt_1 : decode cX6_lacksCourt 1 = .ok (.aload_n 0, 1) := dk42 hX6_lacksCourt_1
theorem hX6_lacksCourt_2 : cX6_lacksCourt.data.toList.drop 2 = sX6_lacksCourt_2 := dn1 hX6_lacksCourt_1
theorem dX6_lacksCourt_2 : decode cX6_lacksCourt 2 = .ok (.getfield 19, 3) := dk180 hX6_lacksCourt_2 rfl
theorem hX6_lacksCourt_5 : cX6_lacksCourt.data.toList.drop 5 = sX6_lacksCourt_5 := dn3 hX6_lacksCourt_2
theorem dX6_lacksCourt_5 : decode cX6_lacksCourt 5 = .ok (.getfield 103, 3) := dk180 hX6_lacksCourt_5 rfl
theorem hX6_lacksCourt_8 : cX6_lacksCourt.data.toList.drop 8 = sX6_lacksCourt_8 := dn3 hX6_lacksCourt_5
theorem dX6_lacksCourt_8 : decode cX6_lacksCourt 8 = .ok (.ifCond .le 7, 3) := dk158 hX6_lacksCourt_8 (by decide)
theorem hX6_lacksCourt_11 : cX6_lacksCourt.data.toList.drop 11 = sX6_lacksCourt_11 := dn3 hX6_lacksCourt_8
theorem dX6_lacksCourt_11 : decode cX6_lacksCourt 11 = .ok (.iconst 0, 1) := dk3 hX6_lacksCourt_11
theorem hX6_lacksCourt_12 : cX6_lacksCourt.data.toList.drop 12 = sX6_lacksCourt_12 := dn1 hX6_lacksCourt_11
theorem dX6_lacksCourt_12 : decode cX6_lacksCourt 12 = .ok (.goto 4, 3) := dk167 hX6_lacksCourt_12 (by decide)
theorem hX6_lacksCourt_15 : cX6_lacksCourt.data.toList.drop 15 = sX6_lacksCourt_15 := dn3 hX6_lacksCourt_12
theorem dX6_lacksCourt_15 : decode cX6_lacksCourt 15 = .ok (.iconst 1, 1) := dk4 hX6_lacksCourt_15
theorem hX6_lacksCourt_16 : cX6_lacksCourt.data.toList.drop 16 = sX6_lacksCourt_16 := dn1 hX6_lacksCourt_15
theorem dX6_lacksCourt_16 : decode cX6_lacksCourt 16 = .ok (.putfield 100, 3) := dk181 hX6_lacksCourt_16 rfl
theorem hX6_lacksCourt_19 : cX6_lacksCourt.data.toList.drop 19 = sX6_lacksCourt_19 := dn3 hX6_lacksCourt_16
theorem dX6_lacksCourt_19 : decode cX6_lacksCourt 19 = .ok (.aload_n 0, 1) := dk42 hX6_lacksCourt_19
theorem hX6_lacksCourt_20 : cX6_lacksCourt.data.toList.drop 20 = sX6_lacksCourt_20 := dn1 hX6_lacksCourt_19
theorem dX6_lacksCourt_20 : decode cX6_lacksCourt 20 = .ok (.getfield 100, 3) := dk180 hX6_lacksCourt_20 rfl
theorem hX6_lacksCourt_23 : cX6_lacksCourt.data.toList.drop 23 = sX6_lacksCourt_23 := dn3 hX6_lacksCourt_20
theorem dX6_lacksCourt_23 : decode cX6_lacksCourt 23 = .ok (.ifCond .eq 7, 3) := dk153 hX6_lacksCourt_23 (by decide)
theorem hX6_lacksCourt_26 : cX6_lacksCourt.data.toList.drop 26 = sX6_lacksCourt_26 := dn3 hX6_lacksCourt_23
theorem dX6_lacksCourt_26 : decode cX6_lacksCourt 26 = .ok (.iconst 1, 1) := dk4 hX6_lacksCourt_26
theorem hX6_lacksCourt_27 : cX6_lacksCourt.data.toList.drop 27 = sX6_lacksCourt_27 := dn1 hX6_lacksCourt_26
theorem dX6_lacksCourt_27 : decode cX6_lacksCourt 27 = .ok (.goto 4, 3) := dk167 hX6_lacksCourt_27 (by decide)
theorem hX6_lacksCourt_30 : cX6_lacksCourt.data.toList.drop 30 = sX6_lacksCourt_30 := dn3 hX6_lacksCourt_27
theorem dX6_lacksCourt_30 : decode cX6_lacksCourt 30 = .ok (.iconst 0, 1) := dk3 hX6_lacksCourt_30
theorem hX6_lacksCourt_31 : cX6_lacksCourt.data.toList.drop 31 = sX6_lacksCourt_31 := dn1 hX6_lacksCourt_30
theorem dX6_lacksCourt_31 : decode cX6_lacksCourt 31 = .ok (.ireturn, 1) := dk172 hX6_lacksCourt_31
noncomputable def sX6_lacksDraws_22 : List UInt8 := 172 :: []
noncomputable def sX6_lacksDraws_19 : List UInt8 := 182 :: 0 :: 203 :: sX6_lacksDraws_22
noncomputable def sX6_lacksDraws_17 : List UInt8 := 16 :: 60 :: sX6_lacksDraws_19
noncomputable def sX6_lacksDraws_16 : List UInt8 := 4 :: sX6_lacksDraws_17
noncomputable def sX6_lacksDraws_15 : List UInt8 := 28 :: sX6_lacksDraws_16
noncomputable def sX6_lacksDraws_14 : List UInt8 := 42 :: sX6_lacksDraws_15
noncomputable def sX6_lacksDraws_13 : List UInt8 := 172 :: sX6_lacksDraws_14
noncomputable def sX6_lacksDraws_12 : List UInt8 := 4 :: sX6_lacksDraws_13
noncomputable def sX6_lacksDraws_9 : List UInt8 := 153 :: 0 :: 5 :: sX6_lacksDraws_12
noncomputable def sX6_lacksDraws_6 : List UInt8 := 182 :: 0 :: 203 :: sX6_lacksDraws_9
noncomputable def sX6_lacksDraws_3 : List UInt8 := 19 :: 1 :: 84 :: sX6_lacksDraws_6
noncomputable def sX6_lacksDraws_2 : List UInt8 := 3 :: sX6_lacksDraws_3
noncomputable def sX6_lacksDraws_1 : List UInt8 := 27 :: sX6_lacksDraws_2
noncomputable def sX6_lacksDraws_0 : List UInt8 := 42 :: sX6_lacksDraws_1
set_option maxRecDepth 100000 in
theorem hX6_lacksDraws_0 : cX6_lacksDraws.data.toList.drop 0 = sX6_lacksDraws_0 := by decide +kernel
theorem dX6_lacksDraws_0 : decode cX6_lacksDraws 0 = .ok (.aload_n 0, 1) := dk42 hX6_lacksDraws_0
theorem hX6_lacksDraws_1 : cX6_lacksDraws.data.toList.drop 1 = sX6_lacksDraws_1 := dn1 hX6_lacksDraws_0
theorem dX6_lacksDraws_1 : decode cX6_lacksDraws 1 = .ok (.iload_n 1, 1) := dk27 hX6_lacksDraws_1
theorem hX6_lacksDraws_2 : cX6_lacksDraws.data.toList.drop 2 = sX6_lacksDraws_2 := dn1 hX6_lacksDraws_1
theorem dX6_lacksDraws_2 : decode cX6_lacksDraws 2 = .ok (.iconst 0, 1) := dk3 hX6_lacksDraws_2
theorem hX6_lacksDraws_3 : cX6_lacksDraws.data.toList.drop 3 = sX6_lacksDraws_3 := dn1 hX6_lacksDraws_2
theorem dX6_lacksDraws_3 : decode cX6_lacksDraws 3 = .ok (.ldc_w 340, 3) := dk19 hX6_lacksDraws_3 rfl
theorem hX6_lacksDraws_6 : cX6_lacksDraws.data.toList.drop 6 = sX6_lacksDraws_6 := dn3 hX6_lacksDraws_3
theorem dX6_lacksDraws_6 : decode cX6_lacksDraws 6 = .ok (.invokevirtual 203, 3) := dk182 hX6_lacksDraws_6 rfl
theorem hX6_lacksDraws_9 : cX6_lacksDraws.data.toList.drop 9 = sX6_lacksDraws_9 := dn3 hX6_lacksDraws_6
theorem dX6_lacksDraws_9 : decode cX6_lacksDraws 9 = .ok (.ifCond .eq 5, 3) := dk153 hX6_lacksDraws_9 (by decide)
theorem hX6_lacksDraws_12 : cX6_lacksDraws.data.toList.drop 12 = sX6_lacksDraws_12 := dn3 hX6_lacksDraws_9
theorem dX6_lacksDraws_12 : decode cX6_lacksDraws 12 = .ok (.iconst 1, 1) := dk4 hX6_lacksDraws_12
theorem hX6_lacksDraws_13 : cX6_lacksDraws.data.toList.drop 13 = sX6_lacksDraws_13 := dn1 hX6_lacksDraws_12
theorem dX6_lacksDraws_13 : decode cX6_lacksDraws 13 = .ok (.ireturn, 1) := dk172 hX6_lacksDraws_13
theorem hX6_lacksDraws_14 : cX6_lacksDraws.data.toList.drop 14 = sX6_lacksDraws_14 := dn1 hX6_lacksDraws_13
theorem dX6_lacksDraws_14 : decode cX6_lacksDraws 14 = .ok (.aload_n 0, 1) := dk42 hX6_lacksDraws_14
theorem hX6_lacksDraws_15 : cX6_lacksDraws.data.toList.drop 15 = sX6_lacksDraws_15 := dn1 hX6_lacksDraws_14
theorem dX6_lacksDraws_15 : decode cX6_lacksDraws 15 = .ok (.iload_n 2, 1) := dk28 hX6_lacksDraws_15
theorem hX6_lacksDraws_16 : cX6_lacksDraws.data.toList.drop 16 = sX6_lacksDraws_16 := dn1 hX6_lacksDraws_15
theorem dX6_lacksDraws_16 : decode cX6_lacksDraws 16 = .ok (.iconst 1, 1) := dk4 hX6_lacksDraws_16
theorem hX6_lacksDraws_17 : cX6_lacksDraws.data.toList.drop 17 = sX6_lacksDraws_17 := dn1 hX6_lacksDraws_16
theorem dX6_lacksDraws_17 : decode cX6_lacksDraws 17 = .ok (.bipush 60, 2) := dk16 hX6_lacksDraws_17 (by decide)
theorem hX6_lacksDraws_19 : cX6_lacksDraws.data.toList.drop 19 = sX6_lacksDraws_19 := dn2 hX6_lacksDraws_17
theorem dX6_lacksDraws_19 : decode cX6_lacksDraws 19 = .ok (.invokevirtual 203, 3) := dk182 hX6_lacksDraws_19 rfl
theorem hX6_lacksDraws_22 : cX6_lacksDraws.data.toList.drop 22 = sX6_lacksDraws_22 := dn3 hX6_lacksDraws_19
theorem dX6_lacksDraws_22 : decode cX6_lacksDraws 22 = .ok (.ireturn, 1) := dk172 hX6_lacksDraws_22
noncomputable def sX6_lacksNode_32 : List UInt8 := 172 :: []
noncomputable def sX6_lacksNode_31 : List UInt8 := 3 :: sX6_lacksNode_32
noncomputable def sX6_lacksNode_28 : List UInt8 := 167 :: 0 :: 4 :: sX6_lacksNode_31
noncomputable def sX6_lacksNode_27 : List UInt8 := 4 :: sX6_lacksNode_28
noncomputable def sX6_lacksNode_24 : List UInt8 := 153 :: 0 :: 7 :: sX6_lacksNode_27
noncomputable def sX6_lacksNode_21 : List UInt8 := 180 :: 0 :: 100 :: sX6_lacksNode_24
noncomputable def sX6_lacksNode_20 : List UInt8 := 42 :: sX6_lacksNode_21
noncomputable def sX6_lacksNode_17 : List UInt8 := 181 :: 0 :: 100 :: sX6_lacksNode_20
noncomputable def sX6_lacksNode_16 : List UInt8 := 4 :: sX6_lacksNode_17
noncomputable def sX6_lacksNode_13 : List UInt8 := 167 :: 0 :: 4 :: sX6_lacksNode_16
noncomputable def sX6_lacksNode_12 : List UInt8 := 3 :: sX6_lacksNode_13
noncomputable def sX6_lacksNode_9 : List UInt8 := 153 :: 0 :: 7 :: sX6_lacksNode_12
noncomputable def sX6_lacksNode_6 : List UInt8 := 182 :: 1 :: 117 :: sX6_lacksNode_9
noncomputable def sX6_lacksNode_5 : List UInt8 := 27 :: sX6_lacksNode_6
noncomputable def sX6_lacksNode_2 : List UInt8 := 180 :: 0 :: 19 :: sX6_lacksNode_5
noncomputable def sX6_lacksNode_1 : List UInt8 := 42 :: sX6_lacksNode_2
noncomputable def sX6_lacksNode_0 : List UInt8 := 42 :: sX6_lacksNode_1
set_option maxRecDepth 100000 in
theorem hX6_lacksNode_0 : cX6_lacksNode.data.toList.drop 0 = sX6_lacksNode_0 := by decide +kernel
theorem dX6_lacksNode_0 : decode cX6_lacksNode 0 = .ok (.aload_n 0, 1) := dk42 hX6_lacksNode_0
theorem hX6_lacksNode_1 : cX6_lacksNode.data.toList.drop 1 = sX6_lacksNode_1 := dn1 hX6_lacksNode_0
theorem dX6_lacksNode_1 : decode cX6_lacksNode 1 = .ok (.aload_n 0, 1) := dk42 hX6_lacksNode_1
theorem hX6_lacksNode_2 : cX6_lacksNode.data.toList.drop 2 = sX6_lacksNode_2 := dn1 hX6_lacksNode_1
theorem dX6_lacksNode_2 : decode cX6_lacksNode 2 = .ok (.getfield 19, 3) := dk180 hX6_lacksNode_2 rfl
theorem hX6_lacksNode_5 : cX6_lacksNode.data.toList.drop 5 = sX6_lacksNode_5 := dn3 hX6_lacksNode_2
theorem dX6_lacksNode_5 : decode cX6_lacksNode 5 = .ok (.iload_n 1, 1) := dk27 hX6_lacksNode_5
theorem hX6_lacksNode_6 : cX6_lacksNode.data.toList.drop 6 = sX6_lacksNode_6 := dn1 hX6_lacksNode_5
theorem dX6_lacksNode_6 : decode cX6_lacksNode 6 = .ok (.invokevirtual 373, 3) := dk182 hX6_lacksNode_6 rfl
theorem hX6_lacksNode_9 : cX6_lacksNode.data.toList.drop 9 = sX6_lacksNode_9 := dn3 hX6_lacksNode_6
theorem dX6_lacksNode_9 : decode cX6_lacksNode 9 = .ok (.ifCond .eq 7, 3) := dk153 hX6_lacksNode_9 (by decide)
theorem hX6_lacksNode_12 : cX6_lacksNode.data.toList.drop 12 = sX6_lacksNode_12 := dn3 hX6_lacksNode_9
theorem dX6_lacksNode_12 : decode cX6_lacksNode 12 = .ok (.iconst 0, 1) := dk3 hX6_lacksNode_12
theorem hX6_lacksNode_13 : cX6_lacksNode.data.toList.drop 13 = sX6_lacksNode_13 := dn1 hX6_lacksNode_12
theorem dX6_lacksNode_13 : decode cX6_lacksNode 13 = .ok (.goto 4, 3) := dk167 hX6_lacksNode_13 (by decide)
theorem hX6_lacksNode_16 : cX6_lacksNode.data.toList.drop 16 = sX6_lacksNode_16 := dn3 hX6_lacksNode_13
theorem dX6_lacksNode_16 : decode cX6_lacksNode 16 = .ok (.iconst 1, 1) := dk4 hX6_lacksNode_16
theorem hX6_lacksNode_17 : cX6_lacksNode.data.toList.drop 17 = sX6_lacksNode_17 := dn1 hX6_lacksNode_16
theorem dX6_lacksNode_17 : decode cX6_lacksNode 17 = .ok (.putfield 100, 3) := dk181 hX6_lacksNode_17 rfl
theorem hX6_lacksNode_20 : cX6_lacksNode.data.toList.drop 20 = sX6_lacksNode_20 := dn3 hX6_lacksNode_17
theorem dX6_lacksNode_20 : decode cX6_lacksNode 20 = .ok (.aload_n 0, 1) := dk42 hX6_lacksNode_20
theorem hX6_lacksNode_21 : cX6_lacksNode.data.toList.drop 21 = sX6_lacksNode_21 := dn1 hX6_lacksNode_20
theorem dX6_lacksNode_21 : decode cX6_lacksNode 21 = .ok (.getfield 100, 3) := dk180 hX6_lacksNode_21 rfl
theorem hX6_lacksNode_24 : cX6_lacksNode.data.toList.drop 24 = sX6_lacksNode_24 := dn3 hX6_lacksNode_21
theorem dX6_lacksNode_24 : decode cX6_lacksNode 24 = .ok (.ifCond .eq 7, 3) := dk153 hX6_lacksNode_24 (by decide)
theorem hX6_lacksNode_27 : cX6_lacksNode.data.toList.drop 27 = sX6_lacksNode_27 := dn3 hX6_lacksNode_24
theorem dX6_lacksNode_27 : decode cX6_lacksNode 27 = .ok (.iconst 1, 1) := dk4 hX6_lacksNode_27
theorem hX6_lacksNode_28 : cX6_lacksNode.data.toList.drop 28 = sX6_lacksNode_28 := dn1 hX6_lacksNode_27
theorem dX6_lacksNode_28 : decode cX6_lacksNode 28 = .ok (.goto 4, 3) := dk167 hX6_lacksNode_28 (by decide)
theorem hX6_lacksNode_31 : cX6_lacksNode.data.toList.drop 31 = sX6_lacksNode_31 := dn3 hX6_lacksNode_28
theorem dX6_lacksNode_31 : decode cX6_lacksNode 31 = .ok (.iconst 0, 1) := dk3 hX6_lacksNode_31
theorem hX6_lacksNode_32 : cX6_lacksNode.data.toList.drop 32 = sX6_lacksNode_32 := dn1 hX6_lacksNode_31
theorem dX6_lacksNode_32 : decode cX6_lacksNode 32 = .ok (.ireturn, 1) := dk172 hX6_lacksNode_32
noncomputable def sX6_lacksNumber_40 : List UInt8 := 172 :: []
noncomputable def sX6_lacksNumber_39 : List UInt8 := 3 :: sX6_lacksNumber_40
noncomputable def sX6_lacksNumber_36 : List UInt8 := 167 :: 0 :: 4 :: sX6_lacksNumber_39
noncomputable def sX6_lacksNumber_35 : List UInt8 := 4 :: sX6_lacksNumber_36
noncomputable def sX6_lacksNumber_32 : List UInt8 := 153 :: 0 :: 7 :: sX6_lacksNumber_35
noncomputable def sX6_lacksNumber_29 : List UInt8 := 180 :: 0 :: 100 :: sX6_lacksNumber_32
noncomputable def sX6_lacksNumber_28 : List UInt8 := 42 :: sX6_lacksNumber_29
noncomputable def sX6_lacksNumber_25 : List UInt8 := 181 :: 0 :: 100 :: sX6_lacksNumber_28
noncomputable def sX6_lacksNumber_24 : List UInt8 := 5 :: sX6_lacksNumber_25
noncomputable def sX6_lacksNumber_21 : List UInt8 := 167 :: 0 :: 4 :: sX6_lacksNumber_24
noncomputable def sX6_lacksNumber_20 : List UInt8 := 3 :: sX6_lacksNumber_21
noncomputable def sX6_lacksNumber_17 : List UInt8 := 163 :: 0 :: 7 :: sX6_lacksNumber_20
noncomputable def sX6_lacksNumber_16 : List UInt8 := 29 :: sX6_lacksNumber_17
noncomputable def sX6_lacksNumber_15 : List UInt8 := 27 :: sX6_lacksNumber_16
noncomputable def sX6_lacksNumber_12 : List UInt8 := 161 :: 0 :: 12 :: sX6_lacksNumber_15
noncomputable def sX6_lacksNumber_11 : List UInt8 := 28 :: sX6_lacksNumber_12
noncomputable def sX6_lacksNumber_10 : List UInt8 := 27 :: sX6_lacksNumber_11
noncomputable def sX6_lacksNumber_9 : List UInt8 := 42 :: sX6_lacksNumber_10
noncomputable def sX6_lacksNumber_8 : List UInt8 := 172 :: sX6_lacksNumber_9
noncomputable def sX6_lacksNumber_7 : List UInt8 := 4 :: sX6_lacksNumber_8
noncomputable def sX6_lacksNumber_4 : List UInt8 := 153 :: 0 :: 5 :: sX6_lacksNumber_7
noncomputable def sX6_lacksNumber_1 : List UInt8 := 182 :: 0 :: 140 :: sX6_lacksNumber_4
noncomputable def sX6_lacksNumber_0 : List UInt8 := 42 :: sX6_lacksNumber_1
set_option maxRecDepth 100000 in
theorem hX6_lacksNumber_0 : cX6_lacksNumber.data.toList.drop 0 = sX6_lacksNumber_0 := by decide +kernel
theorem dX6_lacksNumber_0 : decode cX6_lacksNumber 0 = .ok (.aload_n 0, 1) := dk42 hX6_lacksNumber_0
theorem hX6_lacksNumber_1 : cX6_lacksNumber.data.toList.drop 1 = sX6_lacksNumber_1 := dn1 hX6_lacksNumber_0
theorem dX6_lacksNumber_1 : decode cX6_lacksNumber 1 = .ok (.invokevirtual 140, 3) := dk182 hX6_lacksNumber_1 rfl
theorem hX6_lacksNumber_4 : cX6_lacksNumber.data.toList.drop 4 = sX6_lacksNumber_4 := dn3 hX6_lacksNumber_1
theorem dX6_lacksNumber_4 : decode cX6_lacksNumber 4 = .ok (.ifCond .eq 5, 3) := dk153 hX6_lacksNumber_4 (by decide)
theorem hX6_lacksNumber_7 : cX6_lacksNumber.data.toList.drop 7 = sX6_lacksNumber_7 := dn3 hX6_lacksNumber_4
theorem dX6_lacksNumber_7 : decode cX6_lacksNumber 7 = .ok (.iconst 1, 1) := dk4 hX6_lacksNumber_7
theorem hX6_lacksNumber_8 : cX6_lacksNumber.data.toList.drop 8 = sX6_lacksNumber_8 := dn1 hX6_lacksNumber_7
theorem dX6_lacksNumber_8 : decode cX6_lacksNumber 8 = .ok (.ireturn, 1) := dk172 hX6_lacksNumber_8
theorem hX6_lacksNumber_9 : cX6_lacksNumber.data.toList.drop 9 = sX6_lacksNumber_9 := dn1 hX6_lacksNumber_8
theorem dX6_lacksNumber_9 : decode cX6_lacksNumber 9 = .ok (.aload_n 0, 1) := dk42 hX6_lacksNumber_9
theorem hX6_lacksNumber_10 : cX6_lacksNumber.data.toList.drop 10 = sX6_lacksNumber_10 := dn1 hX6_lacksNumber_9
theorem dX6_lacksNumber_10 : decode cX6_lacksNumber 10 = .ok (.iload_n 1, 1) := dk27 hX6_lacksNumber_10
theorem hX6_lacksNumber_11 : cX6_lacksNumber.data.toList.drop 11 = sX6_lacksNumber_11 := dn1 hX6_lacksNumber_10
theorem dX6_lacksNumber_11 : decode cX6_lacksNumber 11 = .ok (.iload_n 2, 1) := dk28 hX6_lacksNumber_11
theorem hX6_lacksNumber_12 : cX6_lacksNumber.data.toList.drop 12 = sX6_lacksNumber_12 := dn1 hX6_lacksNumber_11
theorem dX6_lacksNumber_12 : decode cX6_lacksNumber 12 = .ok (.if_icmp .lt 12, 3) := dk161 hX6_lacksNumber_12 (by decide)
theorem hX6_lacksNumber_15 : cX6_lacksNumber.data.toList.drop 15 = sX6_lacksNumber_15 := dn3 hX6_lacksNumber_12
theorem dX6_lacksNumber_15 : decode cX6_lacksNumber 15 = .ok (.iload_n 1, 1) := dk27 hX6_lacksNumber_15
theorem hX6_lacksNumber_16 : cX6_lacksNumber.data.toList.drop 16 = sX6_lacksNumber_16 := dn1 hX6_lacksNumber_15
theorem dX6_lacksNumber_16 : decode cX6_lacksNumber 16 = .ok (.iload_n 3, 1) := dk29 hX6_lacksNumber_16
theorem hX6_lacksNumber_17 : cX6_lacksNumber.data.toList.drop 17 = sX6_lacksNumber_17 := dn1 hX6_lacksNumber_16
theorem dX6_lacksNumber_17 : decode cX6_lacksNumber 17 = .ok (.if_icmp .gt 7, 3) := dk163 hX6_lacksNumber_17 (by decide)
theorem hX6_lacksNumber_20 : cX6_lacksNumber.data.toList.drop 20 = sX6_lacksNumber_20 := dn3 hX6_lacksNumber_17
theorem dX6_lacksNumber_20 : decode cX6_lacksNumber 20 = .ok (.iconst 0, 1) := dk3 hX6_lacksNumber_20
theorem hX6_lacksNumber_21 : cX6_lacksNumber.data.toList.drop 21 = sX6_lacksNumber_21 := dn1 hX6_lacksNumber_20
theorem dX6_lacksNumber_21 : decode cX6_lacksNumber 21 = .ok (.goto 4, 3) := dk167 hX6_lacksNumber_21 (by decide)
theorem hX6_lacksNumber_24 : cX6_lacksNumber.data.toList.drop 24 = sX6_lacksNumber_24 := dn3 hX6_lacksNumber_21
theorem dX6_lacksNumber_24 : decode cX6_lacksNumber 24 = .ok (.iconst 2, 1) := dk5 hX6_lacksNumber_24
theorem hX6_lacksNumber_25 : cX6_lacksNumber.data.toList.drop 25 = sX6_lacksNumber_25 := dn1 hX6_lacksNumber_24
theorem dX6_lacksNumber_25 : decode cX6_lacksNumber 25 = .ok (.putfield 100, 3) := dk181 hX6_lacksNumber_25 rfl
theorem hX6_lacksNumber_28 : cX6_lacksNumber.data.toList.drop 28 = sX6_lacksNumber_28 := dn3 hX6_lacksNumber_25
theorem dX6_lacksNumber_28 : decode cX6_lacksNumber 28 = .ok (.aload_n 0, 1) := dk42 hX6_lacksNumber_28
theorem hX6_lacksNumber_29 : cX6_lacksNumber.data.toList.drop 29 = sX6_lacksNumber_29 := dn1 hX6_lacksNumber_28
theorem dX6_lacksNumber_29 : decode cX6_lacksNumber 29 = .ok (.getfield 100, 3) := dk180 hX6_lacksNumber_29 rfl
theorem hX6_lacksNumber_32 : cX6_lacksNumber.data.toList.drop 32 = sX6_lacksNumber_32 := dn3 hX6_lacksNumber_29
theorem dX6_lacksNumber_32 : decode cX6_lacksNumber 32 = .ok (.ifCond .eq 7, 3) := dk153 hX6_lacksNumber_32 (by decide)
theorem hX6_lacksNumber_35 : cX6_lacksNumber.data.toList.drop 35 = sX6_lacksNumber_35 := dn3 hX6_lacksNumber_32
theorem dX6_lacksNumber_35 : decode cX6_lacksNumber 35 = .ok (.iconst 1, 1) := dk4 hX6_lacksNumber_35
theorem hX6_lacksNumber_36 : cX6_lacksNumber.data.toList.drop 36 = sX6_lacksNumber_36 := dn1 hX6_lacksNumber_35
theorem dX6_lacksNumber_36 : decode cX6_lacksNumber 36 = .ok (.goto 4, 3) := dk167 hX6_lacksNumber_36 (by decide)
theorem hX6_lacksNumber_39 : cX6_lacksNumber.data.toList.drop 39 = sX6_lacksNumber_39 := dn3 hX6_lacksNumber_36
theorem dX6_lacksNumber_39 : decode cX6_lacksNumber 39 = .ok (.iconst 0, 1) := dk3 hX6_lacksNumber_39
theorem hX6_lacksNumber_40 : cX6_lacksNumber.data.toList.drop 40 = sX6_lacksNumber_40 := dn1 hX6_lacksNumber_39
theorem dX6_lacksNumber_40 : decode cX6_lacksNumber 40 = .ok (.ireturn, 1) := dk172 hX6_lacksNumber_40
noncomputable def sX6_lacksPart_49 : List UInt8 := 172 :: []
noncomputable def sX6_lacksPart_48 : List UInt8 := 3 :: sX6_lacksPart_49
noncomputable def sX6_lacksPart_45 : List UInt8 := 167 :: 0 :: 4 :: sX6_lacksPart_48
noncomputable def sX6_lacksPart_44 : List UInt8 := 4 :: sX6_lacksPart_45
noncomputable def sX6_lacksPart_41 : List UInt8 := 153 :: 0 :: 7 :: sX6_lacksPart_44
noncomputable def sX6_lacksPart_38 : List UInt8 := 180 :: 0 :: 100 :: sX6_lacksPart_41
noncomputable def sX6_lacksPart_37 : List UInt8 := 42 :: sX6_lacksPart_38
noncomputable def sX6_lacksPart_34 : List UInt8 := 181 :: 0 :: 100 :: sX6_lacksPart_37
noncomputable def sX6_lacksPart_33 : List UInt8 := 4 :: sX6_lacksPart_34
noncomputable def sX6_lacksPart_30 : List UInt8 := 167 :: 0 :: 4 :: sX6_lacksPart_33
noncomputable def sX6_lacksPart_29 : List UInt8 := 3 :: sX6_lacksPart_30
noncomputable def sX6_lacksPart_26 : List UInt8 := 162 :: 0 :: 7 :: sX6_lacksPart_29
noncomputable def sX6_lacksPart_25 : List UInt8 := 46 :: sX6_lacksPart_26
noncomputable def sX6_lacksPart_24 : List UInt8 := 27 :: sX6_lacksPart_25
noncomputable def sX6_lacksPart_21 : List UInt8 := 180 :: 0 :: 113 :: sX6_lacksPart_24
noncomputable def sX6_lacksPart_18 : List UInt8 := 180 :: 0 :: 19 :: sX6_lacksPart_21
noncomputable def sX6_lacksPart_17 : List UInt8 := 42 :: sX6_lacksPart_18
noncomputable def sX6_lacksPart_16 : List UInt8 := 28 :: sX6_lacksPart_17
noncomputable def sX6_lacksPart_13 : List UInt8 := 155 :: 0 :: 20 :: sX6_lacksPart_16
noncomputable def sX6_lacksPart_12 : List UInt8 := 28 :: sX6_lacksPart_13
noncomputable def sX6_lacksPart_9 : List UInt8 := 153 :: 0 :: 24 :: sX6_lacksPart_12
noncomputable def sX6_lacksPart_6 : List UInt8 := 182 :: 1 :: 117 :: sX6_lacksPart_9
noncomputable def sX6_lacksPart_5 : List UInt8 := 27 :: sX6_lacksPart_6
noncomputable def sX6_lacksPart_2 : List UInt8 := 180 :: 0 :: 19 :: sX6_lacksPart_5
noncomputable def sX6_lacksPart_1 : List UInt8 := 42 :: sX6_lacksPart_2
noncomputable def sX6_lacksPart_0 : List UInt8 := 42 :: sX6_lacksPart_1
set_option maxRecDepth 100000 in
theorem hX6_lacksPart_0 : cX6_lacksPart.data.toList.drop 0 = sX6_lacksPart_0 := by decide +kernel
theorem dX6_lacksPart_0 : decode cX6_lacksPart 0 = .ok (.aload_n 0, 1) := dk42 hX6_lacksPart_0
theorem hX6_lacksPart_1 : cX6_lacksPart.data.toList.drop 1 = sX6_lacksPart_1 := dn1 hX6_lacksPart_0
theorem dX6_lacksPart_1 : decode cX6_lacksPart 1 = .ok (.aload_n 0, 1) := dk42 hX6_lacksPart_1
theorem hX6_lacksPart_2 : cX6_lacksPart.data.toList.drop 2 = sX6_lacksPart_2 := dn1 hX6_lacksPart_1
theorem dX6_lacksPart_2 : decode cX6_lacksPart 2 = .ok (.getfield 19, 3) := dk180 hX6_lacksPart_2 rfl
theorem hX6_lacksPart_5 : cX6_lacksPart.data.toList.drop 5 = sX6_lacksPart_5 := dn3 hX6_lacksPart_2
theorem dX6_lacksPart_5 : decode cX6_lacksPart 5 = .ok (.iload_n 1, 1) := dk27 hX6_lacksPart_5
theorem hX6_lacksPart_6 : cX6_lacksPart.data.toList.drop 6 = sX6_lacksPart_6 := dn1 hX6_lacksPart_5
theorem dX6_lacksPart_6 : decode cX6_lacksPart 6 = .ok (.invokevirtual 373, 3) := dk182 hX6_lacksPart_6 rfl
theorem hX6_lacksPart_9 : cX6_lacksPart.data.toList.drop 9 = sX6_lacksPart_9 := dn3 hX6_lacksPart_6
theorem dX6_lacksPart_9 : decode cX6_lacksPart 9 = .ok (.ifCond .eq 24, 3) := dk153 hX6_lacksPart_9 (by decide)
theorem hX6_lacksPart_12 : cX6_lacksPart.data.toList.drop 12 = sX6_lacksPart_12 := dn3 hX6_lacksPart_9
theorem dX6_lacksPart_12 : decode cX6_lacksPart 12 = .ok (.iload_n 2, 1) := dk28 hX6_lacksPart_12
theorem hX6_lacksPart_13 : cX6_lacksPart.data.toList.drop 13 = sX6_lacksPart_13 := dn1 hX6_lacksPart_12
theorem dX6_lacksPart_13 : decode cX6_lacksPart 13 = .ok (.ifCond .lt 20, 3) := dk155 hX6_lacksPart_13 (by decide)
theorem hX6_lacksPart_16 : cX6_lacksPart.data.toList.drop 16 = sX6_lacksPart_16 := dn3 hX6_lacksPart_13
theorem dX6_lacksPart_16 : decode cX6_lacksPart 16 = .ok (.iload_n 2, 1) := dk28 hX6_lacksPart_16
theorem hX6_lacksPart_17 : cX6_lacksPart.data.toList.drop 17 = sX6_lacksPart_17 := dn1 hX6_lacksPart_16
theorem dX6_lacksPart_17 : decode cX6_lacksPart 17 = .ok (.aload_n 0, 1) := dk42 hX6_lacksPart_17
theorem hX6_lacksPart_18 : cX6_lacksPart.data.toList.drop 18 = sX6_lacksPart_18 := dn1 hX6_lacksPart_17
theorem dX6_lacksPart_18 : decode cX6_lacksPart 18 = .ok (.getfield 19, 3) := dk180 hX6_lacksPart_18 rfl
theorem hX6_lacksPart_21 : cX6_lacksPart.data.toList.drop 21 = sX6_lacksPart_21 := dn3 hX6_lacksPart_18
theorem dX6_lacksPart_21 : decode cX6_lacksPart 21 = .ok (.getfield 113, 3) := dk180 hX6_lacksPart_21 rfl
theorem hX6_lacksPart_24 : cX6_lacksPart.data.toList.drop 24 = sX6_lacksPart_24 := dn3 hX6_lacksPart_21
theorem dX6_lacksPart_24 : decode cX6_lacksPart 24 = .ok (.iload_n 1, 1) := dk27 hX6_lacksPart_24
theorem hX6_lacksPart_25 : cX6_lacksPart.data.toList.drop 25 = sX6_lacksPart_25 := dn1 hX6_lacksPart_24
theorem dX6_lacksPart_25 : decode cX6_lacksPart 25 = .ok (.iaload, 1) := dk46 hX6_lacksPart_25
theorem hX6_lacksPart_26 : cX6_lacksPart.data.toList.drop 26 = sX6_lacksPart_26 := dn1 hX6_lacksPart_25
theorem dX6_lacksPart_26 : decode cX6_lacksPart 26 = .ok (.if_icmp .ge 7, 3) := dk162 hX6_lacksPart_26 (by decide)
theorem hX6_lacksPart_29 : cX6_lacksPart.data.toList.drop 29 = sX6_lacksPart_29 := dn3 hX6_lacksPart_26
theorem dX6_lacksPart_29 : decode cX6_lacksPart 29 = .ok (.iconst 0, 1) := dk3 hX6_lacksPart_29
theorem hX6_lacksPart_30 : cX6_lacksPart.data.toList.drop 30 = sX6_lacksPart_30 := dn1 hX6_lacksPart_29
theorem dX6_lacksPart_30 : decode cX6_lacksPart 30 = .ok (.goto 4, 3) := dk167 hX6_lacksPart_30 (by decide)
theorem hX6_lacksPart_33 : cX6_lacksPart.data.toList.drop 33 = sX6_lacksPart_33 := dn3 hX6_lacksPart_30
theorem dX6_lacksPart_33 : decode cX6_lacksPart 33 = .ok (.iconst 1, 1) := dk4 hX6_lacksPart_33
theorem hX6_lacksPart_34 : cX6_lacksPart.data.toList.drop 34 = sX6_lacksPart_34 := dn1 hX6_lacksPart_33
theorem dX6_lacksPart_34 : decode cX6_lacksPart 34 = .ok (.putfield 100, 3) := dk181 hX6_lacksPart_34 rfl
theorem hX6_lacksPart_37 : cX6_lacksPart.data.toList.drop 37 = sX6_lacksPart_37 := dn3 hX6_lacksPart_34
theorem dX6_lacksPart_37 : decode cX6_lacksPart 37 = .ok (.aload_n 0, 1) := dk42 hX6_lacksPart_37
theorem hX6_lacksPart_38 : cX6_lacksPart.data.toList.drop 38 = sX6_lacksPart_38 := dn1 hX6_lacksPart_37
theorem dX6_lacksPart_38 : decode cX6_lacksPart 38 = .ok (.getfield 100, 3) := dk180 hX6_lacksPart_38 rfl
theorem hX6_lacksPart_41 : cX6_lacksPart.data.toList.drop 41 = sX6_lacksPart_41 := dn3 hX6_lacksPart_38
theorem dX6_lacksPart_41 : decode cX6_lacksPart 41 = .ok (.ifCond .eq 7, 3) := dk153 hX6_lacksPart_41 (by decide)
theorem hX6_lacksPart_44 : cX6_lacksPart.data.toList.drop 44 = sX6_lacksPart_44 := dn3 hX6_lacksPart_41
theorem dX6_lacksPart_44 : decode cX6_lacksPart 44 = .ok (.iconst 1, 1) := dk4 hX6_lacksPart_44
theorem hX6_lacksPart_45 : cX6_lacksPart.data.toList.drop 45 = sX6_lacksPart_45 := dn1 hX6_lacksPart_44
theorem dX6_lacksPart_45 : decode cX6_lacksPart 45 = .ok (.goto 4, 3) := dk167 hX6_lacksPart_45 (by decide)
theorem hX6_lacksPart_48 : cX6_lacksPart.data.toList.drop 48 = sX6_lacksPart_48 := dn3 hX6_lacksPart_45
theorem dX6_lacksPart_48 : decode cX6_lacksPart 48 = .ok (.iconst 0, 1) := dk3 hX6_lacksPart_48
theorem hX6_lacksPart_49 : cX6_lacksPart.data.toList.drop 49 = sX6_lacksPart_49 := dn1 hX6_lacksPart_48
theorem dX6_lacksPart_49 : decode cX6_lacksPart 49 = .ok (.ireturn, 1) := dk172 hX6_lacksPart_49
noncomputable def sX6_lacksWord_32 : List UInt8 := 172 :: []
noncomputable def sX6_lacksWord_31 : List UInt8 := 3 :: sX6_lacksWord_32
noncomputable def sX6_lacksWord_28 : List UInt8 := 167 :: 0 :: 4 :: sX6_lacksWord_31
noncomputable def sX6_lacksWord_27 : List UInt8 := 4 :: sX6_lacksWord_28
noncomputable def sX6_lacksWord_24 : List UInt8 := 153 :: 0 :: 7 :: sX6_lacksWord_27
noncomputable def sX6_lacksWord_21 : List UInt8 := 180 :: 0 :: 100 :: sX6_lacksWord_24
noncomputable def sX6_lacksWord_20 : List UInt8 := 42 :: sX6_lacksWord_21
noncomputable def sX6_lacksWord_17 : List UInt8 := 181 :: 0 :: 100 :: sX6_lacksWord_20
noncomputable def sX6_lacksWord_16 : List UInt8 := 4 :: sX6_lacksWord_17
noncomputable def sX6_lacksWord_13 : List UInt8 := 167 :: 0 :: 4 :: sX6_lacksWord_16
noncomputable def sX6_lacksWord_12 : List UInt8 := 3 :: sX6_lacksWord_13
noncomputable def sX6_lacksWord_9 : List UInt8 := 153 :: 0 :: 7 :: sX6_lacksWord_12
noncomputable def sX6_lacksWord_6 : List UInt8 := 182 :: 1 :: 120 :: sX6_lacksWord_9
noncomputable def sX6_lacksWord_5 : List UInt8 := 27 :: sX6_lacksWord_6
noncomputable def sX6_lacksWord_2 : List UInt8 := 180 :: 0 :: 19 :: sX6_lacksWord_5
noncomputable def sX6_lacksWord_1 : List UInt8 := 42 :: sX6_lacksWord_2
noncomputable def sX6_lacksWord_0 : List UInt8 := 42 :: sX6_lacksWord_1
set_option maxRecDepth 100000 in
theorem hX6_lacksWord_0 : cX6_lacksWord.data.toList.drop 0 = sX6_lacksWord_0 := by decide +kernel
theorem dX6_lacksWord_0 : decode cX6_lacksWord 0 = .ok (.aload_n 0, 1) := dk42 hX6_lacksWord_0
theorem hX6_lacksWord_1 : cX6_lacksWord.data.toList.drop 1 = sX6_lacksWord_1 := dn1 hX6_lacksWord_0
theorem dX6_lacksWord_1 : decode cX6_lacksWord 1 = .ok (.aload_n 0, 1) := dk42 hX6_lacksWord_1
theorem hX6_lacksWord_2 : cX6_lacksWord.data.toList.drop 2 = sX6_lacksWord_2 := dn1 hX6_lacksWord_1
theorem dX6_lacksWord_2 : decode cX6_lacksWord 2 = .ok (.getfield 19, 3) := dk180 hX6_lacksWord_2 rfl
theorem hX6_lacksWord_5 : cX6_lacksWord.data.toList.drop 5 = sX6_lacksWord_5 := dn3 hX6_lacksWord_2
theorem dX6_lacksWord_5 : decode cX6_lacksWord 5 = .ok (.iload_n 1, 1) := dk27 hX6_lacksWord_5
theorem hX6_lacksWord_6 : cX6_lacksWord.data.toList.drop 6 = sX6_lacksWord_6 := dn1 hX6_lacksWord_5
theorem dX6_lacksWord_6 : decode cX6_lacksWord 6 = .ok (.invokevirtual 376, 3) := dk182 hX6_lacksWord_6 rfl
theorem hX6_lacksWord_9 : cX6_lacksWord.data.toList.drop 9 = sX6_lacksWord_9 := dn3 hX6_lacksWord_6
theorem dX6_lacksWord_9 : decode cX6_lacksWord 9 = .ok (.ifCond .eq 7, 3) := dk153 hX6_lacksWord_9 (by decide)
theorem hX6_lacksWord_12 : cX6_lacksWord.data.toList.drop 12 = sX6_lacksWord_12 := dn3 hX6_lacksWord_9
theorem dX6_lacksWord_12 : decode cX6_lacksWord 12 = .ok (.iconst 0, 1) := dk3 hX6_lacksWord_12
theorem hX6_lacksWord_13 : cX6_lacksWord.data.toList.drop 13 = sX6_lacksWord_13 := dn1 hX6_lacksWord_12
theorem dX6_lacksWord_13 : decode cX6_lacksWord 13 = .ok (.goto 4, 3) := dk167 hX6_lacksWord_13 (by decide)
theorem hX6_lacksWord_16 : cX6_lacksWord.data.toList.drop 16 = sX6_lacksWord_16 := dn3 hX6_lacksWord_13
theorem dX6_lacksWord_16 : decode cX6_lacksWord 16 = .ok (.iconst 1, 1) := dk4 hX6_lacksWord_16
theorem hX6_lacksWord_17 : cX6_lacksWord.data.toList.drop 17 = sX6_lacksWord_17 := dn1 hX6_lacksWord_16
theorem dX6_lacksWord_17 : decode cX6_lacksWord 17 = .ok (.putfield 100, 3) := dk181 hX6_lacksWord_17 rfl
theorem hX6_lacksWord_20 : cX6_lacksWord.data.toList.drop 20 = sX6_lacksWord_20 := dn3 hX6_lacksWord_17
theorem dX6_lacksWord_20 : decode cX6_lacksWord 20 = .ok (.aload_n 0, 1) := dk42 hX6_lacksWord_20
theorem hX6_lacksWord_21 : cX6_lacksWord.data.toList.drop 21 = sX6_lacksWord_21 := dn1 hX6_lacksWord_20
theorem dX6_lacksWord_21 : decode cX6_lacksWord 21 = .ok (.getfield 100, 3) := dk180 hX6_lacksWord_21 rfl
theorem hX6_lacksWord_24 : cX6_lacksWord.data.toList.drop 24 = sX6_lacksWord_24 := dn3 hX6_lacksWord_21
theorem dX6_lacksWord_24 : decode cX6_lacksWord 24 = .ok (.ifCond .eq 7, 3) := dk153 hX6_lacksWord_24 (by decide)
theorem hX6_lacksWord_27 : cX6_lacksWord.data.toList.drop 27 = sX6_lacksWord_27 := dn3 hX6_lacksWord_24
theorem dX6_lacksWord_27 : decode cX6_lacksWord 27 = .ok (.iconst 1, 1) := dk4 hX6_lacksWord_27
theorem hX6_lacksWord_28 : cX6_lacksWord.data.toList.drop 28 = sX6_lacksWord_28 := dn1 hX6_lacksWord_27
theorem dX6_lacksWord_28 : decode cX6_lacksWord 28 = .ok (.goto 4, 3) := dk167 hX6_lacksWord_28 (by decide)
theorem hX6_lacksWord_31 : cX6_lacksWord.data.toList.drop 31 = sX6_lacksWord_31 := dn3 hX6_lacksWord_28
theorem dX6_lacksWord_31 : decode cX6_lacksWord 31 = .ok (.iconst 0, 1) := dk3 hX6_lacksWord_31
theorem hX6_lacksWord_32 : cX6_lacksWord.data.toList.drop 32 = sX6_lacksWord_32 := dn1 hX6_lacksWord_31
theorem dX6_lacksWord_32 : decode cX6_lacksWord 32 = .ok (.ireturn, 1) := dk172 hX6_lacksWord_32
noncomputable def sX6_leastTurn_79 : List UInt8 := 172 :: []
noncomputable def sX6_leastTurn_76 : List UInt8 := 184 :: 0 :: 255 :: sX6_leastTurn_79
noncomputable def sX6_leastTurn_74 : List UInt8 := 21 :: 4 :: sX6_leastTurn_76
noncomputable def sX6_leastTurn_73 : List UInt8 := 29 :: sX6_leastTurn_74
noncomputable def sX6_leastTurn_72 : List UInt8 := 172 :: sX6_leastTurn_73
noncomputable def sX6_leastTurn_69 : List UInt8 := 184 :: 1 :: 25 :: sX6_leastTurn_72
noncomputable def sX6_leastTurn_67 : List UInt8 := 21 :: 4 :: sX6_leastTurn_69
noncomputable def sX6_leastTurn_66 : List UInt8 := 29 :: sX6_leastTurn_67
noncomputable def sX6_leastTurn_63 : List UInt8 := 156 :: 0 :: 10 :: sX6_leastTurn_66
noncomputable def sX6_leastTurn_61 : List UInt8 := 21 :: 4 :: sX6_leastTurn_63
noncomputable def sX6_leastTurn_58 : List UInt8 := 155 :: 0 :: 8 :: sX6_leastTurn_61
noncomputable def sX6_leastTurn_57 : List UInt8 := 29 :: sX6_leastTurn_58
noncomputable def sX6_leastTurn_55 : List UInt8 := 54 :: 4 :: sX6_leastTurn_57
noncomputable def sX6_leastTurn_52 : List UInt8 := 182 :: 1 :: 21 :: sX6_leastTurn_55
noncomputable def sX6_leastTurn_51 : List UInt8 := 28 :: sX6_leastTurn_52
noncomputable def sX6_leastTurn_50 : List UInt8 := 46 :: sX6_leastTurn_51
noncomputable def sX6_leastTurn_49 : List UInt8 := 27 :: sX6_leastTurn_50
noncomputable def sX6_leastTurn_46 : List UInt8 := 180 :: 0 :: 149 :: sX6_leastTurn_49
noncomputable def sX6_leastTurn_43 : List UInt8 := 180 :: 0 :: 26 :: sX6_leastTurn_46
noncomputable def sX6_leastTurn_42 : List UInt8 := 42 :: sX6_leastTurn_43
noncomputable def sX6_leastTurn_41 : List UInt8 := 2 :: sX6_leastTurn_42
noncomputable def sX6_leastTurn_40 : List UInt8 := 27 :: sX6_leastTurn_41
noncomputable def sX6_leastTurn_39 : List UInt8 := 42 :: sX6_leastTurn_40
noncomputable def sX6_leastTurn_38 : List UInt8 := 62 :: sX6_leastTurn_39
noncomputable def sX6_leastTurn_35 : List UInt8 := 182 :: 1 :: 21 :: sX6_leastTurn_38
noncomputable def sX6_leastTurn_34 : List UInt8 := 28 :: sX6_leastTurn_35
noncomputable def sX6_leastTurn_33 : List UInt8 := 100 :: sX6_leastTurn_34
noncomputable def sX6_leastTurn_32 : List UInt8 := 46 :: sX6_leastTurn_33
noncomputable def sX6_leastTurn_31 : List UInt8 := 27 :: sX6_leastTurn_32
noncomputable def sX6_leastTurn_28 : List UInt8 := 180 :: 0 :: 149 :: sX6_leastTurn_31
noncomputable def sX6_leastTurn_25 : List UInt8 := 180 :: 0 :: 26 :: sX6_leastTurn_28
noncomputable def sX6_leastTurn_24 : List UInt8 := 42 :: sX6_leastTurn_25
noncomputable def sX6_leastTurn_22 : List UInt8 := 16 :: 99 :: sX6_leastTurn_24
noncomputable def sX6_leastTurn_21 : List UInt8 := 4 :: sX6_leastTurn_22
noncomputable def sX6_leastTurn_20 : List UInt8 := 27 :: sX6_leastTurn_21
noncomputable def sX6_leastTurn_19 : List UInt8 := 42 :: sX6_leastTurn_20
noncomputable def sX6_leastTurn_18 : List UInt8 := 61 :: sX6_leastTurn_19
noncomputable def sX6_leastTurn_15 : List UInt8 := 182 :: 0 :: 152 :: sX6_leastTurn_18
noncomputable def sX6_leastTurn_12 : List UInt8 := 180 :: 0 :: 149 :: sX6_leastTurn_15
noncomputable def sX6_leastTurn_9 : List UInt8 := 180 :: 0 :: 26 :: sX6_leastTurn_12
noncomputable def sX6_leastTurn_8 : List UInt8 := 42 :: sX6_leastTurn_9
noncomputable def sX6_leastTurn_5 : List UInt8 := 180 :: 0 :: 19 :: sX6_leastTurn_8
noncomputable def sX6_leastTurn_4 : List UInt8 := 42 :: sX6_leastTurn_5
noncomputable def sX6_leastTurn_1 : List UInt8 := 180 :: 0 :: 54 :: sX6_leastTurn_4
noncomputable def sX6_leastTurn_0 : List UInt8 := 42 :: sX6_leastTurn_1
set_option maxRecDepth 100000 in
theorem hX6_leastTurn_0 : cX6_leastTurn.data.toList.drop 0 = sX6_leastTurn_0 := by decide +kernel
theorem dX6_leastTurn_0 : decode cX6_leastTurn 0 = .ok (.aload_n 0, 1) := dk42 hX6_leastTurn_0
theorem hX6_leastTurn_1 : cX6_leastTurn.data.toList.drop 1 = sX6_leastTurn_1 := dn1 hX6_leastTurn_0
theorem dX6_leastTurn_1 : decode cX6_leastTurn 1 = .ok (.getfield 54, 3) := dk180 hX6_leastTurn_1 rfl
theorem hX6_leastTurn_4 : cX6_leastTurn.data.toList.drop 4 = sX6_leastTurn_4 := dn3 hX6_leastTurn_1
theorem dX6_leastTurn_4 : decode cX6_leastTurn 4 = .ok (.aload_n 0, 1) := dk42 hX6_leastTurn_4
theorem hX6_leastTurn_5 : cX6_leastTurn.data.toList.drop 5 = sX6_leastTurn_5 := dn1 hX6_leastTurn_4
theorem dX6_leastTurn_5 : decode cX6_leastTurn 5 = .ok (.getfield 19, 3) := dk180 hX6_leastTurn_5 rfl
theorem hX6_leastTurn_8 : cX6_leastTurn.data.toList.drop 8 = sX6_leastTurn_8 := dn3 hX6_leastTurn_5
theorem dX6_leastTurn_8 : decode cX6_leastTurn 8 = .ok (.aload_n 0, 1) := dk42 hX6_leastTurn_8
theorem hX6_leastTurn_9 : cX6_leastTurn.data.toList.drop 9 = sX6_leastTurn_9 := dn1 hX6_leastTurn_8
theorem dX6_leastTurn_9 : decode cX6_leastTurn 9 = .ok (.getfield 26, 3) := dk180 hX6_leastTurn_9 rfl
theorem hX6_leastTurn_12 : cX6_leastTurn.data.toList.drop 12 = sX6_leastTurn_12 := dn3 hX6_leastTurn_9
theorem dX6_leastTurn_12 : decode cX6_leastTurn 12 = .ok (.getfield 149, 3) := dk180 hX6_leastTurn_12 rfl
theorem hX6_leastTurn_15 : cX6_leastTurn.data.toList.drop 15 = sX6_leastTurn_15 := dn3 hX6_leastTurn_12
theorem dX6_leastTurn_15 : decode cX6_leastTurn 15 = .ok (.invokevirtual 152, 3) := dk182 hX6_leastTurn_15 rfl
theorem hX6_leastTurn_18 : cX6_leastTurn.data.toList.drop 18 = sX6_leastTurn_18 := dn3 hX6_leastTurn_15
theorem dX6_leastTurn_18 : decode cX6_leastTurn 18 = .ok (.istore_n 2, 1) := dk61 hX6_leastTurn_18
theorem hX6_leastTurn_19 : cX6_leastTurn.data.toList.drop 19 = sX6_leastTurn_19 := dn1 hX6_leastTurn_18
theorem dX6_leastTurn_19 : decode cX6_leastTurn 19 = .ok (.aload_n 0, 1) := dk42 hX6_leastTurn_19
theorem hX6_leastTurn_20 : cX6_leastTurn.data.toList.drop 20 = sX6_leastTurn_20 := dn1 hX6_leastTurn_19
theorem dX6_leastTurn_20 : decode cX6_leastTurn 20 = .ok (.iload_n 1, 1) := dk27 hX6_leastTurn_20
theorem hX6_leastTurn_21 : cX6_leastTurn.data.toList.drop 21 = sX6_leastTurn_21 := dn1 hX6_leastTurn_20
theorem dX6_leastTurn_21 : decode cX6_leastTurn 21 = .ok (.iconst 1, 1) := dk4 hX6_leastTurn_21
theorem hX6_leastTurn_22 : cX6_leastTurn.data.toList.drop 22 = sX6_leastTurn_22 := dn1 hX6_leastTurn_21
theorem dX6_leastTurn_22 : decode cX6_leastTurn 22 = .ok (.bipush 99, 2) := dk16 hX6_leastTurn_22 (by decide)
theorem hX6_leastTurn_24 : cX6_leastTurn.data.toList.drop 24 = sX6_leastTurn_24 := dn2 hX6_leastTurn_22
theorem dX6_leastTurn_24 : decode cX6_leastTurn 24 = .ok (.aload_n 0, 1) := dk42 hX6_leastTurn_24
theorem hX6_leastTurn_25 : cX6_leastTurn.data.toList.drop 25 = sX6_leastTurn_25 := dn1 hX6_leastTurn_24
theorem dX6_leastTurn_25 : decode cX6_leastTurn 25 = .ok (.getfield 26, 3) := dk180 hX6_leastTurn_25 rfl
theorem hX6_leastTurn_28 : cX6_leastTurn.data.toList.drop 28 = sX6_leastTurn_28 := dn3 hX6_leastTurn_25
theorem dX6_leastTurn_28 : decode cX6_leastTurn 28 = .ok (.getfield 149, 3) := dk180 hX6_leastTurn_28 rfl
theorem hX6_leastTurn_31 : cX6_leastTurn.data.toList.drop 31 = sX6_leastTurn_31 := dn3 hX6_leastTurn_28
theorem dX6_leastTurn_31 : decode cX6_leastTurn 31 = .ok (.iload_n 1, 1) := dk27 hX6_leastTurn_31
theorem hX6_leastTurn_32 : cX6_leastTurn.data.toList.drop 32 = sX6_leastTurn_32 := dn1 hX6_leastTurn_31
theorem dX6_leastTurn_32 : decode cX6_leastTurn 32 = .ok (.iaload, 1) := dk46 hX6_leastTurn_32
theorem hX6_leastTurn_33 : cX6_leastTurn.data.toList.drop 33 = sX6_leastTurn_33 := dn1 hX6_leastTurn_32
theorem dX6_leastTurn_33 : decode cX6_leastTurn 33 = .ok (.isub, 1) := dk100 hX6_leastTurn_33
theorem hX6_leastTurn_34 : cX6_leastTurn.data.toList.drop 34 = sX6_leastTurn_34 := dn1 hX6_leastTurn_33
theorem dX6_leastTurn_34 : decode cX6_leastTurn 34 = .ok (.iload_n 2, 1) := dk28 hX6_leastTurn_34
theorem hX6_leastTurn_35 : cX6_leastTurn.data.toList.drop 35 = sX6_leastTurn_35 := dn1 hX6_leastTurn_34
theorem dX6_leastTurn_35 : decode cX6_leastTurn 35 = .ok (.invokevirtual 277, 3) := dk182 hX6_leastTurn_35 rfl
theorem hX6_leastTurn_38 : cX6_leastTurn.data.toList.drop 38 = sX6_leastTurn_38 := dn3 hX6_leastTurn_35
theorem dX6_leastTurn_38 : decode cX6_leastTurn 38 = .ok (.istore_n 3, 1) := dk62 hX6_leastTurn_38
theorem hX6_leastTurn_39 : cX6_leastTurn.data.toList.drop 39 = sX6_leastTurn_39 := dn1 hX6_leastTurn_38
theorem dX6_leastTurn_39 : decode cX6_leastTurn 39 = .ok (.aload_n 0, 1) := dk42 hX6_leastTurn_39
theorem hX6_leastTurn_40 : cX6_leastTurn.data.toList.drop 40 = sX6_leastTurn_40 := dn1 hX6_leastTurn_39
theorem dX6_leastTurn_40 : decode cX6_leastTurn 40 = .ok (.iload_n 1, 1) := dk27 hX6_leastTurn_40
theorem hX6_leastTurn_41 : cX6_leastTurn.data.toList.drop 41 = sX6_leastTurn_41 := dn1 hX6_leastTurn_40
theorem dX6_leastTurn_41 : decode cX6_leastTurn 41 = .ok (.iconst (-1), 1) := dk2 hX6_leastTurn_41
theorem hX6_leastTurn_42 : cX6_leastTurn.data.toList.drop 42 = sX6_leastTurn_42 := dn1 hX6_leastTurn_41
theorem dX6_leastTurn_42 : decode cX6_leastTurn 42 = .ok (.aload_n 0, 1) := dk42 hX6_leastTurn_42
theorem hX6_leastTurn_43 : cX6_leastTurn.data.toList.drop 43 = sX6_leastTurn_43 := dn1 hX6_leastTurn_42
theorem dX6_leastTurn_43 : decode cX6_leastTurn 43 = .ok (.getfield 26, 3) := dk180 hX6_leastTurn_43 rfl
theorem hX6_leastTurn_46 : cX6_leastTurn.data.toList.drop 46 = sX6_leastTurn_46 := dn3 hX6_leastTurn_43
theorem dX6_leastTurn_46 : decode cX6_leastTurn 46 = .ok (.getfield 149, 3) := dk180 hX6_leastTurn_46 rfl
theorem hX6_leastTurn_49 : cX6_leastTurn.data.toList.drop 49 = sX6_leastTurn_49 := dn3 hX6_leastTurn_46
theorem dX6_leastTurn_49 : decode cX6_leastTurn 49 = .ok (.iload_n 1, 1) := dk27 hX6_leastTurn_49
theorem hX6_leastTurn_50 : cX6_leastTurn.data.toList.drop 50 = sX6_leastTurn_50 := dn1 hX6_leastTurn_49
theorem dX6_leastTurn_50 : decode cX6_leastTurn 50 = .ok (.iaload, 1) := dk46 hX6_leastTurn_50
theorem hX6_leastTurn_51 : cX6_leastTurn.data.toList.drop 51 = sX6_leastTurn_51 := dn1 hX6_leastTurn_50
theorem dX6_leastTurn_51 : decode cX6_leastTurn 51 = .ok (.iload_n 2, 1) := dk28 hX6_leastTurn_51
theorem hX6_leastTurn_52 : cX6_leastTurn.data.toList.drop 52 = sX6_leastTurn_52 := dn1 hX6_leastTurn_51
theorem dX6_leastTurn_52 : decode cX6_leastTurn 52 = .ok (.invokevirtual 277, 3) := dk182 hX6_leastTurn_52 rfl
theorem hX6_leastTurn_55 : cX6_leastTurn.data.toList.drop 55 = sX6_leastTurn_55 := dn3 hX6_leastTurn_52
theorem dX6_leastTurn_55 : decode cX6_leastTurn 55 = .ok (.istore 4, 2) := dk54 hX6_leastTurn_55 rfl
theorem hX6_leastTurn_57 : cX6_leastTurn.data.toList.drop 57 = sX6_leastTurn_57 := dn2 hX6_leastTurn_55
theorem dX6_leastTurn_57 : decode cX6_leastTurn 57 = .ok (.iload_n 3, 1) := dk29 hX6_leastTurn_57
theorem hX6_leastTurn_58 : cX6_leastTurn.data.toList.drop 58 = sX6_leastTurn_58 := dn1 hX6_leastTurn_57
theorem dX6_leastTurn_58 : decode cX6_leastTurn 58 = .ok (.ifCond .lt 8, 3) := dk155 hX6_leastTurn_58 (by decide)
theorem hX6_leastTurn_61 : cX6_leastTurn.data.toList.drop 61 = sX6_leastTurn_61 := dn3 hX6_leastTurn_58
theorem dX6_leastTurn_61 : decode cX6_leastTurn 61 = .ok (.iload 4, 2) := dk21 hX6_leastTurn_61 rfl
theorem hX6_leastTurn_63 : cX6_leastTurn.data.toList.drop 63 = sX6_leastTurn_63 := dn2 hX6_leastTurn_61
theorem dX6_leastTurn_63 : decode cX6_leastTurn 63 = .ok (.ifCond .ge 10, 3) := dk156 hX6_leastTurn_63 (by decide)
theorem hX6_leastTurn_66 : cX6_leastTurn.data.toList.drop 66 = sX6_leastTurn_66 := dn3 hX6_leastTurn_63
theorem dX6_leastTurn_66 : decode cX6_leastTurn 66 = .ok (.iload_n 3, 1) := dk29 hX6_leastTurn_66
theorem hX6_leastTurn_67 : cX6_leastTurn.data.toList.drop 67 = sX6_leastTurn_67 := dn1 hX6_leastTurn_66
theorem dX6_leastTurn_67 : decode cX6_leastTurn 67 = .ok (.iload 4, 2) := dk21 hX6_leastTurn_67 rfl
theorem hX6_leastTurn_69 : cX6_leastTurn.data.toList.drop 69 = sX6_leastTurn_69 := dn2 hX6_leastTurn_67
theorem dX6_leastTurn_69 : decode cX6_leastTurn 69 = .ok (.invokestatic 281, 3) := dk184 hX6_leastTurn_69 rfl
theorem hX6_leastTurn_72 : cX6_leastTurn.data.toList.drop 72 = sX6_leastTurn_72 := dn3 hX6_leastTurn_69
theorem dX6_leastTurn_72 : decode cX6_leastTurn 72 = .ok (.ireturn, 1) := dk172 hX6_leastTurn_72
theorem hX6_leastTurn_73 : cX6_leastTurn.data.toList.drop 73 = sX6_leastTurn_73 := dn1 hX6_leastTurn_72
theorem dX6_leastTurn_73 : decode cX6_leastTurn 73 = .ok (.iload_n 3, 1) := dk29 hX6_leastTurn_73
theorem hX6_leastTurn_74 : cX6_leastTurn.data.toList.drop 74 = sX6_leastTurn_74 := dn1 hX6_leastTurn_73
theorem dX6_leastTurn_74 : decode cX6_leastTurn 74 = .ok (.iload 4, 2) := dk21 hX6_leastTurn_74 rfl
theorem hX6_leastTurn_76 : cX6_leastTurn.data.toList.drop 76 = sX6_leastTurn_76 := dn2 hX6_leastTurn_74
theorem dX6_leastTurn_76 : decode cX6_leastTurn 76 = .ok (.invokestatic 255, 3) := dk184 hX6_leastTurn_76 rfl
theorem hX6_leastTurn_79 : cX6_leastTurn.data.toList.drop 79 = sX6_leastTurn_79 := dn3 hX6_leastTurn_76
theorem dX6_leastTurn_79 : decode cX6_leastTurn 79 = .ok (.ireturn, 1) := dk172 hX6_leastTurn_79
noncomputable def sX6_leastTurnTowards_125 : List UInt8 := 172 :: []
noncomputable def sX6_leastTurnTowards_123 : List UInt8 := 21 :: 6 :: sX6_leastTurnTowards_125
noncomputable def sX6_leastTurnTowards_120 : List UInt8 := 167 :: 255 :: 182 :: sX6_leastTurnTowards_123
noncomputable def sX6_leastTurnTowards_117 : List UInt8 := 132 :: 7 :: 1 :: sX6_leastTurnTowards_120
noncomputable def sX6_leastTurnTowards_115 : List UInt8 := 54 :: 6 :: sX6_leastTurnTowards_117
noncomputable def sX6_leastTurnTowards_113 : List UInt8 := 21 :: 8 :: sX6_leastTurnTowards_115
noncomputable def sX6_leastTurnTowards_110 : List UInt8 := 167 :: 0 :: 7 :: sX6_leastTurnTowards_113
noncomputable def sX6_leastTurnTowards_108 : List UInt8 := 54 :: 5 :: sX6_leastTurnTowards_110
noncomputable def sX6_leastTurnTowards_107 : List UInt8 := 96 :: sX6_leastTurnTowards_108
noncomputable def sX6_leastTurnTowards_106 : List UInt8 := 4 :: sX6_leastTurnTowards_107
noncomputable def sX6_leastTurnTowards_104 : List UInt8 := 21 :: 8 :: sX6_leastTurnTowards_106
noncomputable def sX6_leastTurnTowards_101 : List UInt8 := 160 :: 0 :: 12 :: sX6_leastTurnTowards_104
noncomputable def sX6_leastTurnTowards_99 : List UInt8 := 21 :: 4 :: sX6_leastTurnTowards_101
noncomputable def sX6_leastTurnTowards_96 : List UInt8 := 182 :: 1 :: 28 :: sX6_leastTurnTowards_99
noncomputable def sX6_leastTurnTowards_95 : List UInt8 := 96 :: sX6_leastTurnTowards_96
noncomputable def sX6_leastTurnTowards_94 : List UInt8 := 104 :: sX6_leastTurnTowards_95
noncomputable def sX6_leastTurnTowards_92 : List UInt8 := 21 :: 8 :: sX6_leastTurnTowards_94
noncomputable def sX6_leastTurnTowards_91 : List UInt8 := 28 :: sX6_leastTurnTowards_92
noncomputable def sX6_leastTurnTowards_90 : List UInt8 := 46 :: sX6_leastTurnTowards_91
noncomputable def sX6_leastTurnTowards_89 : List UInt8 := 27 :: sX6_leastTurnTowards_90
noncomputable def sX6_leastTurnTowards_86 : List UInt8 := 180 :: 0 :: 149 :: sX6_leastTurnTowards_89
noncomputable def sX6_leastTurnTowards_83 : List UInt8 := 180 :: 0 :: 26 :: sX6_leastTurnTowards_86
noncomputable def sX6_leastTurnTowards_82 : List UInt8 := 42 :: sX6_leastTurnTowards_83
noncomputable def sX6_leastTurnTowards_81 : List UInt8 := 27 :: sX6_leastTurnTowards_82
noncomputable def sX6_leastTurnTowards_78 : List UInt8 := 180 :: 0 :: 26 :: sX6_leastTurnTowards_81
noncomputable def sX6_leastTurnTowards_77 : List UInt8 := 42 :: sX6_leastTurnTowards_78
noncomputable def sX6_leastTurnTowards_74 : List UInt8 := 180 :: 0 :: 19 :: sX6_leastTurnTowards_77
noncomputable def sX6_leastTurnTowards_73 : List UInt8 := 42 :: sX6_leastTurnTowards_74
noncomputable def sX6_leastTurnTowards_70 : List UInt8 := 180 :: 0 :: 54 :: sX6_leastTurnTowards_73
noncomputable def sX6_leastTurnTowards_69 : List UInt8 := 42 :: sX6_leastTurnTowards_70
noncomputable def sX6_leastTurnTowards_67 : List UInt8 := 54 :: 8 :: sX6_leastTurnTowards_69
noncomputable def sX6_leastTurnTowards_66 : List UInt8 := 108 :: sX6_leastTurnTowards_67
noncomputable def sX6_leastTurnTowards_65 : List UInt8 := 5 :: sX6_leastTurnTowards_66
noncomputable def sX6_leastTurnTowards_64 : List UInt8 := 96 :: sX6_leastTurnTowards_65
noncomputable def sX6_leastTurnTowards_62 : List UInt8 := 21 :: 6 :: sX6_leastTurnTowards_64
noncomputable def sX6_leastTurnTowards_60 : List UInt8 := 21 :: 5 :: sX6_leastTurnTowards_62
noncomputable def sX6_leastTurnTowards_57 : List UInt8 := 162 :: 0 :: 66 :: sX6_leastTurnTowards_60
noncomputable def sX6_leastTurnTowards_55 : List UInt8 := 21 :: 6 :: sX6_leastTurnTowards_57
noncomputable def sX6_leastTurnTowards_53 : List UInt8 := 21 :: 5 :: sX6_leastTurnTowards_55
noncomputable def sX6_leastTurnTowards_50 : List UInt8 := 162 :: 0 :: 73 :: sX6_leastTurnTowards_53
noncomputable def sX6_leastTurnTowards_48 : List UInt8 := 16 :: 99 :: sX6_leastTurnTowards_50
noncomputable def sX6_leastTurnTowards_46 : List UInt8 := 21 :: 7 :: sX6_leastTurnTowards_48
noncomputable def sX6_leastTurnTowards_44 : List UInt8 := 54 :: 7 :: sX6_leastTurnTowards_46
noncomputable def sX6_leastTurnTowards_43 : List UInt8 := 3 :: sX6_leastTurnTowards_44
noncomputable def sX6_leastTurnTowards_41 : List UInt8 := 54 :: 6 :: sX6_leastTurnTowards_43
noncomputable def sX6_leastTurnTowards_40 : List UInt8 := 29 :: sX6_leastTurnTowards_41
noncomputable def sX6_leastTurnTowards_38 : List UInt8 := 54 :: 5 :: sX6_leastTurnTowards_40
noncomputable def sX6_leastTurnTowards_37 : List UInt8 := 4 :: sX6_leastTurnTowards_38
noncomputable def sX6_leastTurnTowards_36 : List UInt8 := 172 :: sX6_leastTurnTowards_37
noncomputable def sX6_leastTurnTowards_34 : List UInt8 := 16 :: 254 :: sX6_leastTurnTowards_36
noncomputable def sX6_leastTurnTowards_31 : List UInt8 := 160 :: 0 :: 6 :: sX6_leastTurnTowards_34
noncomputable def sX6_leastTurnTowards_29 : List UInt8 := 21 :: 4 :: sX6_leastTurnTowards_31
noncomputable def sX6_leastTurnTowards_26 : List UInt8 := 182 :: 1 :: 28 :: sX6_leastTurnTowards_29
noncomputable def sX6_leastTurnTowards_25 : List UInt8 := 96 :: sX6_leastTurnTowards_26
noncomputable def sX6_leastTurnTowards_24 : List UInt8 := 104 :: sX6_leastTurnTowards_25
noncomputable def sX6_leastTurnTowards_23 : List UInt8 := 29 :: sX6_leastTurnTowards_24
noncomputable def sX6_leastTurnTowards_22 : List UInt8 := 28 :: sX6_leastTurnTowards_23
noncomputable def sX6_leastTurnTowards_21 : List UInt8 := 46 :: sX6_leastTurnTowards_22
noncomputable def sX6_leastTurnTowards_20 : List UInt8 := 27 :: sX6_leastTurnTowards_21
noncomputable def sX6_leastTurnTowards_17 : List UInt8 := 180 :: 0 :: 149 :: sX6_leastTurnTowards_20
noncomputable def sX6_leastTurnTowards_14 : List UInt8 := 180 :: 0 :: 26 :: sX6_leastTurnTowards_17
noncomputable def sX6_leastTurnTowards_13 : List UInt8 := 42 :: sX6_leastTurnTowards_14
noncomputable def sX6_leastTurnTowards_12 : List UInt8 := 27 :: sX6_leastTurnTowards_13
noncomputable def sX6_leastTurnTowards_9 : List UInt8 := 180 :: 0 :: 26 :: sX6_leastTurnTowards_12
noncomputable def sX6_leastTurnTowards_8 : List UInt8 := 42 :: sX6_leastTurnTowards_9
noncomputable def sX6_leastTurnTowards_5 : List UInt8 := 180 :: 0 :: 19 :: sX6_leastTurnTowards_8
noncomputable def sX6_leastTurnTowards_4 : List UInt8 := 42 :: sX6_leastTurnTowards_5
noncomputable def sX6_leastTurnTowards_1 : List UInt8 := 180 :: 0 :: 54 :: sX6_leastTurnTowards_4
noncomputable def sX6_leastTurnTowards_0 : List UInt8 := 42 :: sX6_leastTurnTowards_1
set_option maxRecDepth 100000 in
theorem hX6_leastTurnTowards_0 : cX6_leastTurnTowards.data.toList.drop 0 = sX6_leastTurnTowards_0 := by decide +kernel
theorem dX6_leastTurnTowards_0 : decode cX6_leastTurnTowards 0 = .ok (.aload_n 0, 1) := dk42 hX6_leastTurnTowards_0
theorem hX6_leastTurnTowards_1 : cX6_leastTurnTowards.data.toList.drop 1 = sX6_leastTurnTowards_1 := dn1 hX6_leastTurnTowards_0
theorem dX6_leastTurnTowards_1 : decode cX6_leastTurnTowards 1 = .ok (.getfield 54, 3) := dk180 hX6_leastTurnTowards_1 rfl
theorem hX6_leastTurnTowards_4 : cX6_leastTurnTowards.data.toList.drop 4 = sX6_leastTurnTowards_4 := dn3 hX6_leastTurnTowards_1
theorem dX6_leastTurnTowards_4 : decode cX6_leastTurnTowards 4 = .ok (.aload_n 0, 1) := dk42 hX6_leastTurnTowards_4
theorem hX6_leastTurnTowards_5 : cX6_leastTurnTowards.data.toList.drop 5 = sX6_leastTurnTowards_5 := dn1 hX6_leastTurnTowards_4
theorem dX6_leastTurnTowards_5 : decode cX6_leastTurnTowards 5 = .ok (.getfield 19, 3) := dk180 hX6_leastTurnTowards_5 rfl
theorem hX6_leastTurnTowards_8 : cX6_leastTurnTowards.data.toList.drop 8 = sX6_leastTurnTowards_8 := dn3 hX6_leastTurnTowards_5
theorem dX6_leastTurnTowards_8 : decode cX6_leastTurnTowards 8 = .ok (.aload_n 0, 1) := dk42 hX6_leastTurnTowards_8
theorem hX6_leastTurnTowards_9 : cX6_leastTurnTowards.data.toList.drop 9 = sX6_leastTurnTowards_9 := dn1 hX6_leastTurnTowards_8
theorem dX6_leastTurnTowards_9 : decode cX6_leastTurnTowards 9 = .ok (.getfield 26, 3) := dk180 hX6_leastTurnTowards_9 rfl
theorem hX6_leastTurnTowards_12 : cX6_leastTurnTowards.data.toList.drop 12 = sX6_leastTurnTowards_12 := dn3 hX6_leastTurnTowards_9
theorem dX6_leastTurnTowards_12 : decode cX6_leastTurnTowards 12 = .ok (.iload_n 1, 1) := dk27 hX6_leastTurnTowards_12
theorem hX6_leastTurnTowards_13 : cX6_leastTurnTowards.data.toList.drop 13 = sX6_leastTurnTowards_13 := dn1 hX6_leastTurnTowards_12
theorem dX6_leastTurnTowards_13 : decode cX6_leastTurnTowards 13 = .ok (.aload_n 0, 1) := dk42 hX6_leastTurnTowards_13
theorem hX6_leastTurnTowards_14 : cX6_leastTurnTowards.data.toList.drop 14 = sX6_leastTurnTowards_14 := dn1 hX6_leastTurnTowards_13
theorem dX6_leastTurnTowards_14 : decode cX6_leastTurnTowards 14 = .ok (.getfield 26, 3) := dk180 hX6_leastTurnTowards_14 rfl
theorem hX6_leastTurnTowards_17 : cX6_leastTurnTowards.data.toList.drop 17 = sX6_leastTurnTowards_17 := dn3 hX6_leastTurnTowards_14
theorem dX6_leastTurnTowards_17 : decode cX6_leastTurnTowards 17 = .ok (.getfield 149, 3) := dk180 hX6_leastTurnTowards_17 rfl
theorem hX6_leastTurnTowards_20 : cX6_leastTurnTowards.data.toList.drop 20 = sX6_leastTurnTowards_20 := dn3 hX6_leastTurnTowards_17
theorem dX6_leastTurnTowards_20 : decode cX6_leastTurnTowards 20 = .ok (.iload_n 1, 1) := dk27 hX6_leastTurnTowards_20
theorem hX6_leastTurnTowards_21 : cX6_leastTurnTowards.data.toList.drop 21 = sX6_leastTurnTowards_21 := dn1 hX6_leastTurnTowards_20
theorem dX6_leastTurnTowards_21 : decode cX6_leastTurnTowards 21 = .ok (.iaload, 1) := dk46 hX6_leastTurnTowards_21
theorem hX6_leastTurnTowards_22 : cX6_leastTurnTowards.data.toList.drop 22 = sX6_leastTurnTowards_22 := dn1 hX6_leastTurnTowards_21
theorem dX6_leastTurnTowards_22 : decode cX6_leastTurnTowards 22 = .ok (.iload_n 2, 1) := dk28 hX6_leastTurnTowards_22
theorem hX6_leastTurnTowards_23 : cX6_leastTurnTowards.data.toList.drop 23 = sX6_leastTurnTowards_23 := dn1 hX6_leastTurnTowards_22
theorem dX6_leastTurnTowards_23 : decode cX6_leastTurnTowards 23 = .ok (.iload_n 3, 1) := dk29 hX6_leastTurnTowards_23
theorem hX6_leastTurnTowards_24 : cX6_leastTurnTowards.data.toList.drop 24 = sX6_leastTurnTowards_24 := dn1 hX6_leastTurnTowards_23
theorem dX6_leastTurnTowards_24 : decode cX6_leastTurnTowards 24 = .ok (.imul, 1) := dk104 hX6_leastTurnTowards_24
theorem hX6_leastTurnTowards_25 : cX6_leastTurnTowards.data.toList.drop 25 = sX6_leastTurnTowards_25 := dn1 hX6_leastTurnTowards_24
theorem dX6_leastTurnTowards_25 : decode cX6_leastTurnTowards 25 = .ok (.iadd, 1) := dk96 hX6_leastTurnTowards_25
theorem hX6_leastTurnTowards_26 : cX6_leastTurnTowards.data.toList.drop 26 = sX6_leastTurnTowards_26 := dn1 hX6_leastTurnTowards_25
theorem dX6_leastTurnTowards_26 : decode cX6_leastTurnTowards 26 = .ok (.invokevirtual 284, 3) := dk182 hX6_leastTurnTowards_26 rfl
theorem hX6_leastTurnTowards_29 : cX6_leastTurnTowards.data.toList.drop 29 = sX6_leastTurnTowards_29 := dn3 hX6_leastTurnTowards_26
theorem dX6_leastTurnTowards_29 : decode cX6_leastTurnTowards 29 = .ok (.iload 4, 2) := dk21 hX6_leastTurnTowards_29 rfl
theorem hX6_leastTurnTowards_31 : cX6_leastTurnTowards.data.toList.drop 31 = sX6_leastTurnTowards_31 := dn2 hX6_leastTurnTowards_29
theorem dX6_leastTurnTowards_31 : decode cX6_leastTurnTowards 31 = .ok (.if_icmp .ne 6, 3) := dk160 hX6_leastTurnTowards_31 (by decide)
theorem hX6_leastTurnTowards_34 : cX6_leastTurnTowards.data.toList.drop 34 = sX6_leastTurnTowards_34 := dn3 hX6_leastTurnTowards_31
theorem dX6_leastTurnTowards_34 : decode cX6_leastTurnTowards 34 = .ok (.bipush (-2), 2) := dk16 hX6_leastTurnTowards_34 (by decide)
theorem hX6_leastTurnTowards_36 : cX6_leastTurnTowards.data.toList.drop 36 = sX6_leastTurnTowards_36 := dn2 hX6_leastTurnTowards_34
theorem dX6_leastTurnTowards_36 : decode cX6_leastTurnTowards 36 = .ok (.ireturn, 1) := dk172 hX6_leastTurnTowards_36
theorem hX6_leastTurnTowards_37 : cX6_leastTurnTowards.data.toList.drop 37 = sX6_leastTurnTowards_37 := dn1 hX6_leastTurnTowards_36
theorem dX6_leastTurnTowards_37 : decode cX6_leastTurnTowards 37 = .ok (.iconst 1, 1) := dk4 hX6_leastTurnTowards_37
theorem hX6_leastTurnTowards_38 : cX6_leastTurnTowards.data.toList.drop 38 = sX6_leastTurnTowards_38 := dn1 hX6_leastTurnTowards_37
theorem dX6_leastTurnTowards_38 : decode cX6_leastTurnTowards 38 = .ok (.istore 5, 2) := dk54 hX6_leastTurnTowards_38 rfl
theorem hX6_leastTurnTowards_40 : cX6_leastTurnTowards.data.toList.drop 40 = sX6_leastTurnTowards_40 := dn2 hX6_leastTurnTowards_38
theorem dX6_leastTurnTowards_40 : decode cX6_leastTurnTowards 40 = .ok (.iload_n 3, 1) := dk29 hX6_leastTurnTowards_40
theorem hX6_leastTurnTowards_41 : cX6_leastTurnTowards.data.toList.drop 41 = sX6_leastTurnTowards_41 := dn1 hX6_leastTurnTowards_40
theorem dX6_leastTurnTowards_41 : decode cX6_leastTurnTowards 41 = .ok (.istore 6, 2) := dk54 hX6_leastTurnTowards_41 rfl
theorem hX6_leastTurnTowards_43 : cX6_leastTurnTowards.data.toList.drop 43 = sX6_leastTurnTowards_43 := dn2 hX6_leastTurnTowards_41
theorem dX6_leastTurnTowards_43 : decode cX6_leastTurnTowards 43 = .ok (.iconst 0, 1) := dk3 hX6_leastTurnTowards_43
theorem hX6_leastTurnTowards_44 : cX6_leastTurnTowards.data.toList.drop 44 = sX6_leastTurnTowards_44 := dn1 hX6_leastTurnTowards_43
theorem dX6_leastTurnTowards_44 : decode cX6_leastTurnTowards 44 = .ok (.istore 7, 2) := dk54 hX6_leastTurnTowards_44 rfl
theorem hX6_leastTurnTowards_46 : cX6_leastTurnTowards.data.toList.drop 46 = sX6_leastTurnTowards_46 := dn2 hX6_leastTurnTowards_44
theorem dX6_leastTurnTowards_46 : decode cX6_leastTurnTowards 46 = .ok (.iload 7, 2) := dk21 hX6_leastTurnTowards_46 rfl
theorem hX6_leastTurnTowards_48 : cX6_leastTurnTowards.data.toList.drop 48 = sX6_leastTurnTowards_48 := dn2 hX6_leastTurnTowards_46
theorem dX6_leastTurnTowards_48 : decode cX6_leastTurnTowards 48 = .ok (.bipush 99, 2) := dk16 hX6_leastTurnTowards_48 (by decide)
theorem hX6_leastTurnTowards_50 : cX6_leastTurnTowards.data.toList.drop 50 = sX6_leastTurnTowards_50 := dn2 hX6_leastTurnTowards_48
theorem dX6_leastTurnTowards_50 : decode cX6_leastTurnTowards 50 = .ok (.if_icmp .ge 73, 3) := dk162 hX6_leastTurnTowards_50 (by decide)
theorem hX6_leastTurnTowards_53 : cX6_leastTurnTowards.data.toList.drop 53 = sX6_leastTurnTowards_53 := dn3 hX6_leastTurnTowards_50
theorem dX6_leastTurnTowards_53 : decode cX6_leastTurnTowards 53 = .ok (.iload 5, 2) := dk21 hX6_leastTurnTowards_53 rfl
theorem hX6_leastTurnTowards_55 : cX6_leastTurnTowards.data.toList.drop 55 = sX6_leastTurnTowards_55 := dn2 hX6_leastTurnTowards_53
theorem dX6_leastTurnTowards_55 : decode cX6_leastTurnTowards 55 = .ok (.iload 6, 2) := dk21 hX6_leastTurnTowards_55 rfl
theorem hX6_leastTurnTowards_57 : cX6_leastTurnTowards.data.toList.drop 57 = sX6_leastTurnTowards_57 := dn2 hX6_leastTurnTowards_55
theorem dX6_leastTurnTowards_57 : decode cX6_leastTurnTowards 57 = .ok (.if_icmp .ge 66, 3) := dk162 hX6_leastTurnTowards_57 (by decide)
theorem hX6_leastTurnTowards_60 : cX6_leastTurnTowards.data.toList.drop 60 = sX6_leastTurnTowards_60 := dn3 hX6_leastTurnTowards_57
theorem dX6_leastTurnTowards_60 : decode cX6_leastTurnTowards 60 = .ok (.iload 5, 2) := dk21 hX6_leastTurnTowards_60 rfl
theorem hX6_leastTurnTowards_62 : cX6_leastTurnTowards.data.toList.drop 62 = sX6_leastTurnTowards_62 := dn2 hX6_leastTurnTowards_60
theorem dX6_leastTurnTowards_62 : decode cX6_leastTurnTowards 62 = .ok (.iload 6, 2) := dk21 hX6_leastTurnTowards_62 rfl
theorem hX6_leastTurnTowards_64 : cX6_leastTurnTowards.data.toList.drop 64 = sX6_leastTurnTowards_64 := dn2 hX6_leastTurnTowards_62
theorem dX6_leastTurnTowards_64 : decode cX6_leastTurnTowards 64 = .ok (.iadd, 1) := dk96 hX6_leastTurnTowards_64
theorem hX6_leastTurnTowards_65 : cX6_leastTurnTowards.data.toList.drop 65 = sX6_leastTurnTowards_65 := dn1 hX6_leastTurnTowards_64
theorem dX6_leastTurnTowards_65 : decode cX6_leastTurnTowards 65 = .ok (.iconst 2, 1) := dk5 hX6_leastTurnTowards_65
theorem hX6_leastTurnTowards_66 : cX6_leastTurnTowards.data.toList.drop 66 = sX6_leastTurnTowards_66 := dn1 hX6_leastTurnTowards_65
theorem dX6_leastTurnTowards_66 : decode cX6_leastTurnTowards 66 = .ok (.idiv, 1) := dk108 hX6_leastTurnTowards_66
theorem hX6_leastTurnTowards_67 : cX6_leastTurnTowards.data.toList.drop 67 = sX6_leastTurnTowards_67 := dn1 hX6_leastTurnTowards_66
theorem dX6_leastTurnTowards_67 : decode cX6_leastTurnTowards 67 = .ok (.istore 8, 2) := dk54 hX6_leastTurnTowards_67 rfl
theorem hX6_leastTurnTowards_69 : cX6_leastTurnTowards.data.toList.drop 69 = sX6_leastTurnTowards_69 := dn2 hX6_leastTurnTowards_67
theorem dX6_leastTurnTowards_69 : decode cX6_leastTurnTowards 69 = .ok (.aload_n 0, 1) := dk42 hX6_leastTurnTowards_69
theorem hX6_leastTurnTowards_70 : cX6_leastTurnTowards.data.toList.drop 70 = sX6_leastTurnTowards_70 := dn1 hX6_leastTurnTowards_69
theorem dX6_leastTurnTowards_70 : decode cX6_leastTurnTowards 70 = .ok (.getfield 54, 3) := dk180 hX6_leastTurnTowards_70 rfl
theorem hX6_leastTurnTowards_73 : cX6_leastTurnTowards.data.toList.drop 73 = sX6_leastTurnTowards_73 := dn3 hX6_leastTurnTowards_70
theorem dX6_leastTurnTowards_73 : decode cX6_leastTurnTowards 73 = .ok (.aload_n 0, 1) := dk42 hX6_leastTurnTowards_73
theorem hX6_leastTurnTowards_74 : cX6_leastTurnTowards.data.toList.drop 74 = sX6_leastTurnTowards_74 := dn1 hX6_leastTurnTowards_73
theorem dX6_leastTurnTowards_74 : decode cX6_leastTurnTowards 74 = .ok (.getfield 19, 3) := dk180 hX6_leastTurnTowards_74 rfl
theorem hX6_leastTurnTowards_77 : cX6_leastTurnTowards.data.toList.drop 77 = sX6_leastTurnTowards_77 := dn3 hX6_leastTurnTowards_74
theorem dX6_leastTurnTowards_77 : decode cX6_leastTurnTowards 77 = .ok (.aload_n 0, 1) := dk42 hX6_leastTurnTowards_77
theorem hX6_leastTurnTowards_78 : cX6_leastTurnTowards.data.toList.drop 78 = sX6_leastTurnTowards_78 := dn1 hX6_leastTurnTowards_77
theorem dX6_leastTurnTowards_78 : decode cX6_leastTurnTowards 78 = .ok (.getfield 26, 3) := dk180 hX6_leastTurnTowards_78 rfl
theorem hX6_leastTurnTowards_81 : cX6_leastTurnTowards.data.toList.drop 81 = sX6_leastTurnTowards_81 := dn3 hX6_leastTurnTowards_78
theorem dX6_leastTurnTowards_81 : decode cX6_leastTurnTowards 81 = .ok (.iload_n 1, 1) := dk27 hX6_leastTurnTowards_81
theorem hX6_leastTurnTowards_82 : cX6_leastTurnTowards.data.toList.drop 82 = sX6_leastTurnTowards_82 := dn1 hX6_leastTurnTowards_81
theorem dX6_leastTurnTowards_82 : decode cX6_leastTurnTowards 82 = .ok (.aload_n 0, 1) := dk42 hX6_leastTurnTowards_82
theorem hX6_leastTurnTowards_83 : cX6_leastTurnTowards.data.toList.drop 83 = sX6_leastTurnTowards_83 := dn1 hX6_leastTurnTowards_82
theorem dX6_leastTurnTowards_83 : decode cX6_leastTurnTowards 83 = .ok (.getfield 26, 3) := dk180 hX6_leastTurnTowards_83 rfl
theorem hX6_leastTurnTowards_86 : cX6_leastTurnTowards.data.toList.drop 86 = sX6_leastTurnTowards_86 := dn3 hX6_leastTurnTowards_83
theorem dX6_leastTurnTowards_86 : decode cX6_leastTurnTowards 86 = .ok (.getfield 149, 3) := dk180 hX6_leastTurnTowards_86 rfl
theorem hX6_leastTurnTowards_89 : cX6_leastTurnTowards.data.toList.drop 89 = sX6_leastTurnTowards_89 := dn3 hX6_leastTurnTowards_86
theorem dX6_leastTurnTowards_89 : decode cX6_leastTurnTowards 89 = .ok (.iload_n 1, 1) := dk27 hX6_leastTurnTowards_89
theorem hX6_leastTurnTowards_90 : cX6_leastTurnTowards.data.toList.drop 90 = sX6_leastTurnTowards_90 := dn1 hX6_leastTurnTowards_89
theorem dX6_leastTurnTowards_90 : decode cX6_leastTurnTowards 90 = .ok (.iaload, 1) := dk46 hX6_leastTurnTowards_90
theorem hX6_leastTurnTowards_91 : cX6_leastTurnTowards.data.toList.drop 91 = sX6_leastTurnTowards_91 := dn1 hX6_leastTurnTowards_90
theorem dX6_leastTurnTowards_91 : decode cX6_leastTurnTowards 91 = .ok (.iload_n 2, 1) := dk28 hX6_leastTurnTowards_91
theorem hX6_leastTurnTowards_92 : cX6_leastTurnTowards.data.toList.drop 92 = sX6_leastTurnTowards_92 := dn1 hX6_leastTurnTowards_91
theorem dX6_leastTurnTowards_92 : decode cX6_leastTurnTowards 92 = .ok (.iload 8, 2) := dk21 hX6_leastTurnTowards_92 rfl
theorem hX6_leastTurnTowards_94 : cX6_leastTurnTowards.data.toList.drop 94 = sX6_leastTurnTowards_94 := dn2 hX6_leastTurnTowards_92
theorem dX6_leastTurnTowards_94 : decode cX6_leastTurnTowards 94 = .ok (.imul, 1) := dk104 hX6_leastTurnTowards_94
theorem hX6_leastTurnTowards_95 : cX6_leastTurnTowards.data.toList.drop 95 = sX6_leastTurnTowards_95 := dn1 hX6_leastTurnTowards_94
theorem dX6_leastTurnTowards_95 : decode cX6_leastTurnTowards 95 = .ok (.iadd, 1) := dk96 hX6_leastTurnTowards_95
theorem hX6_leastTurnTowards_96 : cX6_leastTurnTowards.data.toList.drop 96 = sX6_leastTurnTowards_96 := dn1 hX6_leastTurnTowards_95
theorem dX6_leastTurnTowards_96 : decode cX6_leastTurnTowards 96 = .ok (.invokevirtual 284, 3) := dk182 hX6_leastTurnTowards_96 rfl
theorem hX6_leastTurnTowards_99 : cX6_leastTurnTowards.data.toList.drop 99 = sX6_leastTurnTowards_99 := dn3 hX6_leastTurnTowards_96
theorem dX6_leastTurnTowards_99 : decode cX6_leastTurnTowards 99 = .ok (.iload 4, 2) := dk21 hX6_leastTurnTowards_99 rfl
theorem hX6_leastTurnTowards_101 : cX6_leastTurnTowards.data.toList.drop 101 = sX6_leastTurnTowards_101 := dn2 hX6_leastTurnTowards_99
theorem dX6_leastTurnTowards_101 : decode cX6_leastTurnTowards 101 = .ok (.if_icmp .ne 12, 3) := dk160 hX6_leastTurnTowards_101 (by decide)
theorem hX6_leastTurnTowards_104 : cX6_leastTurnTowards.data.toList.drop 104 = sX6_leastTurnTowards_104 := dn3 hX6_leastTurnTowards_101
theorem dX6_leastTurnTowards_104 : decode cX6_leastTurnTowards 104 = .ok (.iload 8, 2) := dk21 hX6_leastTurnTowards_104 rfl
theorem hX6_leastTurnTowards_106 : cX6_leastTurnTowards.data.toList.drop 106 = sX6_leastTurnTowards_106 := dn2 hX6_leastTurnTowards_104
theorem dX6_leastTurnTowards_106 : decode cX6_leastTurnTowards 106 = .ok (.iconst 1, 1) := dk4 hX6_leastTurnTowards_106
theorem hX6_leastTurnTowards_107 : cX6_leastTurnTowards.data.toList.drop 107 = sX6_leastTurnTowards_107 := dn1 hX6_leastTurnTowards_106
theorem dX6_leastTurnTowards_107 : decode cX6_leastTurnTowards 107 = .ok (.iadd, 1) := dk96 hX6_leastTurnTowards_107
theorem hX6_leastTurnTowards_108 : cX6_leastTurnTowards.data.toList.drop 108 = sX6_leastTurnTowards_108 := dn1 hX6_leastTurnTowards_107
theorem dX6_leastTurnTowards_108 : decode cX6_leastTurnTowards 108 = .ok (.istore 5, 2) := dk54 hX6_leastTurnTowards_108 rfl
theorem hX6_leastTurnTowards_110 : cX6_leastTurnTowards.data.toList.drop 110 = sX6_leastTurnTowards_110 := dn2 hX6_leastTurnTowards_108
theorem dX6_leastTurnTowards_110 : decode cX6_leastTurnTowards 110 = .ok (.goto 7, 3) := dk167 hX6_leastTurnTowards_110 (by decide)
theorem hX6_leastTurnTowards_113 : cX6_leastTurnTowards.data.toList.drop 113 = sX6_leastTurnTowards_113 := dn3 hX6_leastTurnTowards_110
theorem dX6_leastTurnTowards_113 : decode cX6_leastTurnTowards 113 = .ok (.iload 8, 2) := dk21 hX6_leastTurnTowards_113 rfl
theorem hX6_leastTurnTowards_115 : cX6_leastTurnTowards.data.toList.drop 115 = sX6_leastTurnTowards_115 := dn2 hX6_leastTurnTowards_113
theorem dX6_leastTurnTowards_115 : decode cX6_leastTurnTowards 115 = .ok (.istore 6, 2) := dk54 hX6_leastTurnTowards_115 rfl
theorem hX6_leastTurnTowards_117 : cX6_leastTurnTowards.data.toList.drop 117 = sX6_leastTurnTowards_117 := dn2 hX6_leastTurnTowards_115
theorem dX6_leastTurnTowards_117 : decode cX6_leastTurnTowards 117 = .ok (.iinc 7 1, 3) := dk132 hX6_leastTurnTowards_117 rfl (by decide)
theorem hX6_leastTurnTowards_120 : cX6_leastTurnTowards.data.toList.drop 120 = sX6_leastTurnTowards_120 := dn3 hX6_leastTurnTowards_117
theorem dX6_leastTurnTowards_120 : decode cX6_leastTurnTowards 120 = .ok (.goto (-74), 3) := dk167 hX6_leastTurnTowards_120 (by decide)
theorem hX6_leastTurnTowards_123 : cX6_leastTurnTowards.data.toList.drop 123 = sX6_leastTurnTowards_123 := dn3 hX6_leastTurnTowards_120
theorem dX6_leastTurnTowards_123 : decode cX6_leastTurnTowards 123 = .ok (.iload 6, 2) := dk21 hX6_leastTurnTowards_123 rfl
theorem hX6_leastTurnTowards_125 : cX6_leastTurnTowards.data.toList.drop 125 = sX6_leastTurnTowards_125 := dn2 hX6_leastTurnTowards_123
theorem dX6_leastTurnTowards_125 : decode cX6_leastTurnTowards 125 = .ok (.ireturn, 1) := dk172 hX6_leastTurnTowards_125
noncomputable def sX6_led_36 : List UInt8 := 172 :: []
noncomputable def sX6_led_35 : List UInt8 := 28 :: sX6_led_36
noncomputable def sX6_led_34 : List UInt8 := 191 :: sX6_led_35
noncomputable def sX6_led_31 : List UInt8 := 183 :: 1 :: 108 :: sX6_led_34
noncomputable def sX6_led_28 : List UInt8 := 19 :: 1 :: 106 :: sX6_led_31
noncomputable def sX6_led_27 : List UInt8 := 89 :: sX6_led_28
noncomputable def sX6_led_24 : List UInt8 := 187 :: 1 :: 104 :: sX6_led_27
noncomputable def sX6_led_21 : List UInt8 := 156 :: 0 :: 14 :: sX6_led_24
noncomputable def sX6_led_20 : List UInt8 := 28 :: sX6_led_21
noncomputable def sX6_led_19 : List UInt8 := 61 :: sX6_led_20
noncomputable def sX6_led_18 : List UInt8 := 2 :: sX6_led_19
noncomputable def sX6_led_15 : List UInt8 := 167 :: 0 :: 4 :: sX6_led_18
noncomputable def sX6_led_12 : List UInt8 := 182 :: 1 :: 101 :: sX6_led_15
noncomputable def sX6_led_11 : List UInt8 := 27 :: sX6_led_12
noncomputable def sX6_led_10 : List UInt8 := 42 :: sX6_led_11
noncomputable def sX6_led_7 : List UInt8 := 158 :: 0 :: 11 :: sX6_led_10
noncomputable def sX6_led_4 : List UInt8 := 180 :: 0 :: 103 :: sX6_led_7
noncomputable def sX6_led_1 : List UInt8 := 180 :: 0 :: 19 :: sX6_led_4
noncomputable def sX6_led_0 : List UInt8 := 42 :: sX6_led_1
set_option maxRecDepth 100000 in
theorem hX6_led_0 : cX6_led.data.toList.drop 0 = sX6_led_0 := by decide +kernel
theorem dX6_led_0 : decode cX6_led 0 = .ok (.aload_n 0, 1) := dk42 hX6_led_0
theorem hX6_led_1 : cX6_led.data.toList.drop 1 = sX6_led_1 := dn1 hX6_led_0
theorem dX6_led_1 : decode cX6_led 1 = .ok (.getfield 19, 3) := dk180 hX6_led_1 rfl
theorem hX6_led_4 : cX6_led.data.toList.drop 4 = sX6_led_4 := dn3 hX6_led_1
theorem dX6_led_4 : decode cX6_led 4 = .ok (.getfield 103, 3) := dk180 hX6_led_4 rfl
theorem hX6_led_7 : cX6_led.data.toList.drop 7 = sX6_led_7 := dn3 hX6_led_4
theorem dX6_led_7 : decode cX6_led 7 = .ok (.ifCond .le 11, 3) := dk158 hX6_led_7 (by decide)
theorem hX6_led_10 : cX6_led.data.toList.drop 10 = sX6_led_10 := dn3 hX6_led_7
theorem dX6_led_10 : decode cX6_led 10 = .ok (.aload_n 0, 1) := dk42 hX6_led_10
theorem hX6_led_11 : cX6_led.data.toList.drop 11 = sX6_led_11 := dn1 hX6_led_10
theorem dX6_led_11 : decode cX6_led 11 = .ok (.iload_n 1, 1) := dk27 hX6_led_11
theorem hX6_led_12 : cX6_led.data.toList.drop 12 = sX6_led_12 := dn1 hX6_led_11
theorem dX6_led_12 : decode cX6_led 12 = .ok (.invokevirtual 357, 3) := dk182 hX6_led_12 rfl
theorem hX6_led_15 : cX6_led.data.toList.drop 15 = sX6_led_15 := dn3 hX6_led_12
theorem dX6_led_15 : decode cX6_led 15 = .ok (.goto 4, 3) := dk167 hX6_led_15 (by decide)
theorem hX6_led_18 : cX6_led.data.toList.drop 18 = sX6_led_18 := dn3 hX6_led_15
theorem dX6_led_18 : decode cX6_led 18 = .ok (.iconst (-1), 1) := dk2 hX6_led_18
theorem hX6_led_19 : cX6_led.data.toList.drop 19 = sX6_led_19 := dn1 hX6_led_18
theorem dX6_led_19 : decode cX6_led 19 = .ok (.istore_n 2, 1) := dk61 hX6_led_19
theorem hX6_led_20 : cX6_led.data.toList.drop 20 = sX6_led_20 := dn1 hX6_led_19
theorem dX6_led_20 : decode cX6_led 20 = .ok (.iload_n 2, 1) := dk28 hX6_led_20
theorem hX6_led_21 : cX6_led.data.toList.drop 21 = sX6_led_21 := dn1 hX6_led_20
theorem dX6_led_21 : decode cX6_led 21 = .ok (.ifCond .ge 14, 3) := dk156 hX6_led_21 (by decide)
theorem hX6_led_24 : cX6_led.data.toList.drop 24 = sX6_led_24 := dn3 hX6_led_21
theorem dX6_led_24 : decode cX6_led 24 = .ok (.new 360, 3) := dk187 hX6_led_24 rfl
theorem hX6_led_27 : cX6_led.data.toList.drop 27 = sX6_led_27 := dn3 hX6_led_24
theorem dX6_led_27 : decode cX6_led 27 = .ok (.dup, 1) := dk89 hX6_led_27
theorem hX6_led_28 : cX6_led.data.toList.drop 28 = sX6_led_28 := dn1 hX6_led_27
theorem dX6_led_28 : decode cX6_led 28 = .ok (.ldc_w 362, 3) := dk19 hX6_led_28 rfl
theorem hX6_led_31 : cX6_led.data.toList.drop 31 = sX6_led_31 := dn3 hX6_led_28
theorem dX6_led_31 : decode cX6_led 31 = .ok (.invokespecial 364, 3) := dk183 hX6_led_31 rfl
theorem hX6_led_34 : cX6_led.data.toList.drop 34 = sX6_led_34 := dn3 hX6_led_31
theorem dX6_led_34 : decode cX6_led 34 = .ok (.athrow, 1) := dk191 hX6_led_34
theorem hX6_led_35 : cX6_led.data.toList.drop 35 = sX6_led_35 := dn1 hX6_led_34
theorem dX6_led_35 : decode cX6_led 35 = .ok (.iload_n 2, 1) := dk28 hX6_led_35
theorem hX6_led_36 : cX6_led.data.toList.drop 36 = sX6_led_36 := dn1 hX6_led_35
theorem dX6_led_36 : decode cX6_led 36 = .ok (.ireturn, 1) := dk172 hX6_led_36
noncomputable def sX6_leftAtMost_56 : List UInt8 := 172 :: []
noncomputable def sX6_leftAtMost_53 : List UInt8 := 184 :: 1 :: 25 :: sX6_leftAtMost_56
noncomputable def sX6_leftAtMost_52 : List UInt8 := 100 :: sX6_leftAtMost_53
noncomputable def sX6_leftAtMost_51 : List UInt8 := 29 :: sX6_leftAtMost_52
noncomputable def sX6_leftAtMost_48 : List UInt8 := 184 :: 0 :: 227 :: sX6_leftAtMost_51
noncomputable def sX6_leftAtMost_47 : List UInt8 := 27 :: sX6_leftAtMost_48
noncomputable def sX6_leftAtMost_46 : List UInt8 := 29 :: sX6_leftAtMost_47
noncomputable def sX6_leftAtMost_43 : List UInt8 := 167 :: 255 :: 218 :: sX6_leftAtMost_46
noncomputable def sX6_leftAtMost_40 : List UInt8 := 132 :: 4 :: 1 :: sX6_leftAtMost_43
noncomputable def sX6_leftAtMost_37 : List UInt8 := 132 :: 3 :: 1 :: sX6_leftAtMost_40
noncomputable def sX6_leftAtMost_34 : List UInt8 := 160 :: 0 :: 6 :: sX6_leftAtMost_37
noncomputable def sX6_leftAtMost_33 : List UInt8 := 4 :: sX6_leftAtMost_34
noncomputable def sX6_leftAtMost_32 : List UInt8 := 126 :: sX6_leftAtMost_33
noncomputable def sX6_leftAtMost_31 : List UInt8 := 4 :: sX6_leftAtMost_32
noncomputable def sX6_leftAtMost_30 : List UInt8 := 122 :: sX6_leftAtMost_31
noncomputable def sX6_leftAtMost_29 : List UInt8 := 28 :: sX6_leftAtMost_30
noncomputable def sX6_leftAtMost_27 : List UInt8 := 21 :: 4 :: sX6_leftAtMost_29
noncomputable def sX6_leftAtMost_24 : List UInt8 := 160 :: 0 :: 16 :: sX6_leftAtMost_27
noncomputable def sX6_leftAtMost_23 : List UInt8 := 4 :: sX6_leftAtMost_24
noncomputable def sX6_leftAtMost_22 : List UInt8 := 126 :: sX6_leftAtMost_23
noncomputable def sX6_leftAtMost_21 : List UInt8 := 4 :: sX6_leftAtMost_22
noncomputable def sX6_leftAtMost_20 : List UInt8 := 122 :: sX6_leftAtMost_21
noncomputable def sX6_leftAtMost_18 : List UInt8 := 21 :: 4 :: sX6_leftAtMost_20
noncomputable def sX6_leftAtMost_17 : List UInt8 := 27 :: sX6_leftAtMost_18
noncomputable def sX6_leftAtMost_14 : List UInt8 := 162 :: 0 :: 32 :: sX6_leftAtMost_17
noncomputable def sX6_leftAtMost_11 : List UInt8 := 182 :: 1 :: 34 :: sX6_leftAtMost_14
noncomputable def sX6_leftAtMost_8 : List UInt8 := 180 :: 0 :: 19 :: sX6_leftAtMost_11
noncomputable def sX6_leftAtMost_7 : List UInt8 := 42 :: sX6_leftAtMost_8
noncomputable def sX6_leftAtMost_5 : List UInt8 := 21 :: 4 :: sX6_leftAtMost_7
noncomputable def sX6_leftAtMost_3 : List UInt8 := 54 :: 4 :: sX6_leftAtMost_5
noncomputable def sX6_leftAtMost_2 : List UInt8 := 3 :: sX6_leftAtMost_3
noncomputable def sX6_leftAtMost_1 : List UInt8 := 62 :: sX6_leftAtMost_2
noncomputable def sX6_leftAtMost_0 : List UInt8 := 3 :: sX6_leftAtMost_1
set_option maxRecDepth 100000 in
theorem hX6_leftAtMost_0 : cX6_leftAtMost.data.toList.drop 0 = sX6_leftAtMost_0 := by decide +kernel
theorem dX6_leftAtMost_0 : decode cX6_leftAtMost 0 = .ok (.iconst 0, 1) := dk3 hX6_leftAtMost_0
theorem hX6_leftAtMost_1 : cX6_leftAtMost.data.toList.drop 1 = sX6_leftAtMost_1 := dn1 hX6_leftAtMost_0
theorem dX6_leftAtMost_1 : decode cX6_leftAtMost 1 = .ok (.istore_n 3, 1) := dk62 hX6_leftAtMost_1
theorem hX6_leftAtMost_2 : cX6_leftAtMost.data.toList.drop 2 = sX6_leftAtMost_2 := dn1 hX6_leftAtMost_1
theorem dX6_leftAtMost_2 : decode cX6_leftAtMost 2 = .ok (.iconst 0, 1) := dk3 hX6_leftAtMost_2
theorem hX6_leftAtMost_3 : cX6_leftAtMost.data.toList.drop 3 = sX6_leftAtMost_3 := dn1 hX6_leftAtMost_2
theorem dX6_leftAtMost_3 : decode cX6_leftAtMost 3 = .ok (.istore 4, 2) := dk54 hX6_leftAtMost_3 rfl
theorem hX6_leftAtMost_5 : cX6_leftAtMost.data.toList.drop 5 = sX6_leftAtMost_5 := dn2 hX6_leftAtMost_3
theorem dX6_leftAtMost_5 : decode cX6_leftAtMost 5 = .ok (.iload 4, 2) := dk21 hX6_leftAtMost_5 rfl
theorem hX6_leftAtMost_7 : cX6_leftAtMost.data.toList.drop 7 = sX6_leftAtMost_7 := dn2 hX6_leftAtMost_5
theorem dX6_leftAtMost_7 : decode cX6_leftAtMost 7 = .ok (.aload_n 0, 1) := dk42 hX6_leftAtMost_7
theorem hX6_leftAtMost_8 : cX6_leftAtMost.data.toList.drop 8 = sX6_leftAtMost_8 := dn1 hX6_leftAtMost_7
theorem dX6_leftAtMost_8 : decode cX6_leftAtMost 8 = .ok (.getfield 19, 3) := dk180 hX6_leftAtMost_8 rfl
theorem hX6_leftAtMost_11 : cX6_leftAtMost.data.toList.drop 11 = sX6_leftAtMost_11 := dn3 hX6_leftAtMost_8
theorem dX6_leftAtMost_11 : decode cX6_leftAtMost 11 = .ok (.invokevirtual 290, 3) := dk182 hX6_leftAtMost_11 rfl
theorem hX6_leftAtMost_14 : cX6_leftAtMost.data.toList.drop 14 = sX6_leftAtMost_14 := dn3 hX6_leftAtMost_11
theorem dX6_leftAtMost_14 : decode cX6_leftAtMost 14 = .ok (.if_icmp .ge 32, 3) := dk162 hX6_leftAtMost_14 (by decide)
theorem hX6_leftAtMost_17 : cX6_leftAtMost.data.toList.drop 17 = sX6_leftAtMost_17 := dn3 hX6_leftAtMost_14
theorem dX6_leftAtMost_17 : decode cX6_leftAtMost 17 = .ok (.iload_n 1, 1) := dk27 hX6_leftAtMost_17
theorem hX6_leftAtMost_18 : cX6_leftAtMost.data.toList.drop 18 = sX6_leftAtMost_18 := dn1 hX6_leftAtMost_17
theorem dX6_leftAtMost_18 : decode cX6_leftAtMost 18 = .ok (.iload 4, 2) := dk21 hX6_leftAtMost_18 rfl
theorem hX6_leftAtMost_20 : cX6_leftAtMost.data.toList.drop 20 = sX6_leftAtMost_20 := dn2 hX6_leftAtMost_18
theorem dX6_leftAtMost_20 : decode cX6_leftAtMost 20 = .ok (.ishr, 1) := dk122 hX6_leftAtMost_20
theorem hX6_leftAtMost_21 : cX6_leftAtMost.data.toList.drop 21 = sX6_leftAtMost_21 := dn1 hX6_leftAtMost_20
theorem dX6_leftAtMost_21 : decode cX6_leftAtMost 21 = .ok (.iconst 1, 1) := dk4 hX6_leftAtMost_21
theorem hX6_leftAtMost_22 : cX6_leftAtMost.data.toList.drop 22 = sX6_leftAtMost_22 := dn1 hX6_leftAtMost_21
theorem dX6_leftAtMost_22 : decode cX6_leftAtMost 22 = .ok (.iand, 1) := dk126 hX6_leftAtMost_22
theorem hX6_leftAtMost_23 : cX6_leftAtMost.data.toList.drop 23 = sX6_leftAtMost_23 := dn1 hX6_leftAtMost_22
theorem dX6_leftAtMost_23 : decode cX6_leftAtMost 23 = .ok (.iconst 1, 1) := dk4 hX6_leftAtMost_23
theorem hX6_leftAtMost_24 : cX6_leftAtMost.data.toList.drop 24 = sX6_leftAtMost_24 := dn1 hX6_leftAtMost_23
theorem dX6_leftAtMost_24 : decode cX6_leftAtMost 24 = .ok (.if_icmp .ne 16, 3) := dk160 hX6_leftAtMost_24 (by decide)
theorem hX6_leftAtMost_27 : cX6_leftAtMost.data.toList.drop 27 = sX6_leftAtMost_27 := dn3 hX6_leftAtMost_24
theorem dX6_leftAtMost_27 : decode cX6_leftAtMost 27 = .ok (.iload 4, 2) := dk21 hX6_leftAtMost_27 rfl
theorem hX6_leftAtMost_29 : cX6_leftAtMost.data.toList.drop 29 = sX6_leftAtMost_29 := dn2 hX6_leftAtMost_27
theorem dX6_leftAtMost_29 : decode cX6_leftAtMost 29 = .ok (.iload_n 2, 1) := dk28 hX6_leftAtMost_29
theorem hX6_leftAtMost_30 : cX6_leftAtMost.data.toList.drop 30 = sX6_leftAtMost_30 := dn1 hX6_leftAtMost_29
theorem dX6_leftAtMost_30 : decode cX6_leftAtMost 30 = .ok (.ishr, 1) := dk122 hX6_leftAtMost_30
theorem hX6_leftAtMost_31 : cX6_leftAtMost.data.toList.drop 31 = sX6_leftAtMost_31 := dn1 hX6_leftAtMost_30
theorem dX6_leftAtMost_31 : decode cX6_leftAtMost 31 = .ok (.iconst 1, 1) := dk4 hX6_leftAtMost_31
theorem hX6_leftAtMost_32 : cX6_leftAtMost.data.toList.drop 32 = sX6_leftAtMost_32 := dn1 hX6_leftAtMost_31
theorem dX6_leftAtMost_32 : decode cX6_leftAtMost 32 = .ok (.iand, 1) := dk126 hX6_leftAtMost_32
theorem hX6_leftAtMost_33 : cX6_leftAtMost.data.toList.drop 33 = sX6_leftAtMost_33 := dn1 hX6_leftAtMost_32
theorem dX6_leftAtMost_33 : decode cX6_leftAtMost 33 = .ok (.iconst 1, 1) := dk4 hX6_leftAtMost_33
theorem hX6_leftAtMost_34 : cX6_leftAtMost.data.toList.drop 34 = sX6_leftAtMost_34 := dn1 hX6_leftAtMost_33
theorem dX6_leftAtMost_34 : decode cX6_leftAtMost 34 = .ok (.if_icmp .ne 6, 3) := dk160 hX6_leftAtMost_34 (by decide)
theorem hX6_leftAtMost_37 : cX6_leftAtMost.data.toList.drop 37 = sX6_leftAtMost_37 := dn3 hX6_leftAtMost_34
theorem dX6_leftAtMost_37 : decode cX6_leftAtMost 37 = .ok (.iinc 3 1, 3) := dk132 hX6_leftAtMost_37 rfl (by decide)
theorem hX6_leftAtMost_40 : cX6_leftAtMost.data.toList.drop 40 = sX6_leftAtMost_40 := dn3 hX6_leftAtMost_37
theorem dX6_leftAtMost_40 : decode cX6_leftAtMost 40 = .ok (.iinc 4 1, 3) := dk132 hX6_leftAtMost_40 rfl (by decide)
theorem hX6_leftAtMost_43 : cX6_leftAtMost.data.toList.drop 43 = sX6_leftAtMost_43 := dn3 hX6_leftAtMost_40
theorem dX6_leftAtMost_43 : decode cX6_leftAtMost 43 = .ok (.goto (-38), 3) := dk167 hX6_leftAtMost_43 (by decide)
theorem hX6_leftAtMost_46 : cX6_leftAtMost.data.toList.drop 46 = sX6_leftAtMost_46 := dn3 hX6_leftAtMost_43
theorem dX6_leftAtMost_46 : decode cX6_leftAtMost 46 = .ok (.iload_n 3, 1) := dk29 hX6_leftAtMost_46
theorem hX6_leftAtMost_47 : cX6_leftAtMost.data.toList.drop 47 = sX6_leftAtMost_47 := dn1 hX6_leftAtMost_46
theorem dX6_leftAtMost_47 : decode cX6_leftAtMost 47 = .ok (.iload_n 1, 1) := dk27 hX6_leftAtMost_47
theorem hX6_leftAtMost_48 : cX6_leftAtMost.data.toList.drop 48 = sX6_leftAtMost_48 := dn1 hX6_leftAtMost_47
theorem dX6_leftAtMost_48 : decode cX6_leftAtMost 48 = .ok (.invokestatic 227, 3) := dk184 hX6_leftAtMost_48 rfl
theorem hX6_leftAtMost_51 : cX6_leftAtMost.data.toList.drop 51 = sX6_leftAtMost_51 := dn3 hX6_leftAtMost_48
theorem dX6_leftAtMost_51 : decode cX6_leftAtMost 51 = .ok (.iload_n 3, 1) := dk29 hX6_leftAtMost_51
theorem hX6_leftAtMost_52 : cX6_leftAtMost.data.toList.drop 52 = sX6_leftAtMost_52 := dn1 hX6_leftAtMost_51
theorem dX6_leftAtMost_52 : decode cX6_leftAtMost 52 = .ok (.isub, 1) := dk100 hX6_leftAtMost_52
theorem hX6_leftAtMost_53 : cX6_leftAtMost.data.toList.drop 53 = sX6_leftAtMost_53 := dn1 hX6_leftAtMost_52
theorem dX6_leftAtMost_53 : decode cX6_leftAtMost 53 = .ok (.invokestatic 281, 3) := dk184 hX6_leftAtMost_53 rfl
theorem hX6_leftAtMost_56 : cX6_leftAtMost.data.toList.drop 56 = sX6_leftAtMost_56 := dn3 hX6_leftAtMost_53
theorem dX6_leftAtMost_56 : decode cX6_leftAtMost 56 = .ok (.ireturn, 1) := dk172 hX6_leftAtMost_56
noncomputable def sX6_line_15 : List UInt8 := 172 :: []
noncomputable def sX6_line_12 : List UInt8 := 182 :: 0 :: 169 :: sX6_line_15
noncomputable def sX6_line_11 : List UInt8 := 42 :: sX6_line_12
noncomputable def sX6_line_8 : List UInt8 := 167 :: 0 :: 7 :: sX6_line_11
noncomputable def sX6_line_7 : List UInt8 := 2 :: sX6_line_8
noncomputable def sX6_line_4 : List UInt8 := 153 :: 0 :: 7 :: sX6_line_7
noncomputable def sX6_line_1 : List UInt8 := 182 :: 0 :: 140 :: sX6_line_4
noncomputable def sX6_line_0 : List UInt8 := 42 :: sX6_line_1
set_option maxRecDepth 100000 in
theorem hX6_line_0 : cX6_line.data.toList.drop 0 = sX6_line_0 := by decide +kernel
theorem dX6_line_0 : decode cX6_line 0 = .ok (.aload_n 0, 1) := dk42 hX6_line_0
theorem hX6_line_1 : cX6_line.data.toList.drop 1 = sX6_line_1 := dn1 hX6_line_0
theorem dX6_line_1 : decode cX6_line 1 = .ok (.invokevirtual 140, 3) := dk182 hX6_line_1 rfl
theorem hX6_line_4 : cX6_line.data.toList.drop 4 = sX6_line_4 := dn3 hX6_line_1
theorem dX6_line_4 : decode cX6_line 4 = .ok (.ifCond .eq 7, 3) := dk153 hX6_line_4 (by decide)
theorem hX6_line_7 : cX6_line.data.toList.drop 7 = sX6_line_7 := dn3 hX6_line_4
theorem dX6_line_7 : decode cX6_line 7 = .ok (.iconst (-1), 1) := dk2 hX6_line_7
theorem hX6_line_8 : cX6_line.data.toList.drop 8 = sX6_line_8 := dn1 hX6_line_7
theorem dX6_line_8 : decode cX6_line 8 = .ok (.goto 7, 3) := dk167 hX6_line_8 (by decide)
theorem hX6_line_11 : cX6_line.data.toList.drop 11 = sX6_line_11 := dn3 hX6_line_8
theorem dX6_line_11 : decode cX6_line 11 = .ok (.aload_n 0, 1) := dk42 hX6_line_11
theorem hX6_line_12 : cX6_line.data.toList.drop 12 = sX6_line_12 := dn1 hX6_line_11
theorem dX6_line_12 : decode cX6_line 12 = .ok (.invokevirtual 169, 3) := dk182 hX6_line_12 rfl
theorem hX6_line_15 : cX6_line.data.toList.drop 15 = sX6_line_15 := dn3 hX6_line_12
theorem dX6_line_15 : decode cX6_line 15 = .ok (.ireturn, 1) := dk172 hX6_line_15
noncomputable def sX6_lineAt_59 : List UInt8 := 172 :: []
noncomputable def sX6_lineAt_58 : List UInt8 := 28 :: sX6_lineAt_59
noncomputable def sX6_lineAt_55 : List UInt8 := 167 :: 255 :: 238 :: sX6_lineAt_58
noncomputable def sX6_lineAt_52 : List UInt8 := 132 :: 3 :: 1 :: sX6_lineAt_55
noncomputable def sX6_lineAt_51 : List UInt8 := 61 :: sX6_lineAt_52
noncomputable def sX6_lineAt_48 : List UInt8 := 182 :: 0 :: 166 :: sX6_lineAt_51
noncomputable def sX6_lineAt_47 : List UInt8 := 28 :: sX6_lineAt_48
noncomputable def sX6_lineAt_46 : List UInt8 := 42 :: sX6_lineAt_47
noncomputable def sX6_lineAt_43 : List UInt8 := 155 :: 0 :: 15 :: sX6_lineAt_46
noncomputable def sX6_lineAt_42 : List UInt8 := 28 :: sX6_lineAt_43
noncomputable def sX6_lineAt_39 : List UInt8 := 162 :: 0 :: 19 :: sX6_lineAt_42
noncomputable def sX6_lineAt_38 : List UInt8 := 27 :: sX6_lineAt_39
noncomputable def sX6_lineAt_37 : List UInt8 := 29 :: sX6_lineAt_38
noncomputable def sX6_lineAt_36 : List UInt8 := 62 :: sX6_lineAt_37
noncomputable def sX6_lineAt_35 : List UInt8 := 3 :: sX6_lineAt_36
noncomputable def sX6_lineAt_34 : List UInt8 := 61 :: sX6_lineAt_35
noncomputable def sX6_lineAt_31 : List UInt8 := 180 :: 0 :: 144 :: sX6_lineAt_34
noncomputable def sX6_lineAt_28 : List UInt8 := 180 :: 0 :: 19 :: sX6_lineAt_31
noncomputable def sX6_lineAt_27 : List UInt8 := 42 :: sX6_lineAt_28
noncomputable def sX6_lineAt_26 : List UInt8 := 172 :: sX6_lineAt_27
noncomputable def sX6_lineAt_23 : List UInt8 := 182 :: 0 :: 66 :: sX6_lineAt_26
noncomputable def sX6_lineAt_22 : List UInt8 := 4 :: sX6_lineAt_23
noncomputable def sX6_lineAt_21 : List UInt8 := 42 :: sX6_lineAt_22
noncomputable def sX6_lineAt_18 : List UInt8 := 161 :: 0 :: 9 :: sX6_lineAt_21
noncomputable def sX6_lineAt_15 : List UInt8 := 182 :: 0 :: 169 :: sX6_lineAt_18
noncomputable def sX6_lineAt_14 : List UInt8 := 42 :: sX6_lineAt_15
noncomputable def sX6_lineAt_13 : List UInt8 := 27 :: sX6_lineAt_14
noncomputable def sX6_lineAt_10 : List UInt8 := 155 :: 0 :: 11 :: sX6_lineAt_13
noncomputable def sX6_lineAt_9 : List UInt8 := 27 :: sX6_lineAt_10
noncomputable def sX6_lineAt_8 : List UInt8 := 172 :: sX6_lineAt_9
noncomputable def sX6_lineAt_7 : List UInt8 := 2 :: sX6_lineAt_8
noncomputable def sX6_lineAt_4 : List UInt8 := 153 :: 0 :: 5 :: sX6_lineAt_7
noncomputable def sX6_lineAt_1 : List UInt8 := 182 :: 0 :: 140 :: sX6_lineAt_4
noncomputable def sX6_lineAt_0 : List UInt8 := 42 :: sX6_lineAt_1
set_option maxRecDepth 100000 in
theorem hX6_lineAt_0 : cX6_lineAt.data.toList.drop 0 = sX6_lineAt_0 := by decide +kernel
theorem dX6_lineAt_0 : decode cX6_lineAt 0 = .ok (.aload_n 0, 1) := dk42 hX6_lineAt_0
theorem hX6_lineAt_1 : cX6_lineAt.data.toList.drop 1 = sX6_lineAt_1 := dn1 hX6_lineAt_0
theorem dX6_lineAt_1 : decode cX6_lineAt 1 = .ok (.invokevirtual 140, 3) := dk182 hX6_lineAt_1 rfl
theorem hX6_lineAt_4 : cX6_lineAt.data.toList.drop 4 = sX6_lineAt_4 := dn3 hX6_lineAt_1
theorem dX6_lineAt_4 : decode cX6_lineAt 4 = .ok (.ifCond .eq 5, 3) := dk153 hX6_lineAt_4 (by decide)
theorem hX6_lineAt_7 : cX6_lineAt.data.toList.drop 7 = sX6_lineAt_7 := dn3 hX6_lineAt_4
theorem dX6_lineAt_7 : decode cX6_lineAt 7 = .ok (.iconst (-1), 1) := dk2 hX6_lineAt_7
theorem hX6_lineAt_8 : cX6_lineAt.data.toList.drop 8 = sX6_lineAt_8 := dn1 hX6_lineAt_7
theorem dX6_lineAt_8 : decode cX6_lineAt 8 = .ok (.ireturn, 1) := dk172 hX6_lineAt_8
theorem hX6_lineAt_9 : cX6_lineAt.data.toList.drop 9 = sX6_lineAt_9 := dn1 hX6_lineAt_8
theorem dX6_lineAt_9 : decode cX6_lineAt 9 = .ok (.iload_n 1, 1) := dk27 hX6_lineAt_9
theorem hX6_lineAt_10 : cX6_lineAt.data.toList.drop 10 = sX6_lineAt_10 := dn1 hX6_lineAt_9
theorem dX6_lineAt_10 : decode cX6_lineAt 10 = .ok (.ifCond .lt 11, 3) := dk155 hX6_lineAt_10 (by decide)
theorem hX6_lineAt_13 : cX6_lineAt.data.toList.drop 13 = sX6_lineAt_13 := dn3 hX6_lineAt_10
theorem dX6_lineAt_13 : decode cX6_lineAt 13 = .ok (.iload_n 1, 1) := dk27 hX6_lineAt_13
theorem hX6_lineAt_14 : cX6_lineAt.data.toList.drop 14 = sX6_lineAt_14 := dn1 hX6_lineAt_13
theorem dX6_lineAt_14 : decode cX6_lineAt 14 = .ok (.aload_n 0, 1) := dk42 hX6_lineAt_14
theorem hX6_lineAt_15 : cX6_lineAt.data.toList.drop 15 = sX6_lineAt_15 := dn1 hX6_lineAt_14
theorem dX6_lineAt_15 : decode cX6_lineAt 15 = .ok (.invokevirtual 169, 3) := dk182 hX6_lineAt_15 rfl
theorem hX6_lineAt_18 : cX6_lineAt.data.toList.drop 18 = sX6_lineAt_18 := dn3 hX6_lineAt_15
theorem dX6_lineAt_18 : decode cX6_lineAt 18 = .ok (.if_icmp .lt 9, 3) := dk161 hX6_lineAt_18 (by decide)
theorem hX6_lineAt_21 : cX6_lineAt.data.toList.drop 21 = sX6_lineAt_21 := dn3 hX6_lineAt_18
theorem dX6_lineAt_21 : decode cX6_lineAt 21 = .ok (.aload_n 0, 1) := dk42 hX6_lineAt_21
theorem hX6_lineAt_22 : cX6_lineAt.data.toList.drop 22 = sX6_lineAt_22 := dn1 hX6_lineAt_21
theorem dX6_lineAt_22 : decode cX6_lineAt 22 = .ok (.iconst 1, 1) := dk4 hX6_lineAt_22
theorem hX6_lineAt_23 : cX6_lineAt.data.toList.drop 23 = sX6_lineAt_23 := dn1 hX6_lineAt_22
theorem dX6_lineAt_23 : decode cX6_lineAt 23 = .ok (.invokevirtual 66, 3) := dk182 hX6_lineAt_23 rfl
theorem hX6_lineAt_26 : cX6_lineAt.data.toList.drop 26 = sX6_lineAt_26 := dn3 hX6_lineAt_23
theorem dX6_lineAt_26 : decode cX6_lineAt 26 = .ok (.ireturn, 1) := dk172 hX6_lineAt_26
theorem hX6_lineAt_27 : cX6_lineAt.data.toList.drop 27 = sX6_lineAt_27 := dn1 hX6_lineAt_26
theorem dX6_lineAt_27 : decode cX6_lineAt 27 = .ok (.aload_n 0, 1) := dk42 hX6_lineAt_27
theorem hX6_lineAt_28 : cX6_lineAt.data.toList.drop 28 = sX6_lineAt_28 := dn1 hX6_lineAt_27
theorem dX6_lineAt_28 : decode cX6_lineAt 28 = .ok (.getfield 19, 3) := dk180 hX6_lineAt_28 rfl
theorem hX6_lineAt_31 : cX6_lineAt.data.toList.drop 31 = sX6_lineAt_31 := dn3 hX6_lineAt_28
theorem dX6_lineAt_31 : decode cX6_lineAt 31 = .ok (.getfield 144, 3) := dk180 hX6_lineAt_31 rfl
theorem hX6_lineAt_34 : cX6_lineAt.data.toList.drop 34 = sX6_lineAt_34 := dn3 hX6_lineAt_31
theorem dX6_lineAt_34 : decode cX6_lineAt 34 = .ok (.istore_n 2, 1) := dk61 hX6_lineAt_34
theorem hX6_lineAt_35 : cX6_lineAt.data.toList.drop 35 = sX6_lineAt_35 := dn1 hX6_lineAt_34
theorem dX6_lineAt_35 : decode cX6_lineAt 35 = .ok (.iconst 0, 1) := dk3 hX6_lineAt_35
theorem hX6_lineAt_36 : cX6_lineAt.data.toList.drop 36 = sX6_lineAt_36 := dn1 hX6_lineAt_35
theorem dX6_lineAt_36 : decode cX6_lineAt 36 = .ok (.istore_n 3, 1) := dk62 hX6_lineAt_36
theorem hX6_lineAt_37 : cX6_lineAt.data.toList.drop 37 = sX6_lineAt_37 := dn1 hX6_lineAt_36
theorem dX6_lineAt_37 : decode cX6_lineAt 37 = .ok (.iload_n 3, 1) := dk29 hX6_lineAt_37
theorem hX6_lineAt_38 : cX6_lineAt.data.toList.drop 38 = sX6_lineAt_38 := dn1 hX6_lineAt_37
theorem dX6_lineAt_38 : decode cX6_lineAt 38 = .ok (.iload_n 1, 1) := dk27 hX6_lineAt_38
theorem hX6_lineAt_39 : cX6_lineAt.data.toList.drop 39 = sX6_lineAt_39 := dn1 hX6_lineAt_38
theorem dX6_lineAt_39 : decode cX6_lineAt 39 = .ok (.if_icmp .ge 19, 3) := dk162 hX6_lineAt_39 (by decide)
theorem hX6_lineAt_42 : cX6_lineAt.data.toList.drop 42 = sX6_lineAt_42 := dn3 hX6_lineAt_39
theorem dX6_lineAt_42 : decode cX6_lineAt 42 = .ok (.iload_n 2, 1) := dk28 hX6_lineAt_42
theorem hX6_lineAt_43 : cX6_lineAt.data.toList.drop 43 = sX6_lineAt_43 := dn1 hX6_lineAt_42
theorem dX6_lineAt_43 : decode cX6_lineAt 43 = .ok (.ifCond .lt 15, 3) := dk155 hX6_lineAt_43 (by decide)
theorem hX6_lineAt_46 : cX6_lineAt.data.toList.drop 46 = sX6_lineAt_46 := dn3 hX6_lineAt_43
theorem dX6_lineAt_46 : decode cX6_lineAt 46 = .ok (.aload_n 0, 1) := dk42 hX6_lineAt_46
theorem hX6_lineAt_47 : cX6_lineAt.data.toList.drop 47 = sX6_lineAt_47 := dn1 hX6_lineAt_46
theorem dX6_lineAt_47 : decode cX6_lineAt 47 = .ok (.iload_n 2, 1) := dk28 hX6_lineAt_47
theorem hX6_lineAt_48 : cX6_lineAt.data.toList.drop 48 = sX6_lineAt_48 := dn1 hX6_lineAt_47
theorem dX6_lineAt_48 : decode cX6_lineAt 48 = .ok (.invokevirtual 166, 3) := dk182 hX6_lineAt_48 rfl
theorem hX6_lineAt_51 : cX6_lineAt.data.toList.drop 51 = sX6_lineAt_51 := dn3 hX6_lineAt_48
theorem dX6_lineAt_51 : decode cX6_lineAt 51 = .ok (.istore_n 2, 1) := dk61 hX6_lineAt_51
theorem hX6_lineAt_52 : cX6_lineAt.data.toList.drop 52 = sX6_lineAt_52 := dn1 hX6_lineAt_51
theorem dX6_lineAt_52 : decode cX6_lineAt 52 = .ok (.iinc 3 1, 3) := dk132 hX6_lineAt_52 rfl (by decide)
theorem hX6_lineAt_55 : cX6_lineAt.data.toList.drop 55 = sX6_lineAt_55 := dn3 hX6_lineAt_52
theorem dX6_lineAt_55 : decode cX6_lineAt 55 = .ok (.goto (-18), 3) := dk167 hX6_lineAt_55 (by decide)
theorem hX6_lineAt_58 : cX6_lineAt.data.toList.drop 58 = sX6_lineAt_58 := dn3 hX6_lineAt_55
theorem dX6_lineAt_58 : decode cX6_lineAt 58 = .ok (.iload_n 2, 1) := dk28 hX6_lineAt_58
theorem hX6_lineAt_59 : cX6_lineAt.data.toList.drop 59 = sX6_lineAt_59 := dn1 hX6_lineAt_58
theorem dX6_lineAt_59 : decode cX6_lineAt 59 = .ok (.ireturn, 1) := dk172 hX6_lineAt_59
noncomputable def sX6_lineLength_61 : List UInt8 := 172 :: []
noncomputable def sX6_lineLength_60 : List UInt8 := 27 :: sX6_lineLength_61
noncomputable def sX6_lineLength_57 : List UInt8 := 167 :: 255 :: 234 :: sX6_lineLength_60
noncomputable def sX6_lineLength_54 : List UInt8 := 132 :: 3 :: 1 :: sX6_lineLength_57
noncomputable def sX6_lineLength_53 : List UInt8 := 61 :: sX6_lineLength_54
noncomputable def sX6_lineLength_50 : List UInt8 := 182 :: 0 :: 166 :: sX6_lineLength_53
noncomputable def sX6_lineLength_49 : List UInt8 := 28 :: sX6_lineLength_50
noncomputable def sX6_lineLength_48 : List UInt8 := 42 :: sX6_lineLength_49
noncomputable def sX6_lineLength_45 : List UInt8 := 132 :: 1 :: 1 :: sX6_lineLength_48
noncomputable def sX6_lineLength_42 : List UInt8 := 155 :: 0 :: 18 :: sX6_lineLength_45
noncomputable def sX6_lineLength_41 : List UInt8 := 28 :: sX6_lineLength_42
noncomputable def sX6_lineLength_38 : List UInt8 := 162 :: 0 :: 22 :: sX6_lineLength_41
noncomputable def sX6_lineLength_36 : List UInt8 := 16 :: 18 :: sX6_lineLength_38
noncomputable def sX6_lineLength_35 : List UInt8 := 29 :: sX6_lineLength_36
noncomputable def sX6_lineLength_34 : List UInt8 := 62 :: sX6_lineLength_35
noncomputable def sX6_lineLength_33 : List UInt8 := 3 :: sX6_lineLength_34
noncomputable def sX6_lineLength_32 : List UInt8 := 61 :: sX6_lineLength_33
noncomputable def sX6_lineLength_29 : List UInt8 := 182 :: 0 :: 166 :: sX6_lineLength_32
noncomputable def sX6_lineLength_26 : List UInt8 := 180 :: 0 :: 144 :: sX6_lineLength_29
noncomputable def sX6_lineLength_23 : List UInt8 := 180 :: 0 :: 19 :: sX6_lineLength_26
noncomputable def sX6_lineLength_22 : List UInt8 := 42 :: sX6_lineLength_23
noncomputable def sX6_lineLength_21 : List UInt8 := 42 :: sX6_lineLength_22
noncomputable def sX6_lineLength_20 : List UInt8 := 60 :: sX6_lineLength_21
noncomputable def sX6_lineLength_19 : List UInt8 := 4 :: sX6_lineLength_20
noncomputable def sX6_lineLength_18 : List UInt8 := 87 :: sX6_lineLength_19
noncomputable def sX6_lineLength_15 : List UInt8 := 182 :: 0 :: 152 :: sX6_lineLength_18
noncomputable def sX6_lineLength_12 : List UInt8 := 180 :: 0 :: 149 :: sX6_lineLength_15
noncomputable def sX6_lineLength_9 : List UInt8 := 180 :: 0 :: 26 :: sX6_lineLength_12
noncomputable def sX6_lineLength_8 : List UInt8 := 42 :: sX6_lineLength_9
noncomputable def sX6_lineLength_5 : List UInt8 := 180 :: 0 :: 19 :: sX6_lineLength_8
noncomputable def sX6_lineLength_4 : List UInt8 := 42 :: sX6_lineLength_5
noncomputable def sX6_lineLength_1 : List UInt8 := 180 :: 0 :: 54 :: sX6_lineLength_4
noncomputable def sX6_lineLength_0 : List UInt8 := 42 :: sX6_lineLength_1
set_option maxRecDepth 100000 in
theorem hX6_lineLength_0 : cX6_lineLength.data.toList.drop 0 = sX6_lineLength_0 := by decide +kernel
theorem dX6_lineLength_0 : decode cX6_lineLength 0 = .ok (.aload_n 0, 1) := dk42 hX6_lineLength_0
theorem hX6_lineLength_1 : cX6_lineLength.data.toList.drop 1 = sX6_lineLength_1 := dn1 hX6_lineLength_0
theorem dX6_lineLength_1 : decode cX6_lineLength 1 = .ok (.getfield 54, 3) := dk180 hX6_lineLength_1 rfl
theorem hX6_lineLength_4 : cX6_lineLength.data.toList.drop 4 = sX6_lineLength_4 := dn3 hX6_lineLength_1
theorem dX6_lineLength_4 : decode cX6_lineLength 4 = .ok (.aload_n 0, 1) := dk42 hX6_lineLength_4
theorem hX6_lineLength_5 : cX6_lineLength.data.toList.drop 5 = sX6_lineLength_5 := dn1 hX6_lineLength_4
theorem dX6_lineLength_5 : decode cX6_lineLength 5 = .ok (.getfield 19, 3) := dk180 hX6_lineLength_5 rfl
theorem hX6_lineLength_8 : cX6_lineLength.data.toList.drop 8 = sX6_lineLength_8 := dn3 hX6_lineLength_5
theorem dX6_lineLength_8 : decode cX6_lineLength 8 = .ok (.aload_n 0, 1) := dk42 hX6_lineLength_8
theorem hX6_lineLength_9 : cX6_lineLength.data.toList.drop 9 = sX6_lineLength_9 := dn1 hX6_lineLength_8
theorem dX6_lineLength_9 : decode cX6_lineLength 9 = .ok (.getfield 26, 3) := dk180 hX6_lineLength_9 rfl
theorem hX6_lineLength_12 : cX6_lineLength.data.toList.drop 12 = sX6_lineLength_12 := dn3 hX6_lineLength_9
theorem dX6_lineLength_12 : decode cX6_lineLength 12 = .ok (.getfield 149, 3) := dk180 hX6_lineLength_12 rfl
theorem hX6_lineLength_15 : cX6_lineLength.data.toList.drop 15 = sX6_lineLength_15 := dn3 hX6_lineLength_12
theorem dX6_lineLength_15 : decode cX6_lineLength 15 = .ok (.invokevirtual 152, 3) := dk182 hX6_lineLength_15 rfl
theorem hX6_lineLength_18 : cX6_lineLength.data.toList.drop 18 = sX6_lineLength_18 := dn3 hX6_lineLength_15
theorem dX6_lineLength_18 : decode cX6_lineLength 18 = .ok (.pop, 1) := dk87 hX6_lineLength_18
theorem hX6_lineLength_19 : cX6_lineLength.data.toList.drop 19 = sX6_lineLength_19 := dn1 hX6_lineLength_18
theorem dX6_lineLength_19 : decode cX6_lineLength 19 = .ok (.iconst 1, 1) := dk4 hX6_lineLength_19
theorem hX6_lineLength_20 : cX6_lineLength.data.toList.drop 20 = sX6_lineLength_20 := dn1 hX6_lineLength_19
theorem dX6_lineLength_20 : decode cX6_lineLength 20 = .ok (.istore_n 1, 1) := dk60 hX6_lineLength_20
theorem hX6_lineLength_21 : cX6_lineLength.data.toList.drop 21 = sX6_lineLength_21 := dn1 hX6_lineLength_20
theorem dX6_lineLength_21 : decode cX6_lineLength 21 = .ok (.aload_n 0, 1) := dk42 hX6_lineLength_21
theorem hX6_lineLength_22 : cX6_lineLength.data.toList.drop 22 = sX6_lineLength_22 := dn1 hX6_lineLength_21
theorem dX6_lineLength_22 : decode cX6_lineLength 22 = .ok (.aload_n 0, 1) := dk42 hX6_lineLength_22
theorem hX6_lineLength_23 : cX6_lineLength.data.toList.drop 23 = sX6_lineLength_23 := dn1 hX6_lineLength_22
theorem dX6_lineLength_23 : decode cX6_lineLength 23 = .ok (.getfield 19, 3) := dk180 hX6_lineLength_23 rfl
theorem hX6_lineLength_26 : cX6_lineLength.data.toList.drop 26 = sX6_lineLength_26 := dn3 hX6_lineLength_23
theorem dX6_lineLength_26 : decode cX6_lineLength 26 = .ok (.getfield 144, 3) := dk180 hX6_lineLength_26 rfl
theorem hX6_lineLength_29 : cX6_lineLength.data.toList.drop 29 = sX6_lineLength_29 := dn3 hX6_lineLength_26
theorem dX6_lineLength_29 : decode cX6_lineLength 29 = .ok (.invokevirtual 166, 3) := dk182 hX6_lineLength_29 rfl
theorem hX6_lineLength_32 : cX6_lineLength.data.toList.drop 32 = sX6_lineLength_32 := dn3 hX6_lineLength_29
theorem dX6_lineLength_32 : decode cX6_lineLength 32 = .ok (.istore_n 2, 1) := dk61 hX6_lineLength_32
theorem hX6_lineLength_33 : cX6_lineLength.data.toList.drop 33 = sX6_lineLength_33 := dn1 hX6_lineLength_32
theorem dX6_lineLength_33 : decode cX6_lineLength 33 = .ok (.iconst 0, 1) := dk3 hX6_lineLength_33
theorem hX6_lineLength_34 : cX6_lineLength.data.toList.drop 34 = sX6_lineLength_34 := dn1 hX6_lineLength_33
theorem dX6_lineLength_34 : decode cX6_lineLength 34 = .ok (.istore_n 3, 1) := dk62 hX6_lineLength_34
theorem hX6_lineLength_35 : cX6_lineLength.data.toList.drop 35 = sX6_lineLength_35 := dn1 hX6_lineLength_34
theorem dX6_lineLength_35 : decode cX6_lineLength 35 = .ok (.iload_n 3, 1) := dk29 hX6_lineLength_35
theorem hX6_lineLength_36 : cX6_lineLength.data.toList.drop 36 = sX6_lineLength_36 := dn1 hX6_lineLength_35
theorem dX6_lineLength_36 : decode cX6_lineLength 36 = .ok (.bipush 18, 2) := dk16 hX6_lineLength_36 (by decide)
theorem hX6_lineLength_38 : cX6_lineLength.data.toList.drop 38 = sX6_lineLength_38 := dn2 hX6_lineLength_36
theorem dX6_lineLength_38 : decode cX6_lineLength 38 = .ok (.if_icmp .ge 22, 3) := dk162 hX6_lineLength_38 (by decide)
theorem hX6_lineLength_41 : cX6_lineLength.data.toList.drop 41 = sX6_lineLength_41 := dn3 hX6_lineLength_38
theorem dX6_lineLength_41 : decode cX6_lineLength 41 = .ok (.iload_n 2, 1) := dk28 hX6_lineLength_41
theorem hX6_lineLength_42 : cX6_lineLength.data.toList.drop 42 = sX6_lineLength_42 := dn1 hX6_lineLength_41
theorem dX6_lineLength_42 : decode cX6_lineLength 42 = .ok (.ifCond .lt 18, 3) := dk155 hX6_lineLength_42 (by decide)
theorem hX6_lineLength_45 : cX6_lineLength.data.toList.drop 45 = sX6_lineLength_45 := dn3 hX6_lineLength_42
theorem dX6_lineLength_45 : decode cX6_lineLength 45 = .ok (.iinc 1 1, 3) := dk132 hX6_lineLength_45 rfl (by decide)
theorem hX6_lineLength_48 : cX6_lineLength.data.toList.drop 48 = sX6_lineLength_48 := dn3 hX6_lineLength_45
theorem dX6_lineLength_48 : decode cX6_lineLength 48 = .ok (.aload_n 0, 1) := dk42 hX6_lineLength_48
theorem hX6_lineLength_49 : cX6_lineLength.data.toList.drop 49 = sX6_lineLength_49 := dn1 hX6_lineLength_48
theorem dX6_lineLength_49 : decode cX6_lineLength 49 = .ok (.iload_n 2, 1) := dk28 hX6_lineLength_49
theorem hX6_lineLength_50 : cX6_lineLength.data.toList.drop 50 = sX6_lineLength_50 := dn1 hX6_lineLength_49
theorem dX6_lineLength_50 : decode cX6_lineLength 50 = .ok (.invokevirtual 166, 3) := dk182 hX6_lineLength_50 rfl
theorem hX6_lineLength_53 : cX6_lineLength.data.toList.drop 53 = sX6_lineLength_53 := dn3 hX6_lineLength_50
theorem dX6_lineLength_53 : decode cX6_lineLength 53 = .ok (.istore_n 2, 1) := dk61 hX6_lineLength_53
theorem hX6_lineLength_54 : cX6_lineLength.data.toList.drop 54 = sX6_lineLength_54 := dn1 hX6_lineLength_53
theorem dX6_lineLength_54 : decode cX6_lineLength 54 = .ok (.iinc 3 1, 3) := dk132 hX6_lineLength_54 rfl (by decide)
theorem hX6_lineLength_57 : cX6_lineLength.data.toList.drop 57 = sX6_lineLength_57 := dn3 hX6_lineLength_54
theorem dX6_lineLength_57 : decode cX6_lineLength 57 = .ok (.goto (-22), 3) := dk167 hX6_lineLength_57 (by decide)
theorem hX6_lineLength_60 : cX6_lineLength.data.toList.drop 60 = sX6_lineLength_60 := dn3 hX6_lineLength_57
theorem dX6_lineLength_60 : decode cX6_lineLength 60 = .ok (.iload_n 1, 1) := dk27 hX6_lineLength_60
theorem hX6_lineLength_61 : cX6_lineLength.data.toList.drop 61 = sX6_lineLength_61 := dn1 hX6_lineLength_60
theorem dX6_lineLength_61 : decode cX6_lineLength 61 = .ok (.ireturn, 1) := dk172 hX6_lineLength_61
noncomputable def sX6_mean_89 : List UInt8 := 173 :: []
noncomputable def sX6_mean_86 : List UInt8 := 184 :: 0 :: 162 :: sX6_mean_89
noncomputable def sX6_mean_85 : List UInt8 := 27 :: sX6_mean_86
noncomputable def sX6_mean_84 : List UInt8 := 105 :: sX6_mean_85
noncomputable def sX6_mean_83 : List UInt8 := 133 :: sX6_mean_84
noncomputable def sX6_mean_80 : List UInt8 := 180 :: 0 :: 159 :: sX6_mean_83
noncomputable def sX6_mean_77 : List UInt8 := 180 :: 0 :: 19 :: sX6_mean_80
noncomputable def sX6_mean_76 : List UInt8 := 42 :: sX6_mean_77
noncomputable def sX6_mean_73 : List UInt8 := 182 :: 1 :: 66 :: sX6_mean_76
noncomputable def sX6_mean_70 : List UInt8 := 180 :: 0 :: 19 :: sX6_mean_73
noncomputable def sX6_mean_69 : List UInt8 := 42 :: sX6_mean_70
noncomputable def sX6_mean_68 : List UInt8 := 32 :: sX6_mean_69
noncomputable def sX6_mean_65 : List UInt8 := 167 :: 255 :: 207 :: sX6_mean_68
noncomputable def sX6_mean_62 : List UInt8 := 132 :: 4 :: 1 :: sX6_mean_65
noncomputable def sX6_mean_61 : List UInt8 := 65 :: sX6_mean_62
noncomputable def sX6_mean_60 : List UInt8 := 97 :: sX6_mean_61
noncomputable def sX6_mean_59 : List UInt8 := 105 :: sX6_mean_60
noncomputable def sX6_mean_58 : List UInt8 := 133 :: sX6_mean_59
noncomputable def sX6_mean_55 : List UInt8 := 182 :: 1 :: 49 :: sX6_mean_58
noncomputable def sX6_mean_53 : List UInt8 := 21 :: 4 :: sX6_mean_55
noncomputable def sX6_mean_50 : List UInt8 := 180 :: 0 :: 149 :: sX6_mean_53
noncomputable def sX6_mean_47 : List UInt8 := 180 :: 0 :: 26 :: sX6_mean_50
noncomputable def sX6_mean_46 : List UInt8 := 42 :: sX6_mean_47
noncomputable def sX6_mean_43 : List UInt8 := 180 :: 0 :: 19 :: sX6_mean_46
noncomputable def sX6_mean_42 : List UInt8 := 42 :: sX6_mean_43
noncomputable def sX6_mean_39 : List UInt8 := 180 :: 0 :: 54 :: sX6_mean_42
noncomputable def sX6_mean_38 : List UInt8 := 42 :: sX6_mean_39
noncomputable def sX6_mean_35 : List UInt8 := 182 :: 1 :: 62 :: sX6_mean_38
noncomputable def sX6_mean_33 : List UInt8 := 21 :: 4 :: sX6_mean_35
noncomputable def sX6_mean_30 : List UInt8 := 180 :: 0 :: 19 :: sX6_mean_33
noncomputable def sX6_mean_29 : List UInt8 := 42 :: sX6_mean_30
noncomputable def sX6_mean_28 : List UInt8 := 32 :: sX6_mean_29
noncomputable def sX6_mean_25 : List UInt8 := 162 :: 0 :: 43 :: sX6_mean_28
noncomputable def sX6_mean_22 : List UInt8 := 182 :: 1 :: 34 :: sX6_mean_25
noncomputable def sX6_mean_19 : List UInt8 := 180 :: 0 :: 19 :: sX6_mean_22
noncomputable def sX6_mean_18 : List UInt8 := 42 :: sX6_mean_19
noncomputable def sX6_mean_16 : List UInt8 := 21 :: 4 :: sX6_mean_18
noncomputable def sX6_mean_14 : List UInt8 := 54 :: 4 :: sX6_mean_16
noncomputable def sX6_mean_13 : List UInt8 := 3 :: sX6_mean_14
noncomputable def sX6_mean_12 : List UInt8 := 65 :: sX6_mean_13
noncomputable def sX6_mean_11 : List UInt8 := 9 :: sX6_mean_12
noncomputable def sX6_mean_10 : List UInt8 := 173 :: sX6_mean_11
noncomputable def sX6_mean_7 : List UInt8 := 20 :: 0 :: 147 :: sX6_mean_10
noncomputable def sX6_mean_4 : List UInt8 := 153 :: 0 :: 7 :: sX6_mean_7
noncomputable def sX6_mean_1 : List UInt8 := 182 :: 0 :: 140 :: sX6_mean_4
noncomputable def sX6_mean_0 : List UInt8 := 42 :: sX6_mean_1
set_option maxRecDepth 100000 in
theorem hX6_mean_0 : cX6_mean.data.toList.drop 0 = sX6_mean_0 := by decide +kernel
theorem dX6_mean_0 : decode cX6_mean 0 = .ok (.aload_n 0, 1) := dk42 hX6_mean_0
theorem hX6_mean_1 : cX6_mean.data.toList.drop 1 = sX6_mean_1 := dn1 hX6_mean_0
theorem dX6_mean_1 : decode cX6_mean 1 = .ok (.invokevirtual 140, 3) := dk182 hX6_mean_1 rfl
theorem hX6_mean_4 : cX6_mean.data.toList.drop 4 = sX6_mean_4 := dn3 hX6_mean_1
theorem dX6_mean_4 : decode cX6_mean 4 = .ok (.ifCond .eq 7, 3) := dk153 hX6_mean_4 (by decide)
theorem hX6_mean_7 : cX6_mean.data.toList.drop 7 = sX6_mean_7 := dn3 hX6_mean_4
theorem dX6_mean_7 : decode cX6_mean 7 = .ok (.ldc2_w 147, 3) := dk20 hX6_mean_7 rfl
theorem hX6_mean_10 : cX6_mean.data.toList.drop 10 = sX6_mean_10 := dn3 hX6_mean_7
theorem dX6_mean_10 : decode cX6_mean 10 = .ok (.lreturn, 1) := dk173 hX6_mean_10
theorem hX6_mean_11 : cX6_mean.data.toList.drop 11 = sX6_mean_11 := dn1 hX6_mean_10
theorem dX6_mean_11 : decode cX6_mean 11 = .ok (.lconst 0, 1) := dk9 hX6_mean_11
theorem hX6_mean_12 : cX6_mean.data.toList.drop 12 = sX6_mean_12 := dn1 hX6_mean_11
theorem dX6_mean_12 : decode cX6_mean 12 = .ok (.lstore_n 2, 1) := dk65 hX6_mean_12
theorem hX6_mean_13 : cX6_mean.data.toList.drop 13 = sX6_mean_13 := dn1 hX6_mean_12
theorem dX6_mean_13 : decode cX6_mean 13 = .ok (.iconst 0, 1) := dk3 hX6_mean_13
theorem hX6_mean_14 : cX6_mean.data.toList.drop 14 = sX6_mean_14 := dn1 hX6_mean_13
theorem dX6_mean_14 : decode cX6_mean 14 = .ok (.istore 4, 2) := dk54 hX6_mean_14 rfl
theorem hX6_mean_16 : cX6_mean.data.toList.drop 16 = sX6_mean_16 := dn2 hX6_mean_14
theorem dX6_mean_16 : decode cX6_mean 16 = .ok (.iload 4, 2) := dk21 hX6_mean_16 rfl
theorem hX6_mean_18 : cX6_mean.data.toList.drop 18 = sX6_mean_18 := dn2 hX6_mean_16
theorem dX6_mean_18 : decode cX6_mean 18 = .ok (.aload_n 0, 1) := dk42 hX6_mean_18
theorem hX6_mean_19 : cX6_mean.data.toList.drop 19 = sX6_mean_19 := dn1 hX6_mean_18
theorem dX6_mean_19 : decode cX6_mean 19 = .ok (.getfield 19, 3) := dk180 hX6_mean_19 rfl
theorem hX6_mean_22 : cX6_mean.data.toList.drop 22 = sX6_mean_22 := dn3 hX6_mean_19
theorem dX6_mean_22 : decode cX6_mean 22 = .ok (.invokevirtual 290, 3) := dk182 hX6_mean_22 rfl
theorem hX6_mean_25 : cX6_mean.data.toList.drop 25 = sX6_mean_25 := dn3 hX6_mean_22
theorem dX6_mean_25 : decode cX6_mean 25 = .ok (.if_icmp .ge 43, 3) := dk162 hX6_mean_25 (by decide)
theorem hX6_mean_28 : cX6_mean.data.toList.drop 28 = sX6_mean_28 := dn3 hX6_mean_25
theorem dX6_mean_28 : decode cX6_mean 28 = .ok (.lload_n 2, 1) := dk32 hX6_mean_28
theorem hX6_mean_29 : cX6_mean.data.toList.drop 29 = sX6_mean_29 := dn1 hX6_mean_28
theorem dX6_mean_29 : decode cX6_mean 29 = .ok (.aload_n 0, 1) := dk42 hX6_mean_29
theorem hX6_mean_30 : cX6_mean.data.toList.drop 30 = sX6_mean_30 := dn1 hX6_mean_29
theorem dX6_mean_30 : decode cX6_mean 30 = .ok (.getfield 19, 3) := dk180 hX6_mean_30 rfl
theorem hX6_mean_33 : cX6_mean.data.toList.drop 33 = sX6_mean_33 := dn3 hX6_mean_30
theorem dX6_mean_33 : decode cX6_mean 33 = .ok (.iload 4, 2) := dk21 hX6_mean_33 rfl
theorem hX6_mean_35 : cX6_mean.data.toList.drop 35 = sX6_mean_35 := dn2 hX6_mean_33
theorem dX6_mean_35 : decode cX6_mean 35 = .ok (.invokevirtual 318, 3) := dk182 hX6_mean_35 rfl
theorem hX6_mean_38 : cX6_mean.data.toList.drop 38 = sX6_mean_38 := dn3 hX6_mean_35
theorem dX6_mean_38 : decode cX6_mean 38 = .ok (.aload_n 0, 1) := dk42 hX6_mean_38
theorem hX6_mean_39 : cX6_mean.data.toList.drop 39 = sX6_mean_39 := dn1 hX6_mean_38
theorem dX6_mean_39 : decode cX6_mean 39 = .ok (.getfield 54, 3) := dk180 hX6_mean_39 rfl
theorem hX6_mean_42 : cX6_mean.data.toList.drop 42 = sX6_mean_42 := dn3 hX6_mean_39
theorem dX6_mean_42 : decode cX6_mean 42 = .ok (.aload_n 0, 1) := dk42 hX6_mean_42
theorem hX6_mean_43 : cX6_mean.data.toList.drop 43 = sX6_mean_43 := dn1 hX6_mean_42
theorem dX6_mean_43 : decode cX6_mean 43 = .ok (.getfield 19, 3) := dk180 hX6_mean_43 rfl
theorem hX6_mean_46 : cX6_mean.data.toList.drop 46 = sX6_mean_46 := dn3 hX6_mean_43
theorem dX6_mean_46 : decode cX6_mean 46 = .ok (.aload_n 0, 1) := dk42 hX6_mean_46
theorem hX6_mean_47 : cX6_mean.data.toList.drop 47 = sX6_mean_47 := dn1 hX6_mean_46
theorem dX6_mean_47 : decode cX6_mean 47 = .ok (.getfield 26, 3) := dk180 hX6_mean_47 rfl
theorem hX6_mean_50 : cX6_mean.data.toList.drop 50 = sX6_mean_50 := dn3 hX6_mean_47
theorem dX6_mean_50 : decode cX6_mean 50 = .ok (.getfield 149, 3) := dk180 hX6_mean_50 rfl
theorem hX6_mean_53 : cX6_mean.data.toList.drop 53 = sX6_mean_53 := dn3 hX6_mean_50
theorem dX6_mean_53 : decode cX6_mean 53 = .ok (.iload 4, 2) := dk21 hX6_mean_53 rfl
theorem hX6_mean_55 : cX6_mean.data.toList.drop 55 = sX6_mean_55 := dn2 hX6_mean_53
theorem dX6_mean_55 : decode cX6_mean 55 = .ok (.invokevirtual 305, 3) := dk182 hX6_mean_55 rfl
theorem hX6_mean_58 : cX6_mean.data.toList.drop 58 = sX6_mean_58 := dn3 hX6_mean_55
theorem dX6_mean_58 : decode cX6_mean 58 = .ok (.i2l, 1) := dk133 hX6_mean_58
theorem hX6_mean_59 : cX6_mean.data.toList.drop 59 = sX6_mean_59 := dn1 hX6_mean_58
theorem dX6_mean_59 : decode cX6_mean 59 = .ok (.lmul, 1) := dk105 hX6_mean_59
theorem hX6_mean_60 : cX6_mean.data.toList.drop 60 = sX6_mean_60 := dn1 hX6_mean_59
theorem dX6_mean_60 : decode cX6_mean 60 = .ok (.ladd, 1) := dk97 hX6_mean_60
theorem hX6_mean_61 : cX6_mean.data.toList.drop 61 = sX6_mean_61 := dn1 hX6_mean_60
theorem dX6_mean_61 : decode cX6_mean 61 = .ok (.lstore_n 2, 1) := dk65 hX6_mean_61
theorem hX6_mean_62 : cX6_mean.data.toList.drop 62 = sX6_mean_62 := dn1 hX6_mean_61
theorem dX6_mean_62 : decode cX6_mean 62 = .ok (.iinc 4 1, 3) := dk132 hX6_mean_62 rfl (by decide)
theorem hX6_mean_65 : cX6_mean.data.toList.drop 65 = sX6_mean_65 := dn3 hX6_mean_62
theorem dX6_mean_65 : decode cX6_mean 65 = .ok (.goto (-49), 3) := dk167 hX6_mean_65 (by decide)
theorem hX6_mean_68 : cX6_mean.data.toList.drop 68 = sX6_mean_68 := dn3 hX6_mean_65
theorem dX6_mean_68 : decode cX6_mean 68 = .ok (.lload_n 2, 1) := dk32 hX6_mean_68
theorem hX6_mean_69 : cX6_mean.data.toList.drop 69 = sX6_mean_69 := dn1 hX6_mean_68
theorem dX6_mean_69 : decode cX6_mean 69 = .ok (.aload_n 0, 1) := dk42 hX6_mean_69
theorem hX6_mean_70 : cX6_mean.data.toList.drop 70 = sX6_mean_70 := dn1 hX6_mean_69
theorem dX6_mean_70 : decode cX6_mean 70 = .ok (.getfield 19, 3) := dk180 hX6_mean_70 rfl
theorem hX6_mean_73 : cX6_mean.data.toList.drop 73 = sX6_mean_73 := dn3 hX6_mean_70
theorem dX6_mean_73 : decode cX6_mean 73 = .ok (.invokevirtual 322, 3) := dk182 hX6_mean_73 rfl
theorem hX6_mean_76 : cX6_mean.data.toList.drop 76 = sX6_mean_76 := dn3 hX6_mean_73
theorem dX6_mean_76 : decode cX6_mean 76 = .ok (.aload_n 0, 1) := dk42 hX6_mean_76
theorem hX6_mean_77 : cX6_mean.data.toList.drop 77 = sX6_mean_77 := dn1 hX6_mean_76
theorem dX6_mean_77 : decode cX6_mean 77 = .ok (.getfield 19, 3) := dk180 hX6_mean_77 rfl
theorem hX6_mean_80 : cX6_mean.data.toList.drop 80 = sX6_mean_80 := dn3 hX6_mean_77
theorem dX6_mean_80 : decode cX6_mean 80 = .ok (.getfield 159, 3) := dk180 hX6_mean_80 rfl
theorem hX6_mean_83 : cX6_mean.data.toList.drop 83 = sX6_mean_83 := dn3 hX6_mean_80
theorem dX6_mean_83 : decode cX6_mean 83 = .ok (.i2l, 1) := dk133 hX6_mean_83
theorem hX6_mean_84 : cX6_mean.data.toList.drop 84 = sX6_mean_84 := dn1 hX6_mean_83
theorem dX6_mean_84 : decode cX6_mean 84 = .ok (.lmul, 1) := dk105 hX6_mean_84
theorem hX6_mean_85 : cX6_mean.data.toList.drop 85 = sX6_mean_85 := dn1 hX6_mean_84
theorem dX6_mean_85 : decode cX6_mean 85 = .ok (.iload_n 1, 1) := dk27 hX6_mean_85
theorem hX6_mean_86 : cX6_mean.data.toList.drop 86 = sX6_mean_86 := dn1 hX6_mean_85
theorem dX6_mean_86 : decode cX6_mean 86 = .ok (.invokestatic 162, 3) := dk184 hX6_mean_86 rfl
theorem hX6_mean_89 : cX6_mean.data.toList.drop 89 = sX6_mean_89 := dn3 hX6_mean_86
theorem dX6_mean_89 : decode cX6_mean 89 = .ok (.lreturn, 1) := dk173 hX6_mean_89
noncomputable def sX6_night_85 : List UInt8 := 173 :: []
noncomputable def sX6_night_82 : List UInt8 := 184 :: 0 :: 162 :: sX6_night_85
noncomputable def sX6_night_81 : List UInt8 := 28 :: sX6_night_82
noncomputable def sX6_night_80 : List UInt8 := 133 :: sX6_night_81
noncomputable def sX6_night_77 : List UInt8 := 180 :: 0 :: 159 :: sX6_night_80
noncomputable def sX6_night_74 : List UInt8 := 180 :: 0 :: 19 :: sX6_night_77
noncomputable def sX6_night_73 : List UInt8 := 42 :: sX6_night_74
noncomputable def sX6_night_72 : List UInt8 := 133 :: sX6_night_73
noncomputable def sX6_night_71 : List UInt8 := 46 :: sX6_night_72
noncomputable def sX6_night_68 : List UInt8 := 180 :: 0 :: 144 :: sX6_night_71
noncomputable def sX6_night_65 : List UInt8 := 180 :: 0 :: 19 :: sX6_night_68
noncomputable def sX6_night_64 : List UInt8 := 42 :: sX6_night_65
noncomputable def sX6_night_61 : List UInt8 := 180 :: 0 :: 156 :: sX6_night_64
noncomputable def sX6_night_58 : List UInt8 := 180 :: 0 :: 54 :: sX6_night_61
noncomputable def sX6_night_57 : List UInt8 := 42 :: sX6_night_58
noncomputable def sX6_night_54 : List UInt8 := 167 :: 255 :: 237 :: sX6_night_57
noncomputable def sX6_night_51 : List UInt8 := 132 :: 3 :: 1 :: sX6_night_54
noncomputable def sX6_night_48 : List UInt8 := 182 :: 1 :: 12 :: sX6_night_51
noncomputable def sX6_night_45 : List UInt8 := 180 :: 0 :: 19 :: sX6_night_48
noncomputable def sX6_night_44 : List UInt8 := 42 :: sX6_night_45
noncomputable def sX6_night_41 : List UInt8 := 180 :: 0 :: 54 :: sX6_night_44
noncomputable def sX6_night_40 : List UInt8 := 42 :: sX6_night_41
noncomputable def sX6_night_37 : List UInt8 := 162 :: 0 :: 20 :: sX6_night_40
noncomputable def sX6_night_36 : List UInt8 := 27 :: sX6_night_37
noncomputable def sX6_night_35 : List UInt8 := 29 :: sX6_night_36
noncomputable def sX6_night_34 : List UInt8 := 62 :: sX6_night_35
noncomputable def sX6_night_33 : List UInt8 := 3 :: sX6_night_34
noncomputable def sX6_night_30 : List UInt8 := 182 :: 1 :: 8 :: sX6_night_33
noncomputable def sX6_night_27 : List UInt8 := 180 :: 0 :: 149 :: sX6_night_30
noncomputable def sX6_night_24 : List UInt8 := 180 :: 0 :: 26 :: sX6_night_27
noncomputable def sX6_night_23 : List UInt8 := 42 :: sX6_night_24
noncomputable def sX6_night_20 : List UInt8 := 180 :: 0 :: 19 :: sX6_night_23
noncomputable def sX6_night_19 : List UInt8 := 42 :: sX6_night_20
noncomputable def sX6_night_16 : List UInt8 := 180 :: 0 :: 54 :: sX6_night_19
noncomputable def sX6_night_15 : List UInt8 := 42 :: sX6_night_16
noncomputable def sX6_night_14 : List UInt8 := 173 :: sX6_night_15
noncomputable def sX6_night_11 : List UInt8 := 20 :: 0 :: 147 :: sX6_night_14
noncomputable def sX6_night_8 : List UInt8 := 153 :: 0 :: 7 :: sX6_night_11
noncomputable def sX6_night_5 : List UInt8 := 182 :: 0 :: 203 :: sX6_night_8
noncomputable def sX6_night_3 : List UInt8 := 16 :: 9 :: sX6_night_5
noncomputable def sX6_night_2 : List UInt8 := 3 :: sX6_night_3
noncomputable def sX6_night_1 : List UInt8 := 27 :: sX6_night_2
noncomputable def sX6_night_0 : List UInt8 := 42 :: sX6_night_1
set_option maxRecDepth 100000 in
theorem hX6_night_0 : cX6_night.data.toList.drop 0 = sX6_night_0 := by decide +kernel
theorem dX6_night_0 : decode cX6_night 0 = .ok (.aload_n 0, 1) := dk42 hX6_night_0
theorem hX6_night_1 : cX6_night.data.toList.drop 1 = sX6_night_1 := dn1 hX6_night_0
theorem dX6_night_1 : decode cX6_night 1 = .ok (.iload_n 1, 1) := dk27 hX6_night_1
theorem hX6_night_2 : cX6_night.data.toList.drop 2 = sX6_night_2 := dn1 hX6_night_1
theorem dX6_night_2 : decode cX6_night 2 = .ok (.iconst 0, 1) := dk3 hX6_night_2
theorem hX6_night_3 : cX6_night.data.toList.drop 3 = sX6_night_3 := dn1 hX6_night_2
theorem dX6_night_3 : decode cX6_night 3 = .ok (.bipush 9, 2) := dk16 hX6_night_3 (by decide)
theorem hX6_night_5 : cX6_night.data.toList.drop 5 = sX6_night_5 := dn2 hX6_night_3
theorem dX6_night_5 : decode cX6_night 5 = .ok (.invokevirtual 203, 3) := dk182 hX6_night_5 rfl
theorem hX6_night_8 : cX6_night.data.toList.drop 8 = sX6_night_8 := dn3 hX6_night_5
theorem dX6_night_8 : decode cX6_night 8 = .ok (.ifCond .eq 7, 3) := dk153 hX6_night_8 (by decide)
theorem hX6_night_11 : cX6_night.data.toList.drop 11 = sX6_night_11 := dn3 hX6_night_8
theorem dX6_night_11 : decode cX6_night 11 = .ok (.ldc2_w 147, 3) := dk20 hX6_night_11 rfl
theorem hX6_night_14 : cX6_night.data.toList.drop 14 = sX6_night_14 := dn3 hX6_night_11
theorem dX6_night_14 : decode cX6_night 14 = .ok (.lreturn, 1) := dk173 hX6_night_14
theorem hX6_night_15 : cX6_night.data.toList.drop 15 = sX6_night_15 := dn1 hX6_night_14
theorem dX6_night_15 : decode cX6_night 15 = .ok (.aload_n 0, 1) := dk42 hX6_night_15
theorem hX6_night_16 : cX6_night.data.toList.drop 16 = sX6_night_16 := dn1 hX6_night_15
theorem dX6_night_16 : decode cX6_night 16 = .ok (.getfield 54, 3) := dk180 hX6_night_16 rfl
theorem hX6_night_19 : cX6_night.data.toList.drop 19 = sX6_night_19 := dn3 hX6_night_16
theorem dX6_night_19 : decode cX6_night 19 = .ok (.aload_n 0, 1) := dk42 hX6_night_19
theorem hX6_night_20 : cX6_night.data.toList.drop 20 = sX6_night_20 := dn1 hX6_night_19
theorem dX6_night_20 : decode cX6_night 20 = .ok (.getfield 19, 3) := dk180 hX6_night_20 rfl
theorem hX6_night_23 : cX6_night.data.toList.drop 23 = sX6_night_23 := dn3 hX6_night_20
theorem dX6_night_23 : decode cX6_night 23 = .ok (.aload_n 0, 1) := dk42 hX6_night_23
theorem hX6_night_24 : cX6_night.data.toList.drop 24 = sX6_night_24 := dn1 hX6_night_23
theorem dX6_night_24 : decode cX6_night 24 = .ok (.getfield 26, 3) := dk180 hX6_night_24 rfl
theorem hX6_night_27 : cX6_night.data.toList.drop 27 = sX6_night_27 := dn3 hX6_night_24
theorem dX6_night_27 : decode cX6_night 27 = .ok (.getfield 149, 3) := dk180 hX6_night_27 rfl
theorem hX6_night_30 : cX6_night.data.toList.drop 30 = sX6_night_30 := dn3 hX6_night_27
theorem dX6_night_30 : decode cX6_night 30 = .ok (.invokevirtual 264, 3) := dk182 hX6_night_30 rfl
theorem hX6_night_33 : cX6_night.data.toList.drop 33 = sX6_night_33 := dn3 hX6_night_30
theorem dX6_night_33 : decode cX6_night 33 = .ok (.iconst 0, 1) := dk3 hX6_night_33
theorem hX6_night_34 : cX6_night.data.toList.drop 34 = sX6_night_34 := dn1 hX6_night_33
theorem dX6_night_34 : decode cX6_night 34 = .ok (.istore_n 3, 1) := dk62 hX6_night_34
theorem hX6_night_35 : cX6_night.data.toList.drop 35 = sX6_night_35 := dn1 hX6_night_34
theorem dX6_night_35 : decode cX6_night 35 = .ok (.iload_n 3, 1) := dk29 hX6_night_35
theorem hX6_night_36 : cX6_night.data.toList.drop 36 = sX6_night_36 := dn1 hX6_night_35
theorem dX6_night_36 : decode cX6_night 36 = .ok (.iload_n 1, 1) := dk27 hX6_night_36
theorem hX6_night_37 : cX6_night.data.toList.drop 37 = sX6_night_37 := dn1 hX6_night_36
theorem dX6_night_37 : decode cX6_night 37 = .ok (.if_icmp .ge 20, 3) := dk162 hX6_night_37 (by decide)
theorem hX6_night_40 : cX6_night.data.toList.drop 40 = sX6_night_40 := dn3 hX6_night_37
theorem dX6_night_40 : decode cX6_night 40 = .ok (.aload_n 0, 1) := dk42 hX6_night_40
theorem hX6_night_41 : cX6_night.data.toList.drop 41 = sX6_night_41 := dn1 hX6_night_40
theorem dX6_night_41 : decode cX6_night 41 = .ok (.getfield 54, 3) := dk180 hX6_night_41 rfl
theorem hX6_night_44 : cX6_night.data.toList.drop 44 = sX6_night_44 := dn3 hX6_night_41
theorem dX6_night_44 : decode cX6_night 44 = .ok (.aload_n 0, 1) := dk42 hX6_night_44
theorem hX6_night_45 : cX6_night.data.toList.drop 45 = sX6_night_45 := dn1 hX6_night_44
theorem dX6_night_45 : decode cX6_night 45 = .ok (.getfield 19, 3) := dk180 hX6_night_45 rfl
theorem hX6_night_48 : cX6_night.data.toList.drop 48 = sX6_night_48 := dn3 hX6_night_45
theorem dX6_night_48 : decode cX6_night 48 = .ok (.invokevirtual 268, 3) := dk182 hX6_night_48 rfl
theorem hX6_night_51 : cX6_night.data.toList.drop 51 = sX6_night_51 := dn3 hX6_night_48
theorem dX6_night_51 : decode cX6_night 51 = .ok (.iinc 3 1, 3) := dk132 hX6_night_51 rfl (by decide)
theorem hX6_night_54 : cX6_night.data.toList.drop 54 = sX6_night_54 := dn3 hX6_night_51
theorem dX6_night_54 : decode cX6_night 54 = .ok (.goto (-19), 3) := dk167 hX6_night_54 (by decide)
theorem hX6_night_57 : cX6_night.data.toList.drop 57 = sX6_night_57 := dn3 hX6_night_54
theorem dX6_night_57 : decode cX6_night 57 = .ok (.aload_n 0, 1) := dk42 hX6_night_57
theorem hX6_night_58 : cX6_night.data.toList.drop 58 = sX6_night_58 := dn1 hX6_night_57
theorem dX6_night_58 : decode cX6_night 58 = .ok (.getfield 54, 3) := dk180 hX6_night_58 rfl
theorem hX6_night_61 : cX6_night.data.toList.drop 61 = sX6_night_61 := dn3 hX6_night_58
theorem dX6_night_61 : decode cX6_night 61 = .ok (.getfield 156, 3) := dk180 hX6_night_61 rfl
theorem hX6_night_64 : cX6_night.data.toList.drop 64 = sX6_night_64 := dn3 hX6_night_61
theorem dX6_night_64 : decode cX6_night 64 = .ok (.aload_n 0, 1) := dk42 hX6_night_64
theorem hX6_night_65 : cX6_night.data.toList.drop 65 = sX6_night_65 := dn1 hX6_night_64
theorem dX6_night_65 : decode cX6_night 65 = .ok (.getfield 19, 3) := dk180 hX6_night_65 rfl
theorem hX6_night_68 : cX6_night.data.toList.drop 68 = sX6_night_68 := dn3 hX6_night_65
theorem dX6_night_68 : decode cX6_night 68 = .ok (.getfield 144, 3) := dk180 hX6_night_68 rfl
theorem hX6_night_71 : cX6_night.data.toList.drop 71 = sX6_night_71 := dn3 hX6_night_68
theorem dX6_night_71 : decode cX6_night 71 = .ok (.iaload, 1) := dk46 hX6_night_71
theorem hX6_night_72 : cX6_night.data.toList.drop 72 = sX6_night_72 := dn1 hX6_night_71
theorem dX6_night_72 : decode cX6_night 72 = .ok (.i2l, 1) := dk133 hX6_night_72
theorem hX6_night_73 : cX6_night.data.toList.drop 73 = sX6_night_73 := dn1 hX6_night_72
theorem dX6_night_73 : decode cX6_night 73 = .ok (.aload_n 0, 1) := dk42 hX6_night_73
theorem hX6_night_74 : cX6_night.data.toList.drop 74 = sX6_night_74 := dn1 hX6_night_73
theorem dX6_night_74 : decode cX6_night 74 = .ok (.getfield 19, 3) := dk180 hX6_night_74 rfl
theorem hX6_night_77 : cX6_night.data.toList.drop 77 = sX6_night_77 := dn3 hX6_night_74
theorem dX6_night_77 : decode cX6_night 77 = .ok (.getfield 159, 3) := dk180 hX6_night_77 rfl
theorem hX6_night_80 : cX6_night.data.toList.drop 80 = sX6_night_80 := dn3 hX6_night_77
theorem dX6_night_80 : decode cX6_night 80 = .ok (.i2l, 1) := dk133 hX6_night_80
theorem hX6_night_81 : cX6_night.data.toList.drop 81 = sX6_night_81 := dn1 hX6_night_80
theorem dX6_night_81 : decode cX6_night 81 = .ok (.iload_n 2, 1) := dk28 hX6_night_81
theorem hX6_night_82 : cX6_night.data.toList.drop 82 = sX6_night_82 := dn1 hX6_night_81
theorem dX6_night_82 : decode cX6_night 82 = .ok (.invokestatic 162, 3) := dk184 hX6_night_82 rfl
theorem hX6_night_85 : cX6_night.data.toList.drop 85 = sX6_night_85 := dn3 hX6_night_82
theorem dX6_night_85 : decode cX6_night 85 = .ok (.lreturn, 1) := dk173 hX6_night_85
noncomputable def sX6_node_99 : List UInt8 := 172 :: []
noncomputable def sX6_node_96 : List UInt8 := 182 :: 0 :: 66 :: sX6_node_99
noncomputable def sX6_node_95 : List UInt8 := 4 :: sX6_node_96
noncomputable def sX6_node_94 : List UInt8 := 42 :: sX6_node_95
noncomputable def sX6_node_93 : List UInt8 := 172 :: sX6_node_94
noncomputable def sX6_node_92 : List UInt8 := 46 :: sX6_node_93
noncomputable def sX6_node_91 : List UInt8 := 27 :: sX6_node_92
noncomputable def sX6_node_88 : List UInt8 := 180 :: 0 :: 122 :: sX6_node_91
noncomputable def sX6_node_85 : List UInt8 := 180 :: 0 :: 19 :: sX6_node_88
noncomputable def sX6_node_84 : List UInt8 := 42 :: sX6_node_85
noncomputable def sX6_node_83 : List UInt8 := 172 :: sX6_node_84
noncomputable def sX6_node_82 : List UInt8 := 46 :: sX6_node_83
noncomputable def sX6_node_81 : List UInt8 := 27 :: sX6_node_82
noncomputable def sX6_node_78 : List UInt8 := 180 :: 0 :: 119 :: sX6_node_81
noncomputable def sX6_node_75 : List UInt8 := 180 :: 0 :: 19 :: sX6_node_78
noncomputable def sX6_node_74 : List UInt8 := 42 :: sX6_node_75
noncomputable def sX6_node_73 : List UInt8 := 172 :: sX6_node_74
noncomputable def sX6_node_72 : List UInt8 := 46 :: sX6_node_73
noncomputable def sX6_node_71 : List UInt8 := 27 :: sX6_node_72
noncomputable def sX6_node_68 : List UInt8 := 180 :: 0 :: 116 :: sX6_node_71
noncomputable def sX6_node_65 : List UInt8 := 180 :: 0 :: 19 :: sX6_node_68
noncomputable def sX6_node_64 : List UInt8 := 42 :: sX6_node_65
noncomputable def sX6_node_63 : List UInt8 := 172 :: sX6_node_64
noncomputable def sX6_node_62 : List UInt8 := 46 :: sX6_node_63
noncomputable def sX6_node_61 : List UInt8 := 27 :: sX6_node_62
noncomputable def sX6_node_58 : List UInt8 := 180 :: 0 :: 113 :: sX6_node_61
noncomputable def sX6_node_55 : List UInt8 := 180 :: 0 :: 19 :: sX6_node_58
noncomputable def sX6_node_54 : List UInt8 := 42 :: sX6_node_55
noncomputable def sX6_node_53 : List UInt8 := 172 :: sX6_node_54
noncomputable def sX6_node_52 : List UInt8 := 46 :: sX6_node_53
noncomputable def sX6_node_51 : List UInt8 := 27 :: sX6_node_52
noncomputable def sX6_node_48 : List UInt8 := 180 :: 0 :: 109 :: sX6_node_51
noncomputable def sX6_node_45 : List UInt8 := 180 :: 0 :: 19 :: sX6_node_48
noncomputable def sX6_node_44 : List UInt8 := 42 :: sX6_node_45
noncomputable def sX6_node_11 : List UInt8 := [170, 0, 0, 0, 83, 0, 0, 0, 0, 0, 0, 0, 4, 0, 0, 0, 33, 0, 0, 0, 43, 0, 0, 0, 53, 0, 0, 0, 63, 0, 0, 0, 73] ++ sX6_node_44
noncomputable def sX6_node_10 : List UInt8 := 28 :: sX6_node_11
noncomputable def sX6_node_9 : List UInt8 := 172 :: sX6_node_10
noncomputable def sX6_node_8 : List UInt8 := 2 :: sX6_node_9
noncomputable def sX6_node_5 : List UInt8 := 153 :: 0 :: 5 :: sX6_node_8
noncomputable def sX6_node_2 : List UInt8 := 182 :: 0 :: 106 :: sX6_node_5
noncomputable def sX6_node_1 : List UInt8 := 27 :: sX6_node_2
noncomputable def sX6_node_0 : List UInt8 := 42 :: sX6_node_1
set_option maxRecDepth 100000 in
theorem hX6_node_0 : cX6_node.data.toList.drop 0 = sX6_node_0 := by decide +kernel
theorem dX6_node_0 : decode cX6_node 0 = .ok (.aload_n 0, 1) := dk42 hX6_node_0
theorem hX6_node_1 : cX6_node.data.toList.drop 1 = sX6_node_1 := dn1 hX6_node_0
theorem dX6_node_1 : decode cX6_node 1 = .ok (.iload_n 1, 1) := dk27 hX6_node_1
theorem hX6_node_2 : cX6_node.data.toList.drop 2 = sX6_node_2 := dn1 hX6_node_1
theorem dX6_node_2 : decode cX6_node 2 = .ok (.invokevirtual 106, 3) := dk182 hX6_node_2 rfl
theorem hX6_node_5 : cX6_node.data.toList.drop 5 = sX6_node_5 := dn3 hX6_node_2
theorem dX6_node_5 : decode cX6_node 5 = .ok (.ifCond .eq 5, 3) := dk153 hX6_node_5 (by decide)
theorem hX6_node_8 : cX6_node.data.toList.drop 8 = sX6_node_8 := dn3 hX6_node_5
theorem dX6_node_8 : decode cX6_node 8 = .ok (.iconst (-1), 1) := dk2 hX6_node_8
theorem hX6_node_9 : cX6_node.data.toList.drop 9 = sX6_node_9 := dn1 hX6_node_8
theorem dX6_node_9 : decode cX6_node 9 = .ok (.ireturn, 1) := dk172 hX6_node_9
theorem hX6_node_10 : cX6_node.data.toList.drop 10 = sX6_node_10 := dn1 hX6_node_9
theorem dX6_node_10 : decode cX6_node 10 = .ok (.iload_n 2, 1) := dk28 hX6_node_10
theorem hX6_node_11 : cX6_node.data.toList.drop 11 = sX6_node_11 := dn1 hX6_node_10
set_option maxRecDepth 100000 in
theorem dX6_node_11 : decode cX6_node 11 = .ok (.tableswitch 83 0 4 #[33, 43, 53, 63, 73], 33) := by decide +kernel
theorem hX6_node_44 : cX6_node.data.toList.drop 44 = sX6_node_44 := dnl (n := 33) hX6_node_11 rfl
theorem dX6_node_44 : decode cX6_node 44 = .ok (.aload_n 0, 1) := dk42 hX6_node_44
theorem hX6_node_45 : cX6_node.data.toList.drop 45 = sX6_node_45 := dn1 hX6_node_44
theorem dX6_node_45 : decode cX6_node 45 = .ok (.getfield 19, 3) := dk180 hX6_node_45 rfl
theorem hX6_node_48 : cX6_node.data.toList.drop 48 = sX6_node_48 := dn3 hX6_node_45
theorem dX6_node_48 : decode cX6_node 48 = .ok (.getfield 109, 3) := dk180 hX6_node_48 rfl
theorem hX6_node_51 : cX6_node.data.toList.drop 51 = sX6_node_51 := dn3 hX6_node_48
theorem dX6_node_51 : decode cX6_node 51 = .ok (.iload_n 1, 1) := dk27 hX6_node_51
theorem hX6_node_52 : cX6_node.data.toList.drop 52 = sX6_node_52 := dn1 hX6_node_51
theorem dX6_node_52 : decode cX6_node 52 = .ok (.iaload, 1) := dk46 hX6_node_52
theorem hX6_node_53 : cX6_node.data.toList.drop 53 = sX6_node_53 := dn1 hX6_node_52
theorem dX6_node_53 : decode cX6_node 53 = .ok (.ireturn, 1) := dk172 hX6_node_53
theorem hX6_node_54 : cX6_node.data.toList.drop 54 = sX6_node_54 := dn1 hX6_node_53
theorem dX6_node_54 : decode cX6_node 54 = .ok (.aload_n 0, 1) := dk42 hX6_node_54
theorem hX6_node_55 : cX6_node.data.toList.drop 55 = sX6_node_55 := dn1 hX6_node_54
theorem dX6_node_55 : decode cX6_node 55 = .ok (.getfield 19, 3) := dk180 hX6_node_55 rfl
theorem hX6_node_58 : cX6_node.data.toList.drop 58 = sX6_node_58 := dn3 hX6_node_55
theorem dX6_node_58 : decode cX6_node 58 = .ok (.getfield 113, 3) := dk180 hX6_node_58 rfl
theorem hX6_node_61 : cX6_node.data.toList.drop 61 = sX6_node_61 := dn3 hX6_node_58
theorem dX6_node_61 : decode cX6_node 61 = .ok (.iload_n 1, 1) := dk27 hX6_node_61
theorem hX6_node_62 : cX6_node.data.toList.drop 62 = sX6_node_62 := dn1 hX6_node_61
theorem dX6_node_62 : decode cX6_node 62 = .ok (.iaload, 1) := dk46 hX6_node_62
theorem hX6_node_63 : cX6_node.data.toList.drop 63 = sX6_node_63 := dn1 hX6_node_62
theorem dX6_node_63 : decode cX6_node 63 = .ok (.ireturn, 1) := dk172 hX6_node_63
theorem hX6_node_64 : cX6_node.data.toList.drop 64 = sX6_node_64 := dn1 hX6_node_63
theorem dX6_node_64 : decode cX6_node 64 = .ok (.aload_n 0, 1) := dk42 hX6_node_64
theorem hX6_node_65 : cX6_node.data.toList.drop 65 = sX6_node_65 := dn1 hX6_node_64
theorem dX6_node_65 : decode cX6_node 65 = .ok (.getfield 19, 3) := dk180 hX6_node_65 rfl
theorem hX6_node_68 : cX6_node.data.toList.drop 68 = sX6_node_68 := dn3 hX6_node_65
theorem dX6_node_68 : decode cX6_node 68 = .ok (.getfield 116, 3) := dk180 hX6_node_68 rfl
theorem hX6_node_71 : cX6_node.data.toList.drop 71 = sX6_node_71 := dn3 hX6_node_68
theorem dX6_node_71 : decode cX6_node 71 = .ok (.iload_n 1, 1) := dk27 hX6_node_71
theorem hX6_node_72 : cX6_node.data.toList.drop 72 = sX6_node_72 := dn1 hX6_node_71
theorem dX6_node_72 : decode cX6_node 72 = .ok (.iaload, 1) := dk46 hX6_node_72
theorem hX6_node_73 : cX6_node.data.toList.drop 73 = sX6_node_73 := dn1 hX6_node_72
theorem dX6_node_73 : decode cX6_node 73 = .ok (.ireturn, 1) := dk172 hX6_node_73
theorem hX6_node_74 : cX6_node.data.toList.drop 74 = sX6_node_74 := dn1 hX6_node_73
theorem dX6_node_74 : decode cX6_node 74 = .ok (.aload_n 0, 1) := dk42 hX6_node_74
theorem hX6_node_75 : cX6_node.data.toList.drop 75 = sX6_node_75 := dn1 hX6_node_74
theorem dX6_node_75 : decode cX6_node 75 = .ok (.getfield 19, 3) := dk180 hX6_node_75 rfl
theorem hX6_node_78 : cX6_node.data.toList.drop 78 = sX6_node_78 := dn3 hX6_node_75
theorem dX6_node_78 : decode cX6_node 78 = .ok (.getfield 119, 3) := dk180 hX6_node_78 rfl
theorem hX6_node_81 : cX6_node.data.toList.drop 81 = sX6_node_81 := dn3 hX6_node_78
theorem dX6_node_81 : decode cX6_node 81 = .ok (.iload_n 1, 1) := dk27 hX6_node_81
theorem hX6_node_82 : cX6_node.data.toList.drop 82 = sX6_node_82 := dn1 hX6_node_81
theorem dX6_node_82 : decode cX6_node 82 = .ok (.iaload, 1) := dk46 hX6_node_82
theorem hX6_node_83 : cX6_node.data.toList.drop 83 = sX6_node_83 := dn1 hX6_node_82
theorem dX6_node_83 : decode cX6_node 83 = .ok (.ireturn, 1) := dk172 hX6_node_83
theorem hX6_node_84 : cX6_node.data.toList.drop 84 = sX6_node_84 := dn1 hX6_node_83
theorem dX6_node_84 : decode cX6_node 84 = .ok (.aload_n 0, 1) := dk42 hX6_node_84
theorem hX6_node_85 : cX6_node.data.toList.drop 85 = sX6_node_85 := dn1 hX6_node_84
theorem dX6_node_85 : decode cX6_node 85 = .ok (.getfield 19, 3) := dk180 hX6_node_85 rfl
theorem hX6_node_88 : cX6_node.data.toList.drop 88 = sX6_node_88 := dn3 hX6_node_85
theorem dX6_node_88 : decode cX6_node 88 = .ok (.getfield 122, 3) := dk180 hX6_node_88 rfl
theorem hX6_node_91 : cX6_node.data.toList.drop 91 = sX6_node_91 := dn3 hX6_node_88
theorem dX6_node_91 : decode cX6_node 91 = .ok (.iload_n 1, 1) := dk27 hX6_node_91
theorem hX6_node_92 : cX6_node.data.toList.drop 92 = sX6_node_92 := dn1 hX6_node_91
theorem dX6_node_92 : decode cX6_node 92 = .ok (.iaload, 1) := dk46 hX6_node_92
theorem hX6_node_93 : cX6_node.data.toList.drop 93 = sX6_node_93 := dn1 hX6_node_92
theorem dX6_node_93 : decode cX6_node 93 = .ok (.ireturn, 1) := dk172 hX6_node_93
theorem hX6_node_94 : cX6_node.data.toList.drop 94 = sX6_node_94 := dn1 hX6_node_93
theorem dX6_node_94 : decode cX6_node 94 = .ok (.aload_n 0, 1) := dk42 hX6_node_94
theorem hX6_node_95 : cX6_node.data.toList.drop 95 = sX6_node_95 := dn1 hX6_node_94
theorem dX6_node_95 : decode cX6_node 95 = .ok (.iconst 1, 1) := dk4 hX6_node_95
theorem hX6_node_96 : cX6_node.data.toList.drop 96 = sX6_node_96 := dn1 hX6_node_95
theorem dX6_node_96 : decode cX6_node 96 = .ok (.invokevirtual 66, 3) := dk182 hX6_node_96 rfl
theorem hX6_node_99 : cX6_node.data.toList.drop 99 = sX6_node_99 := dn3 hX6_node_96
theorem dX6_node_99 : decode cX6_node 99 = .ok (.ireturn, 1) := dk172 hX6_node_99
noncomputable def sX6_odds_94 : List UInt8 := 173 :: []
noncomputable def sX6_odds_91 : List UInt8 := 184 :: 0 :: 162 :: sX6_odds_94
noncomputable def sX6_odds_90 : List UInt8 := 28 :: sX6_odds_91
noncomputable def sX6_odds_87 : List UInt8 := 182 :: 1 :: 66 :: sX6_odds_90
noncomputable def sX6_odds_84 : List UInt8 := 180 :: 0 :: 19 :: sX6_odds_87
noncomputable def sX6_odds_83 : List UInt8 := 42 :: sX6_odds_84
noncomputable def sX6_odds_82 : List UInt8 := 33 :: sX6_odds_83
noncomputable def sX6_odds_79 : List UInt8 := 167 :: 255 :: 197 :: sX6_odds_82
noncomputable def sX6_odds_76 : List UInt8 := 132 :: 5 :: 1 :: sX6_odds_79
noncomputable def sX6_odds_75 : List UInt8 := 66 :: sX6_odds_76
noncomputable def sX6_odds_74 : List UInt8 := 97 :: sX6_odds_75
noncomputable def sX6_odds_71 : List UInt8 := 182 :: 1 :: 62 :: sX6_odds_74
noncomputable def sX6_odds_69 : List UInt8 := 21 :: 5 :: sX6_odds_71
noncomputable def sX6_odds_66 : List UInt8 := 180 :: 0 :: 19 :: sX6_odds_69
noncomputable def sX6_odds_65 : List UInt8 := 42 :: sX6_odds_66
noncomputable def sX6_odds_64 : List UInt8 := 33 :: sX6_odds_65
noncomputable def sX6_odds_61 : List UInt8 := 161 :: 0 :: 15 :: sX6_odds_64
noncomputable def sX6_odds_60 : List UInt8 := 104 :: sX6_odds_61
noncomputable def sX6_odds_57 : List UInt8 := 180 :: 0 :: 159 :: sX6_odds_60
noncomputable def sX6_odds_54 : List UInt8 := 180 :: 0 :: 19 :: sX6_odds_57
noncomputable def sX6_odds_53 : List UInt8 := 42 :: sX6_odds_54
noncomputable def sX6_odds_52 : List UInt8 := 27 :: sX6_odds_53
noncomputable def sX6_odds_49 : List UInt8 := 182 :: 1 :: 49 :: sX6_odds_52
noncomputable def sX6_odds_47 : List UInt8 := 21 :: 5 :: sX6_odds_49
noncomputable def sX6_odds_44 : List UInt8 := 180 :: 0 :: 149 :: sX6_odds_47
noncomputable def sX6_odds_41 : List UInt8 := 180 :: 0 :: 26 :: sX6_odds_44
noncomputable def sX6_odds_40 : List UInt8 := 42 :: sX6_odds_41
noncomputable def sX6_odds_37 : List UInt8 := 180 :: 0 :: 19 :: sX6_odds_40
noncomputable def sX6_odds_36 : List UInt8 := 42 :: sX6_odds_37
noncomputable def sX6_odds_33 : List UInt8 := 180 :: 0 :: 54 :: sX6_odds_36
noncomputable def sX6_odds_32 : List UInt8 := 42 :: sX6_odds_33
noncomputable def sX6_odds_29 : List UInt8 := 162 :: 0 :: 53 :: sX6_odds_32
noncomputable def sX6_odds_26 : List UInt8 := 182 :: 1 :: 34 :: sX6_odds_29
noncomputable def sX6_odds_23 : List UInt8 := 180 :: 0 :: 19 :: sX6_odds_26
noncomputable def sX6_odds_22 : List UInt8 := 42 :: sX6_odds_23
noncomputable def sX6_odds_20 : List UInt8 := 21 :: 5 :: sX6_odds_22
noncomputable def sX6_odds_18 : List UInt8 := 54 :: 5 :: sX6_odds_20
noncomputable def sX6_odds_17 : List UInt8 := 3 :: sX6_odds_18
noncomputable def sX6_odds_16 : List UInt8 := 66 :: sX6_odds_17
noncomputable def sX6_odds_15 : List UInt8 := 9 :: sX6_odds_16
noncomputable def sX6_odds_14 : List UInt8 := 173 :: sX6_odds_15
noncomputable def sX6_odds_11 : List UInt8 := 20 :: 0 :: 147 :: sX6_odds_14
noncomputable def sX6_odds_8 : List UInt8 := 153 :: 0 :: 7 :: sX6_odds_11
noncomputable def sX6_odds_5 : List UInt8 := 182 :: 0 :: 203 :: sX6_odds_8
noncomputable def sX6_odds_3 : List UInt8 := 16 :: 99 :: sX6_odds_5
noncomputable def sX6_odds_2 : List UInt8 := 3 :: sX6_odds_3
noncomputable def sX6_odds_1 : List UInt8 := 27 :: sX6_odds_2
noncomputable def sX6_odds_0 : List UInt8 := 42 :: sX6_odds_1
set_option maxRecDepth 100000 in
theorem hX6_odds_0 : cX6_odds.data.toList.drop 0 = sX6_odds_0 := by decide +kernel
theorem dX6_odds_0 : decode cX6_odds 0 = .ok (.aload_n 0, 1) := dk42 hX6_odds_0
theorem hX6_odds_1 : cX6_odds.data.toList.drop 1 = sX6_odds_1 := dn1 hX6_odds_0
theorem dX6_odds_1 : decode cX6_odds 1 = .ok (.iload_n 1, 1) := dk27 hX6_odds_1
theorem hX6_odds_2 : cX6_odds.data.toList.drop 2 = sX6_odds_2 := dn1 hX6_odds_1
theorem dX6_odds_2 : decode cX6_odds 2 = .ok (.iconst 0, 1) := dk3 hX6_odds_2
theorem hX6_odds_3 : cX6_odds.data.toList.drop 3 = sX6_odds_3 := dn1 hX6_odds_2
theorem dX6_odds_3 : decode cX6_odds 3 = .ok (.bipush 99, 2) := dk16 hX6_odds_3 (by decide)
theorem hX6_odds_5 : cX6_odds.data.toList.drop 5 = sX6_odds_5 := dn2 hX6_odds_3
theorem dX6_odds_5 : decode cX6_odds 5 = .ok (.invokevirtual 203, 3) := dk182 hX6_odds_5 rfl
theorem hX6_odds_8 : cX6_odds.data.toList.drop 8 = sX6_odds_8 := dn3 hX6_odds_5
theorem dX6_odds_8 : decode cX6_odds 8 = .ok (.ifCond .eq 7, 3) := dk153 hX6_odds_8 (by decide)
theorem hX6_odds_11 : cX6_odds.data.toList.drop 11 = sX6_odds_11 := dn3 hX6_odds_8
theorem dX6_odds_11 : decode cX6_odds 11 = .ok (.ldc2_w 147, 3) := dk20 hX6_odds_11 rfl
theorem hX6_odds_14 : cX6_odds.data.toList.drop 14 = sX6_odds_14 := dn3 hX6_odds_11
theorem dX6_odds_14 : decode cX6_odds 14 = .ok (.lreturn, 1) := dk173 hX6_odds_14
theorem hX6_odds_15 : cX6_odds.data.toList.drop 15 = sX6_odds_15 := dn1 hX6_odds_14
theorem dX6_odds_15 : decode cX6_odds 15 = .ok (.lconst 0, 1) := dk9 hX6_odds_15
theorem hX6_odds_16 : cX6_odds.data.toList.drop 16 = sX6_odds_16 := dn1 hX6_odds_15
theorem dX6_odds_16 : decode cX6_odds 16 = .ok (.lstore_n 3, 1) := dk66 hX6_odds_16
theorem hX6_odds_17 : cX6_odds.data.toList.drop 17 = sX6_odds_17 := dn1 hX6_odds_16
theorem dX6_odds_17 : decode cX6_odds 17 = .ok (.iconst 0, 1) := dk3 hX6_odds_17
theorem hX6_odds_18 : cX6_odds.data.toList.drop 18 = sX6_odds_18 := dn1 hX6_odds_17
theorem dX6_odds_18 : decode cX6_odds 18 = .ok (.istore 5, 2) := dk54 hX6_odds_18 rfl
theorem hX6_odds_20 : cX6_odds.data.toList.drop 20 = sX6_odds_20 := dn2 hX6_odds_18
theorem dX6_odds_20 : decode cX6_odds 20 = .ok (.iload 5, 2) := dk21 hX6_odds_20 rfl
theorem hX6_odds_22 : cX6_odds.data.toList.drop 22 = sX6_odds_22 := dn2 hX6_odds_20
theorem dX6_odds_22 : decode cX6_odds 22 = .ok (.aload_n 0, 1) := dk42 hX6_odds_22
theorem hX6_odds_23 : cX6_odds.data.toList.drop 23 = sX6_odds_23 := dn1 hX6_odds_22
theorem dX6_odds_23 : decode cX6_odds 23 = .ok (.getfield 19, 3) := dk180 hX6_odds_23 rfl
theorem hX6_odds_26 : cX6_odds.data.toList.drop 26 = sX6_odds_26 := dn3 hX6_odds_23
theorem dX6_odds_26 : decode cX6_odds 26 = .ok (.invokevirtual 290, 3) := dk182 hX6_odds_26 rfl
theorem hX6_odds_29 : cX6_odds.data.toList.drop 29 = sX6_odds_29 := dn3 hX6_odds_26
theorem dX6_odds_29 : decode cX6_odds 29 = .ok (.if_icmp .ge 53, 3) := dk162 hX6_odds_29 (by decide)
theorem hX6_odds_32 : cX6_odds.data.toList.drop 32 = sX6_odds_32 := dn3 hX6_odds_29
theorem dX6_odds_32 : decode cX6_odds 32 = .ok (.aload_n 0, 1) := dk42 hX6_odds_32
theorem hX6_odds_33 : cX6_odds.data.toList.drop 33 = sX6_odds_33 := dn1 hX6_odds_32
theorem dX6_odds_33 : decode cX6_odds 33 = .ok (.getfield 54, 3) := dk180 hX6_odds_33 rfl
theorem hX6_odds_36 : cX6_odds.data.toList.drop 36 = sX6_odds_36 := dn3 hX6_odds_33
theorem dX6_odds_36 : decode cX6_odds 36 = .ok (.aload_n 0, 1) := dk42 hX6_odds_36
theorem hX6_odds_37 : cX6_odds.data.toList.drop 37 = sX6_odds_37 := dn1 hX6_odds_36
theorem dX6_odds_37 : decode cX6_odds 37 = .ok (.getfield 19, 3) := dk180 hX6_odds_37 rfl
theorem hX6_odds_40 : cX6_odds.data.toList.drop 40 = sX6_odds_40 := dn3 hX6_odds_37
theorem dX6_odds_40 : decode cX6_odds 40 = .ok (.aload_n 0, 1) := dk42 hX6_odds_40
theorem hX6_odds_41 : cX6_odds.data.toList.drop 41 = sX6_odds_41 := dn1 hX6_odds_40
theorem dX6_odds_41 : decode cX6_odds 41 = .ok (.getfield 26, 3) := dk180 hX6_odds_41 rfl
theorem hX6_odds_44 : cX6_odds.data.toList.drop 44 = sX6_odds_44 := dn3 hX6_odds_41
theorem dX6_odds_44 : decode cX6_odds 44 = .ok (.getfield 149, 3) := dk180 hX6_odds_44 rfl
theorem hX6_odds_47 : cX6_odds.data.toList.drop 47 = sX6_odds_47 := dn3 hX6_odds_44
theorem dX6_odds_47 : decode cX6_odds 47 = .ok (.iload 5, 2) := dk21 hX6_odds_47 rfl
theorem hX6_odds_49 : cX6_odds.data.toList.drop 49 = sX6_odds_49 := dn2 hX6_odds_47
theorem dX6_odds_49 : decode cX6_odds 49 = .ok (.invokevirtual 305, 3) := dk182 hX6_odds_49 rfl
theorem hX6_odds_52 : cX6_odds.data.toList.drop 52 = sX6_odds_52 := dn3 hX6_odds_49
theorem dX6_odds_52 : decode cX6_odds 52 = .ok (.iload_n 1, 1) := dk27 hX6_odds_52
theorem hX6_odds_53 : cX6_odds.data.toList.drop 53 = sX6_odds_53 := dn1 hX6_odds_52
theorem dX6_odds_53 : decode cX6_odds 53 = .ok (.aload_n 0, 1) := dk42 hX6_odds_53
theorem hX6_odds_54 : cX6_odds.data.toList.drop 54 = sX6_odds_54 := dn1 hX6_odds_53
theorem dX6_odds_54 : decode cX6_odds 54 = .ok (.getfield 19, 3) := dk180 hX6_odds_54 rfl
theorem hX6_odds_57 : cX6_odds.data.toList.drop 57 = sX6_odds_57 := dn3 hX6_odds_54
theorem dX6_odds_57 : decode cX6_odds 57 = .ok (.getfield 159, 3) := dk180 hX6_odds_57 rfl
theorem hX6_odds_60 : cX6_odds.data.toList.drop 60 = sX6_odds_60 := dn3 hX6_odds_57
theorem dX6_odds_60 : decode cX6_odds 60 = .ok (.imul, 1) := dk104 hX6_odds_60
theorem hX6_odds_61 : cX6_odds.data.toList.drop 61 = sX6_odds_61 := dn1 hX6_odds_60
theorem dX6_odds_61 : decode cX6_odds 61 = .ok (.if_icmp .lt 15, 3) := dk161 hX6_odds_61 (by decide)
theorem hX6_odds_64 : cX6_odds.data.toList.drop 64 = sX6_odds_64 := dn3 hX6_odds_61
theorem dX6_odds_64 : decode cX6_odds 64 = .ok (.lload_n 3, 1) := dk33 hX6_odds_64
theorem hX6_odds_65 : cX6_odds.data.toList.drop 65 = sX6_odds_65 := dn1 hX6_odds_64
theorem dX6_odds_65 : decode cX6_odds 65 = .ok (.aload_n 0, 1) := dk42 hX6_odds_65
theorem hX6_odds_66 : cX6_odds.data.toList.drop 66 = sX6_odds_66 := dn1 hX6_odds_65
theorem dX6_odds_66 : decode cX6_odds 66 = .ok (.getfield 19, 3) := dk180 hX6_odds_66 rfl
theorem hX6_odds_69 : cX6_odds.data.toList.drop 69 = sX6_odds_69 := dn3 hX6_odds_66
theorem dX6_odds_69 : decode cX6_odds 69 = .ok (.iload 5, 2) := dk21 hX6_odds_69 rfl
theorem hX6_odds_71 : cX6_odds.data.toList.drop 71 = sX6_odds_71 := dn2 hX6_odds_69
theorem dX6_odds_71 : decode cX6_odds 71 = .ok (.invokevirtual 318, 3) := dk182 hX6_odds_71 rfl
theorem hX6_odds_74 : cX6_odds.data.toList.drop 74 = sX6_odds_74 := dn3 hX6_odds_71
theorem dX6_odds_74 : decode cX6_odds 74 = .ok (.ladd, 1) := dk97 hX6_odds_74
theorem hX6_odds_75 : cX6_odds.data.toList.drop 75 = sX6_odds_75 := dn1 hX6_odds_74
theorem dX6_odds_75 : decode cX6_odds 75 = .ok (.lstore_n 3, 1) := dk66 hX6_odds_75
theorem hX6_odds_76 : cX6_odds.data.toList.drop 76 = sX6_odds_76 := dn1 hX6_odds_75
theorem dX6_odds_76 : decode cX6_odds 76 = .ok (.iinc 5 1, 3) := dk132 hX6_odds_76 rfl (by decide)
theorem hX6_odds_79 : cX6_odds.data.toList.drop 79 = sX6_odds_79 := dn3 hX6_odds_76
theorem dX6_odds_79 : decode cX6_odds 79 = .ok (.goto (-59), 3) := dk167 hX6_odds_79 (by decide)
theorem hX6_odds_82 : cX6_odds.data.toList.drop 82 = sX6_odds_82 := dn3 hX6_odds_79
theorem dX6_odds_82 : decode cX6_odds 82 = .ok (.lload_n 3, 1) := dk33 hX6_odds_82
theorem hX6_odds_83 : cX6_odds.data.toList.drop 83 = sX6_odds_83 := dn1 hX6_odds_82
theorem dX6_odds_83 : decode cX6_odds 83 = .ok (.aload_n 0, 1) := dk42 hX6_odds_83
theorem hX6_odds_84 : cX6_odds.data.toList.drop 84 = sX6_odds_84 := dn1 hX6_odds_83
theorem dX6_odds_84 : decode cX6_odds 84 = .ok (.getfield 19, 3) := dk180 hX6_odds_84 rfl
theorem hX6_odds_87 : cX6_odds.data.toList.drop 87 = sX6_odds_87 := dn3 hX6_odds_84
theorem dX6_odds_87 : decode cX6_odds 87 = .ok (.invokevirtual 322, 3) := dk182 hX6_odds_87 rfl
theorem hX6_odds_90 : cX6_odds.data.toList.drop 90 = sX6_odds_90 := dn3 hX6_odds_87
theorem dX6_odds_90 : decode cX6_odds 90 = .ok (.iload_n 2, 1) := dk28 hX6_odds_90
theorem hX6_odds_91 : cX6_odds.data.toList.drop 91 = sX6_odds_91 := dn1 hX6_odds_90
theorem dX6_odds_91 : decode cX6_odds 91 = .ok (.invokestatic 162, 3) := dk184 hX6_odds_91 rfl
theorem hX6_odds_94 : cX6_odds.data.toList.drop 94 = sX6_odds_94 := dn3 hX6_odds_91
theorem dX6_odds_94 : decode cX6_odds 94 = .ok (.lreturn, 1) := dk173 hX6_odds_94
noncomputable def sX6_orderLeast_51 : List UInt8 := 172 :: []
noncomputable def sX6_orderLeast_50 : List UInt8 := 29 :: sX6_orderLeast_51
noncomputable def sX6_orderLeast_47 : List UInt8 := 167 :: 255 :: 235 :: sX6_orderLeast_50
noncomputable def sX6_orderLeast_44 : List UInt8 := 132 :: 4 :: 1 :: sX6_orderLeast_47
noncomputable def sX6_orderLeast_43 : List UInt8 := 62 :: sX6_orderLeast_44
noncomputable def sX6_orderLeast_40 : List UInt8 := 184 :: 0 :: 255 :: sX6_orderLeast_43
noncomputable def sX6_orderLeast_37 : List UInt8 := 182 :: 0 :: 252 :: sX6_orderLeast_40
noncomputable def sX6_orderLeast_35 : List UInt8 := 21 :: 4 :: sX6_orderLeast_37
noncomputable def sX6_orderLeast_34 : List UInt8 := 27 :: sX6_orderLeast_35
noncomputable def sX6_orderLeast_33 : List UInt8 := 42 :: sX6_orderLeast_34
noncomputable def sX6_orderLeast_32 : List UInt8 := 29 :: sX6_orderLeast_33
noncomputable def sX6_orderLeast_29 : List UInt8 := 162 :: 0 :: 21 :: sX6_orderLeast_32
noncomputable def sX6_orderLeast_28 : List UInt8 := 28 :: sX6_orderLeast_29
noncomputable def sX6_orderLeast_26 : List UInt8 := 21 :: 4 :: sX6_orderLeast_28
noncomputable def sX6_orderLeast_24 : List UInt8 := 54 :: 4 :: sX6_orderLeast_26
noncomputable def sX6_orderLeast_23 : List UInt8 := 4 :: sX6_orderLeast_24
noncomputable def sX6_orderLeast_22 : List UInt8 := 62 :: sX6_orderLeast_23
noncomputable def sX6_orderLeast_19 : List UInt8 := 182 :: 0 :: 252 :: sX6_orderLeast_22
noncomputable def sX6_orderLeast_18 : List UInt8 := 3 :: sX6_orderLeast_19
noncomputable def sX6_orderLeast_17 : List UInt8 := 27 :: sX6_orderLeast_18
noncomputable def sX6_orderLeast_16 : List UInt8 := 42 :: sX6_orderLeast_17
noncomputable def sX6_orderLeast_15 : List UInt8 := 61 :: sX6_orderLeast_16
noncomputable def sX6_orderLeast_12 : List UInt8 := 182 :: 0 :: 249 :: sX6_orderLeast_15
noncomputable def sX6_orderLeast_11 : List UInt8 := 27 :: sX6_orderLeast_12
noncomputable def sX6_orderLeast_10 : List UInt8 := 42 :: sX6_orderLeast_11
noncomputable def sX6_orderLeast_9 : List UInt8 := 172 :: sX6_orderLeast_10
noncomputable def sX6_orderLeast_8 : List UInt8 := 2 :: sX6_orderLeast_9
noncomputable def sX6_orderLeast_5 : List UInt8 := 153 :: 0 :: 5 :: sX6_orderLeast_8
noncomputable def sX6_orderLeast_2 : List UInt8 := 182 :: 0 :: 106 :: sX6_orderLeast_5
noncomputable def sX6_orderLeast_1 : List UInt8 := 27 :: sX6_orderLeast_2
noncomputable def sX6_orderLeast_0 : List UInt8 := 42 :: sX6_orderLeast_1
set_option maxRecDepth 100000 in
theorem hX6_orderLeast_0 : cX6_orderLeast.data.toList.drop 0 = sX6_orderLeast_0 := by decide +kernel
theorem dX6_orderLeast_0 : decode cX6_orderLeast 0 = .ok (.aload_n 0, 1) := dk42 hX6_orderLeast_0
theorem hX6_orderLeast_1 : cX6_orderLeast.data.toList.drop 1 = sX6_orderLeast_1 := dn1 hX6_orderLeast_0
theorem dX6_orderLeast_1 : decode cX6_orderLeast 1 = .ok (.iload_n 1, 1) := dk27 hX6_orderLeast_1
theorem hX6_orderLeast_2 : cX6_orderLeast.data.toList.drop 2 = sX6_orderLeast_2 := dn1 hX6_orderLeast_1
theorem dX6_orderLeast_2 : decode cX6_orderLeast 2 = .ok (.invokevirtual 106, 3) := dk182 hX6_orderLeast_2 rfl
theorem hX6_orderLeast_5 : cX6_orderLeast.data.toList.drop 5 = sX6_orderLeast_5 := dn3 hX6_orderLeast_2
theorem dX6_orderLeast_5 : decode cX6_orderLeast 5 = .ok (.ifCond .eq 5, 3) := dk153 hX6_orderLeast_5 (by decide)
theorem hX6_orderLeast_8 : cX6_orderLeast.data.toList.drop 8 = sX6_orderLeast_8 := dn3 hX6_orderLeast_5
theorem dX6_orderLeast_8 : decode cX6_orderLeast 8 = .ok (.iconst (-1), 1) := dk2 hX6_orderLeast_8
theorem hX6_orderLeast_9 : cX6_orderLeast.data.toList.drop 9 = sX6_orderLeast_9 := dn1 hX6_orderLeast_8
theorem dX6_orderLeast_9 : decode cX6_orderLeast 9 = .ok (.ireturn, 1) := dk172 hX6_orderLeast_9
theorem hX6_orderLeast_10 : cX6_orderLeast.data.toList.drop 10 = sX6_orderLeast_10 := dn1 hX6_orderLeast_9
theorem dX6_orderLeast_10 : decode cX6_orderLeast 10 = .ok (.aload_n 0, 1) := dk42 hX6_orderLeast_10
theorem hX6_orderLeast_11 : cX6_orderLeast.data.toList.drop 11 = sX6_orderLeast_11 := dn1 hX6_orderLeast_10
theorem dX6_orderLeast_11 : decode cX6_orderLeast 11 = .ok (.iload_n 1, 1) := dk27 hX6_orderLeast_11
theorem hX6_orderLeast_12 : cX6_orderLeast.data.toList.drop 12 = sX6_orderLeast_12 := dn1 hX6_orderLeast_11
theorem dX6_orderLeast_12 : decode cX6_orderLeast 12 = .ok (.invokevirtual 249, 3) := dk182 hX6_orderLeast_12 rfl
theorem hX6_orderLeast_15 : cX6_orderLeast.data.toList.drop 15 = sX6_orderLeast_15 := dn3 hX6_orderLeast_12
theorem dX6_orderLeast_15 : decode cX6_orderLeast 15 = .ok (.istore_n 2, 1) := dk61 hX6_orderLeast_15
theorem hX6_orderLeast_16 : cX6_orderLeast.data.toList.drop 16 = sX6_orderLeast_16 := dn1 hX6_orderLeast_15
theorem dX6_orderLeast_16 : decode cX6_orderLeast 16 = .ok (.aload_n 0, 1) := dk42 hX6_orderLeast_16
theorem hX6_orderLeast_17 : cX6_orderLeast.data.toList.drop 17 = sX6_orderLeast_17 := dn1 hX6_orderLeast_16
theorem dX6_orderLeast_17 : decode cX6_orderLeast 17 = .ok (.iload_n 1, 1) := dk27 hX6_orderLeast_17
theorem hX6_orderLeast_18 : cX6_orderLeast.data.toList.drop 18 = sX6_orderLeast_18 := dn1 hX6_orderLeast_17
theorem dX6_orderLeast_18 : decode cX6_orderLeast 18 = .ok (.iconst 0, 1) := dk3 hX6_orderLeast_18
theorem hX6_orderLeast_19 : cX6_orderLeast.data.toList.drop 19 = sX6_orderLeast_19 := dn1 hX6_orderLeast_18
theorem dX6_orderLeast_19 : decode cX6_orderLeast 19 = .ok (.invokevirtual 252, 3) := dk182 hX6_orderLeast_19 rfl
theorem hX6_orderLeast_22 : cX6_orderLeast.data.toList.drop 22 = sX6_orderLeast_22 := dn3 hX6_orderLeast_19
theorem dX6_orderLeast_22 : decode cX6_orderLeast 22 = .ok (.istore_n 3, 1) := dk62 hX6_orderLeast_22
theorem hX6_orderLeast_23 : cX6_orderLeast.data.toList.drop 23 = sX6_orderLeast_23 := dn1 hX6_orderLeast_22
theorem dX6_orderLeast_23 : decode cX6_orderLeast 23 = .ok (.iconst 1, 1) := dk4 hX6_orderLeast_23
theorem hX6_orderLeast_24 : cX6_orderLeast.data.toList.drop 24 = sX6_orderLeast_24 := dn1 hX6_orderLeast_23
theorem dX6_orderLeast_24 : decode cX6_orderLeast 24 = .ok (.istore 4, 2) := dk54 hX6_orderLeast_24 rfl
theorem hX6_orderLeast_26 : cX6_orderLeast.data.toList.drop 26 = sX6_orderLeast_26 := dn2 hX6_orderLeast_24
theorem dX6_orderLeast_26 : decode cX6_orderLeast 26 = .ok (.iload 4, 2) := dk21 hX6_orderLeast_26 rfl
theorem hX6_orderLeast_28 : cX6_orderLeast.data.toList.drop 28 = sX6_orderLeast_28 := dn2 hX6_orderLeast_26
theorem dX6_orderLeast_28 : decode cX6_orderLeast 28 = .ok (.iload_n 2, 1) := dk28 hX6_orderLeast_28
theorem hX6_orderLeast_29 : cX6_orderLeast.data.toList.drop 29 = sX6_orderLeast_29 := dn1 hX6_orderLeast_28
theorem dX6_orderLeast_29 : decode cX6_orderLeast 29 = .ok (.if_icmp .ge 21, 3) := dk162 hX6_orderLeast_29 (by decide)
theorem hX6_orderLeast_32 : cX6_orderLeast.data.toList.drop 32 = sX6_orderLeast_32 := dn3 hX6_orderLeast_29
theorem dX6_orderLeast_32 : decode cX6_orderLeast 32 = .ok (.iload_n 3, 1) := dk29 hX6_orderLeast_32
theorem hX6_orderLeast_33 : cX6_orderLeast.data.toList.drop 33 = sX6_orderLeast_33 := dn1 hX6_orderLeast_32
theorem dX6_orderLeast_33 : decode cX6_orderLeast 33 = .ok (.aload_n 0, 1) := dk42 hX6_orderLeast_33
theorem hX6_orderLeast_34 : cX6_orderLeast.data.toList.drop 34 = sX6_orderLeast_34 := dn1 hX6_orderLeast_33
theorem dX6_orderLeast_34 : decode cX6_orderLeast 34 = .ok (.iload_n 1, 1) := dk27 hX6_orderLeast_34
theorem hX6_orderLeast_35 : cX6_orderLeast.data.toList.drop 35 = sX6_orderLeast_35 := dn1 hX6_orderLeast_34
theorem dX6_orderLeast_35 : decode cX6_orderLeast 35 = .ok (.iload 4, 2) := dk21 hX6_orderLeast_35 rfl
theorem hX6_orderLeast_37 : cX6_orderLeast.data.toList.drop 37 = sX6_orderLeast_37 := dn2 hX6_orderLeast_35
theorem dX6_orderLeast_37 : decode cX6_orderLeast 37 = .ok (.invokevirtual 252, 3) := dk182 hX6_orderLeast_37 rfl
theorem hX6_orderLeast_40 : cX6_orderLeast.data.toList.drop 40 = sX6_orderLeast_40 := dn3 hX6_orderLeast_37
theorem dX6_orderLeast_40 : decode cX6_orderLeast 40 = .ok (.invokestatic 255, 3) := dk184 hX6_orderLeast_40 rfl
theorem hX6_orderLeast_43 : cX6_orderLeast.data.toList.drop 43 = sX6_orderLeast_43 := dn3 hX6_orderLeast_40
theorem dX6_orderLeast_43 : decode cX6_orderLeast 43 = .ok (.istore_n 3, 1) := dk62 hX6_orderLeast_43
theorem hX6_orderLeast_44 : cX6_orderLeast.data.toList.drop 44 = sX6_orderLeast_44 := dn1 hX6_orderLeast_43
theorem dX6_orderLeast_44 : decode cX6_orderLeast 44 = .ok (.iinc 4 1, 3) := dk132 hX6_orderLeast_44 rfl (by decide)
theorem hX6_orderLeast_47 : cX6_orderLeast.data.toList.drop 47 = sX6_orderLeast_47 := dn3 hX6_orderLeast_44
theorem dX6_orderLeast_47 : decode cX6_orderLeast 47 = .ok (.goto (-21), 3) := dk167 hX6_orderLeast_47 (by decide)
theorem hX6_orderLeast_50 : cX6_orderLeast.data.toList.drop 50 = sX6_orderLeast_50 := dn3 hX6_orderLeast_47
theorem dX6_orderLeast_50 : decode cX6_orderLeast 50 = .ok (.iload_n 3, 1) := dk29 hX6_orderLeast_50
theorem hX6_orderLeast_51 : cX6_orderLeast.data.toList.drop 51 = sX6_orderLeast_51 := dn1 hX6_orderLeast_50
theorem dX6_orderLeast_51 : decode cX6_orderLeast 51 = .ok (.ireturn, 1) := dk172 hX6_orderLeast_51
noncomputable def sX6_orderMean_57 : List UInt8 := 173 :: []
noncomputable def sX6_orderMean_54 : List UInt8 := 184 :: 0 :: 162 :: sX6_orderMean_57
noncomputable def sX6_orderMean_53 : List UInt8 := 28 :: sX6_orderMean_54
noncomputable def sX6_orderMean_52 : List UInt8 := 133 :: sX6_orderMean_53
noncomputable def sX6_orderMean_51 : List UInt8 := 29 :: sX6_orderMean_52
noncomputable def sX6_orderMean_49 : List UInt8 := 22 :: 4 :: sX6_orderMean_51
noncomputable def sX6_orderMean_46 : List UInt8 := 167 :: 255 :: 234 :: sX6_orderMean_49
noncomputable def sX6_orderMean_43 : List UInt8 := 132 :: 6 :: 1 :: sX6_orderMean_46
noncomputable def sX6_orderMean_41 : List UInt8 := 55 :: 4 :: sX6_orderMean_43
noncomputable def sX6_orderMean_40 : List UInt8 := 97 :: sX6_orderMean_41
noncomputable def sX6_orderMean_39 : List UInt8 := 133 :: sX6_orderMean_40
noncomputable def sX6_orderMean_36 : List UInt8 := 182 :: 0 :: 252 :: sX6_orderMean_39
noncomputable def sX6_orderMean_34 : List UInt8 := 21 :: 6 :: sX6_orderMean_36
noncomputable def sX6_orderMean_33 : List UInt8 := 27 :: sX6_orderMean_34
noncomputable def sX6_orderMean_32 : List UInt8 := 42 :: sX6_orderMean_33
noncomputable def sX6_orderMean_30 : List UInt8 := 22 :: 4 :: sX6_orderMean_32
noncomputable def sX6_orderMean_27 : List UInt8 := 162 :: 0 :: 22 :: sX6_orderMean_30
noncomputable def sX6_orderMean_26 : List UInt8 := 29 :: sX6_orderMean_27
noncomputable def sX6_orderMean_24 : List UInt8 := 21 :: 6 :: sX6_orderMean_26
noncomputable def sX6_orderMean_22 : List UInt8 := 54 :: 6 :: sX6_orderMean_24
noncomputable def sX6_orderMean_21 : List UInt8 := 3 :: sX6_orderMean_22
noncomputable def sX6_orderMean_19 : List UInt8 := 55 :: 4 :: sX6_orderMean_21
noncomputable def sX6_orderMean_18 : List UInt8 := 9 :: sX6_orderMean_19
noncomputable def sX6_orderMean_17 : List UInt8 := 62 :: sX6_orderMean_18
noncomputable def sX6_orderMean_14 : List UInt8 := 182 :: 0 :: 249 :: sX6_orderMean_17
noncomputable def sX6_orderMean_13 : List UInt8 := 27 :: sX6_orderMean_14
noncomputable def sX6_orderMean_12 : List UInt8 := 42 :: sX6_orderMean_13
noncomputable def sX6_orderMean_11 : List UInt8 := 173 :: sX6_orderMean_12
noncomputable def sX6_orderMean_8 : List UInt8 := 20 :: 0 :: 147 :: sX6_orderMean_11
noncomputable def sX6_orderMean_5 : List UInt8 := 153 :: 0 :: 7 :: sX6_orderMean_8
noncomputable def sX6_orderMean_2 : List UInt8 := 182 :: 0 :: 106 :: sX6_orderMean_5
noncomputable def sX6_orderMean_1 : List UInt8 := 27 :: sX6_orderMean_2
noncomputable def sX6_orderMean_0 : List UInt8 := 42 :: sX6_orderMean_1
set_option maxRecDepth 100000 in
theorem hX6_orderMean_0 : cX6_orderMean.data.toList.drop 0 = sX6_orderMean_0 := by decide +kernel
theorem dX6_orderMean_0 : decode cX6_orderMean 0 = .ok (.aload_n 0, 1) := dk42 hX6_orderMean_0
theorem hX6_orderMean_1 : cX6_orderMean.data.toList.drop 1 = sX6_orderMean_1 := dn1 hX6_orderMean_0
theorem dX6_orderMean_1 : decode cX6_orderMean 1 = .ok (.iload_n 1, 1) := dk27 hX6_orderMean_1
theorem hX6_orderMean_2 : cX6_orderMean.data.toList.drop 2 = sX6_orderMean_2 := dn1 hX6_orderMean_1
theorem dX6_orderMean_2 : decode cX6_orderMean 2 = .ok (.invokevirtual 106, 3) := dk182 hX6_orderMean_2 rfl
theorem hX6_orderMean_5 : cX6_orderMean.data.toList.drop 5 = sX6_orderMean_5 := dn3 hX6_orderMean_2
theorem dX6_orderMean_5 : decode cX6_orderMean 5 = .ok (.ifCond .eq 7, 3) := dk153 hX6_orderMean_5 (by decide)
theorem hX6_orderMean_8 : cX6_orderMean.data.toList.drop 8 = sX6_orderMean_8 := dn3 hX6_orderMean_5
theorem dX6_orderMean_8 : decode cX6_orderMean 8 = .ok (.ldc2_w 147, 3) := dk20 hX6_orderMean_8 rfl
theorem hX6_orderMean_11 : cX6_orderMean.data.toList.drop 11 = sX6_orderMean_11 := dn3 hX6_orderMean_8
theorem dX6_orderMean_11 : decode cX6_orderMean 11 = .ok (.lreturn, 1) := dk173 hX6_orderMean_11
theorem hX6_orderMean_12 : cX6_orderMean.data.toList.drop 12 = sX6_orderMean_12 := dn1 hX6_orderMean_11
theorem dX6_orderMean_12 : decode cX6_orderMean 12 = .ok (.aload_n 0, 1) := dk42 hX6_orderMean_12
theorem hX6_orderMean_13 : cX6_orderMean.data.toList.drop 13 = sX6_orderMean_13 := dn1 hX6_orderMean_12
theorem dX6_orderMean_13 : decode cX6_orderMean 13 = .ok (.iload_n 1, 1) := dk27 hX6_orderMean_13
theorem hX6_orderMean_14 : cX6_orderMean.data.toList.drop 14 = sX6_orderMean_14 := dn1 hX6_orderMean_13
theorem dX6_orderMean_14 : decode cX6_orderMean 14 = .ok (.invokevirtual 249, 3) := dk182 hX6_orderMean_14 rfl
theorem hX6_orderMean_17 : cX6_orderMean.data.toList.drop 17 = sX6_orderMean_17 := dn3 hX6_orderMean_14
theorem dX6_orderMean_17 : decode cX6_orderMean 17 = .ok (.istore_n 3, 1) := dk62 hX6_orderMean_17
theorem hX6_orderMean_18 : cX6_orderMean.data.toList.drop 18 = sX6_orderMean_18 := dn1 hX6_orderMean_17
theorem dX6_orderMean_18 : decode cX6_orderMean 18 = .ok (.lconst 0, 1) := dk9 hX6_orderMean_18
theorem hX6_orderMean_19 : cX6_orderMean.data.toList.drop 19 = sX6_orderMean_19 := dn1 hX6_orderMean_18
theorem dX6_orderMean_19 : decode cX6_orderMean 19 = .ok (.lstore 4, 2) := dk55 hX6_orderMean_19 rfl
theorem hX6_orderMean_21 : cX6_orderMean.data.toList.drop 21 = sX6_orderMean_21 := dn2 hX6_orderMean_19
theorem dX6_orderMean_21 : decode cX6_orderMean 21 = .ok (.iconst 0, 1) := dk3 hX6_orderMean_21
theorem hX6_orderMean_22 : cX6_orderMean.data.toList.drop 22 = sX6_orderMean_22 := dn1 hX6_orderMean_21
theorem dX6_orderMean_22 : decode cX6_orderMean 22 = .ok (.istore 6, 2) := dk54 hX6_orderMean_22 rfl
theorem hX6_orderMean_24 : cX6_orderMean.data.toList.drop 24 = sX6_orderMean_24 := dn2 hX6_orderMean_22
theorem dX6_orderMean_24 : decode cX6_orderMean 24 = .ok (.iload 6, 2) := dk21 hX6_orderMean_24 rfl
theorem hX6_orderMean_26 : cX6_orderMean.data.toList.drop 26 = sX6_orderMean_26 := dn2 hX6_orderMean_24
theorem dX6_orderMean_26 : decode cX6_orderMean 26 = .ok (.iload_n 3, 1) := dk29 hX6_orderMean_26
theorem hX6_orderMean_27 : cX6_orderMean.data.toList.drop 27 = sX6_orderMean_27 := dn1 hX6_orderMean_26
theorem dX6_orderMean_27 : decode cX6_orderMean 27 = .ok (.if_icmp .ge 22, 3) := dk162 hX6_orderMean_27 (by decide)
theorem hX6_orderMean_30 : cX6_orderMean.data.toList.drop 30 = sX6_orderMean_30 := dn3 hX6_orderMean_27
theorem dX6_orderMean_30 : decode cX6_orderMean 30 = .ok (.lload 4, 2) := dk22 hX6_orderMean_30 rfl
theorem hX6_orderMean_32 : cX6_orderMean.data.toList.drop 32 = sX6_orderMean_32 := dn2 hX6_orderMean_30
theorem dX6_orderMean_32 : decode cX6_orderMean 32 = .ok (.aload_n 0, 1) := dk42 hX6_orderMean_32
theorem hX6_orderMean_33 : cX6_orderMean.data.toList.drop 33 = sX6_orderMean_33 := dn1 hX6_orderMean_32
theorem dX6_orderMean_33 : decode cX6_orderMean 33 = .ok (.iload_n 1, 1) := dk27 hX6_orderMean_33
theorem hX6_orderMean_34 : cX6_orderMean.data.toList.drop 34 = sX6_orderMean_34 := dn1 hX6_orderMean_33
theorem dX6_orderMean_34 : decode cX6_orderMean 34 = .ok (.iload 6, 2) := dk21 hX6_orderMean_34 rfl
theorem hX6_orderMean_36 : cX6_orderMean.data.toList.drop 36 = sX6_orderMean_36 := dn2 hX6_orderMean_34
theorem dX6_orderMean_36 : decode cX6_orderMean 36 = .ok (.invokevirtual 252, 3) := dk182 hX6_orderMean_36 rfl
theorem hX6_orderMean_39 : cX6_orderMean.data.toList.drop 39 = sX6_orderMean_39 := dn3 hX6_orderMean_36
theorem dX6_orderMean_39 : decode cX6_orderMean 39 = .ok (.i2l, 1) := dk133 hX6_orderMean_39
theorem hX6_orderMean_40 : cX6_orderMean.data.toList.drop 40 = sX6_orderMean_40 := dn1 hX6_orderMean_39
theorem dX6_orderMean_40 : decode cX6_orderMean 40 = .ok (.ladd, 1) := dk97 hX6_orderMean_40
theorem hX6_orderMean_41 : cX6_orderMean.data.toList.drop 41 = sX6_orderMean_41 := dn1 hX6_orderMean_40
theorem dX6_orderMean_41 : decode cX6_orderMean 41 = .ok (.lstore 4, 2) := dk55 hX6_orderMean_41 rfl
theorem hX6_orderMean_43 : cX6_orderMean.data.toList.drop 43 = sX6_orderMean_43 := dn2 hX6_orderMean_41
theorem dX6_orderMean_43 : decode cX6_orderMean 43 = .ok (.iinc 6 1, 3) := dk132 hX6_orderMean_43 rfl (by decide)
theorem hX6_orderMean_46 : cX6_orderMean.data.toList.drop 46 = sX6_orderMean_46 := dn3 hX6_orderMean_43
theorem dX6_orderMean_46 : decode cX6_orderMean 46 = .ok (.goto (-22), 3) := dk167 hX6_orderMean_46 (by decide)
theorem hX6_orderMean_49 : cX6_orderMean.data.toList.drop 49 = sX6_orderMean_49 := dn3 hX6_orderMean_46
theorem dX6_orderMean_49 : decode cX6_orderMean 49 = .ok (.lload 4, 2) := dk22 hX6_orderMean_49 rfl
theorem hX6_orderMean_51 : cX6_orderMean.data.toList.drop 51 = sX6_orderMean_51 := dn2 hX6_orderMean_49
theorem dX6_orderMean_51 : decode cX6_orderMean 51 = .ok (.iload_n 3, 1) := dk29 hX6_orderMean_51
theorem hX6_orderMean_52 : cX6_orderMean.data.toList.drop 52 = sX6_orderMean_52 := dn1 hX6_orderMean_51
theorem dX6_orderMean_52 : decode cX6_orderMean 52 = .ok (.i2l, 1) := dk133 hX6_orderMean_52
theorem hX6_orderMean_53 : cX6_orderMean.data.toList.drop 53 = sX6_orderMean_53 := dn1 hX6_orderMean_52
theorem dX6_orderMean_53 : decode cX6_orderMean 53 = .ok (.iload_n 2, 1) := dk28 hX6_orderMean_53
theorem hX6_orderMean_54 : cX6_orderMean.data.toList.drop 54 = sX6_orderMean_54 := dn1 hX6_orderMean_53
theorem dX6_orderMean_54 : decode cX6_orderMean 54 = .ok (.invokestatic 162, 3) := dk184 hX6_orderMean_54 rfl
theorem hX6_orderMean_57 : cX6_orderMean.data.toList.drop 57 = sX6_orderMean_57 := dn3 hX6_orderMean_54
theorem dX6_orderMean_57 : decode cX6_orderMean 57 = .ok (.lreturn, 1) := dk173 hX6_orderMean_57
noncomputable def sX6_ordersOf_28 : List UInt8 := 172 :: []
noncomputable def sX6_ordersOf_27 : List UInt8 := 28 :: sX6_ordersOf_28
noncomputable def sX6_ordersOf_24 : List UInt8 := 167 :: 255 :: 236 :: sX6_ordersOf_27
noncomputable def sX6_ordersOf_21 : List UInt8 := 132 :: 3 :: 1 :: sX6_ordersOf_24
noncomputable def sX6_ordersOf_20 : List UInt8 := 61 :: sX6_ordersOf_21
noncomputable def sX6_ordersOf_19 : List UInt8 := 104 :: sX6_ordersOf_20
noncomputable def sX6_ordersOf_18 : List UInt8 := 29 :: sX6_ordersOf_19
noncomputable def sX6_ordersOf_17 : List UInt8 := 28 :: sX6_ordersOf_18
noncomputable def sX6_ordersOf_14 : List UInt8 := 163 :: 0 :: 13 :: sX6_ordersOf_17
noncomputable def sX6_ordersOf_13 : List UInt8 := 46 :: sX6_ordersOf_14
noncomputable def sX6_ordersOf_12 : List UInt8 := 27 :: sX6_ordersOf_13
noncomputable def sX6_ordersOf_9 : List UInt8 := 180 :: 0 :: 113 :: sX6_ordersOf_12
noncomputable def sX6_ordersOf_6 : List UInt8 := 180 :: 0 :: 19 :: sX6_ordersOf_9
noncomputable def sX6_ordersOf_5 : List UInt8 := 42 :: sX6_ordersOf_6
noncomputable def sX6_ordersOf_4 : List UInt8 := 29 :: sX6_ordersOf_5
noncomputable def sX6_ordersOf_3 : List UInt8 := 62 :: sX6_ordersOf_4
noncomputable def sX6_ordersOf_2 : List UInt8 := 5 :: sX6_ordersOf_3
noncomputable def sX6_ordersOf_1 : List UInt8 := 61 :: sX6_ordersOf_2
noncomputable def sX6_ordersOf_0 : List UInt8 := 4 :: sX6_ordersOf_1
set_option maxRecDepth 100000 in
theorem hX6_ordersOf_0 : cX6_ordersOf.data.toList.drop 0 = sX6_ordersOf_0 := by decide +kernel
theorem dX6_ordersOf_0 : decode cX6_ordersOf 0 = .ok (.iconst 1, 1) := dk4 hX6_ordersOf_0
theorem hX6_ordersOf_1 : cX6_ordersOf.data.toList.drop 1 = sX6_ordersOf_1 := dn1 hX6_ordersOf_0
theorem dX6_ordersOf_1 : decode cX6_ordersOf 1 = .ok (.istore_n 2, 1) := dk61 hX6_ordersOf_1
theorem hX6_ordersOf_2 : cX6_ordersOf.data.toList.drop 2 = sX6_ordersOf_2 := dn1 hX6_ordersOf_1
theorem dX6_ordersOf_2 : decode cX6_ordersOf 2 = .ok (.iconst 2, 1) := dk5 hX6_ordersOf_2
theorem hX6_ordersOf_3 : cX6_ordersOf.data.toList.drop 3 = sX6_ordersOf_3 := dn1 hX6_ordersOf_2
theorem dX6_ordersOf_3 : decode cX6_ordersOf 3 = .ok (.istore_n 3, 1) := dk62 hX6_ordersOf_3
theorem hX6_ordersOf_4 : cX6_ordersOf.data.toList.drop 4 = sX6_ordersOf_4 := dn1 hX6_ordersOf_3
theorem dX6_ordersOf_4 : decode cX6_ordersOf 4 = .ok (.iload_n 3, 1) := dk29 hX6_ordersOf_4
theorem hX6_ordersOf_5 : cX6_ordersOf.data.toList.drop 5 = sX6_ordersOf_5 := dn1 hX6_ordersOf_4
theorem dX6_ordersOf_5 : decode cX6_ordersOf 5 = .ok (.aload_n 0, 1) := dk42 hX6_ordersOf_5
theorem hX6_ordersOf_6 : cX6_ordersOf.data.toList.drop 6 = sX6_ordersOf_6 := dn1 hX6_ordersOf_5
theorem dX6_ordersOf_6 : decode cX6_ordersOf 6 = .ok (.getfield 19, 3) := dk180 hX6_ordersOf_6 rfl
theorem hX6_ordersOf_9 : cX6_ordersOf.data.toList.drop 9 = sX6_ordersOf_9 := dn3 hX6_ordersOf_6
theorem dX6_ordersOf_9 : decode cX6_ordersOf 9 = .ok (.getfield 113, 3) := dk180 hX6_ordersOf_9 rfl
theorem hX6_ordersOf_12 : cX6_ordersOf.data.toList.drop 12 = sX6_ordersOf_12 := dn3 hX6_ordersOf_9
theorem dX6_ordersOf_12 : decode cX6_ordersOf 12 = .ok (.iload_n 1, 1) := dk27 hX6_ordersOf_12
theorem hX6_ordersOf_13 : cX6_ordersOf.data.toList.drop 13 = sX6_ordersOf_13 := dn1 hX6_ordersOf_12
theorem dX6_ordersOf_13 : decode cX6_ordersOf 13 = .ok (.iaload, 1) := dk46 hX6_ordersOf_13
theorem hX6_ordersOf_14 : cX6_ordersOf.data.toList.drop 14 = sX6_ordersOf_14 := dn1 hX6_ordersOf_13
theorem dX6_ordersOf_14 : decode cX6_ordersOf 14 = .ok (.if_icmp .gt 13, 3) := dk163 hX6_ordersOf_14 (by decide)
theorem hX6_ordersOf_17 : cX6_ordersOf.data.toList.drop 17 = sX6_ordersOf_17 := dn3 hX6_ordersOf_14
theorem dX6_ordersOf_17 : decode cX6_ordersOf 17 = .ok (.iload_n 2, 1) := dk28 hX6_ordersOf_17
theorem hX6_ordersOf_18 : cX6_ordersOf.data.toList.drop 18 = sX6_ordersOf_18 := dn1 hX6_ordersOf_17
theorem dX6_ordersOf_18 : decode cX6_ordersOf 18 = .ok (.iload_n 3, 1) := dk29 hX6_ordersOf_18
theorem hX6_ordersOf_19 : cX6_ordersOf.data.toList.drop 19 = sX6_ordersOf_19 := dn1 hX6_ordersOf_18
theorem dX6_ordersOf_19 : decode cX6_ordersOf 19 = .ok (.imul, 1) := dk104 hX6_ordersOf_19
theorem hX6_ordersOf_20 : cX6_ordersOf.data.toList.drop 20 = sX6_ordersOf_20 := dn1 hX6_ordersOf_19
theorem dX6_ordersOf_20 : decode cX6_ordersOf 20 = .ok (.istore_n 2, 1) := dk61 hX6_ordersOf_20
theorem hX6_ordersOf_21 : cX6_ordersOf.data.toList.drop 21 = sX6_ordersOf_21 := dn1 hX6_ordersOf_20
theorem dX6_ordersOf_21 : decode cX6_ordersOf 21 = .ok (.iinc 3 1, 3) := dk132 hX6_ordersOf_21 rfl (by decide)
theorem hX6_ordersOf_24 : cX6_ordersOf.data.toList.drop 24 = sX6_ordersOf_24 := dn3 hX6_ordersOf_21
theorem dX6_ordersOf_24 : decode cX6_ordersOf 24 = .ok (.goto (-20), 3) := dk167 hX6_ordersOf_24 (by decide)
theorem hX6_ordersOf_27 : cX6_ordersOf.data.toList.drop 27 = sX6_ordersOf_27 := dn3 hX6_ordersOf_24
theorem dX6_ordersOf_27 : decode cX6_ordersOf 27 = .ok (.iload_n 2, 1) := dk28 hX6_ordersOf_27
theorem hX6_ordersOf_28 : cX6_ordersOf.data.toList.drop 28 = sX6_ordersOf_28 := dn1 hX6_ordersOf_27
theorem dX6_ordersOf_28 : decode cX6_ordersOf 28 = .ok (.ireturn, 1) := dk172 hX6_ordersOf_28
noncomputable def sX6_part_26 : List UInt8 := 172 :: []
noncomputable def sX6_part_23 : List UInt8 := 182 :: 0 :: 129 :: sX6_part_26
noncomputable def sX6_part_22 : List UInt8 := 28 :: sX6_part_23
noncomputable def sX6_part_21 : List UInt8 := 27 :: sX6_part_22
noncomputable def sX6_part_18 : List UInt8 := 180 :: 0 :: 19 :: sX6_part_21
noncomputable def sX6_part_17 : List UInt8 := 42 :: sX6_part_18
noncomputable def sX6_part_14 : List UInt8 := 180 :: 0 :: 26 :: sX6_part_17
noncomputable def sX6_part_13 : List UInt8 := 42 :: sX6_part_14
noncomputable def sX6_part_10 : List UInt8 := 167 :: 0 :: 16 :: sX6_part_13
noncomputable def sX6_part_9 : List UInt8 := 2 :: sX6_part_10
noncomputable def sX6_part_6 : List UInt8 := 153 :: 0 :: 7 :: sX6_part_9
noncomputable def sX6_part_3 : List UInt8 := 182 :: 0 :: 125 :: sX6_part_6
noncomputable def sX6_part_2 : List UInt8 := 28 :: sX6_part_3
noncomputable def sX6_part_1 : List UInt8 := 27 :: sX6_part_2
noncomputable def sX6_part_0 : List UInt8 := 42 :: sX6_part_1
set_option maxRecDepth 100000 in
theorem hX6_part_0 : cX6_part.data.toList.drop 0 = sX6_part_0 := by decide +kernel
theorem dX6_part_0 : decode cX6_part 0 = .ok (.aload_n 0, 1) := dk42 hX6_part_0
theorem hX6_part_1 : cX6_part.data.toList.drop 1 = sX6_part_1 := dn1 hX6_part_0
theorem dX6_part_1 : decode cX6_part 1 = .ok (.iload_n 1, 1) := dk27 hX6_part_1
theorem hX6_part_2 : cX6_part.data.toList.drop 2 = sX6_part_2 := dn1 hX6_part_1
theorem dX6_part_2 : decode cX6_part 2 = .ok (.iload_n 2, 1) := dk28 hX6_part_2
theorem hX6_part_3 : cX6_part.data.toList.drop 3 = sX6_part_3 := dn1 hX6_part_2
theorem dX6_part_3 : decode cX6_part 3 = .ok (.invokevirtual 125, 3) := dk182 hX6_part_3 rfl
theorem hX6_part_6 : cX6_part.data.toList.drop 6 = sX6_part_6 := dn3 hX6_part_3
theorem dX6_part_6 : decode cX6_part 6 = .ok (.ifCond .eq 7, 3) := dk153 hX6_part_6 (by decide)
theorem hX6_part_9 : cX6_part.data.toList.drop 9 = sX6_part_9 := dn3 hX6_part_6
theorem dX6_part_9 : decode cX6_part 9 = .ok (.iconst (-1), 1) := dk2 hX6_part_9
theorem hX6_part_10 : cX6_part.data.toList.drop 10 = sX6_part_10 := dn1 hX6_part_9
theorem dX6_part_10 : decode cX6_part 10 = .ok (.goto 16, 3) := dk167 hX6_part_10 (by decide)
theorem hX6_part_13 : cX6_part.data.toList.drop 13 = sX6_part_13 := dn3 hX6_part_10
theorem dX6_part_13 : decode cX6_part 13 = .ok (.aload_n 0, 1) := dk42 hX6_part_13
theorem hX6_part_14 : cX6_part.data.toList.drop 14 = sX6_part_14 := dn1 hX6_part_13
theorem dX6_part_14 : decode cX6_part 14 = .ok (.getfield 26, 3) := dk180 hX6_part_14 rfl
theorem hX6_part_17 : cX6_part.data.toList.drop 17 = sX6_part_17 := dn3 hX6_part_14
theorem dX6_part_17 : decode cX6_part 17 = .ok (.aload_n 0, 1) := dk42 hX6_part_17
theorem hX6_part_18 : cX6_part.data.toList.drop 18 = sX6_part_18 := dn1 hX6_part_17
theorem dX6_part_18 : decode cX6_part 18 = .ok (.getfield 19, 3) := dk180 hX6_part_18 rfl
theorem hX6_part_21 : cX6_part.data.toList.drop 21 = sX6_part_21 := dn3 hX6_part_18
theorem dX6_part_21 : decode cX6_part 21 = .ok (.iload_n 1, 1) := dk27 hX6_part_21
theorem hX6_part_22 : cX6_part.data.toList.drop 22 = sX6_part_22 := dn1 hX6_part_21
theorem dX6_part_22 : decode cX6_part 22 = .ok (.iload_n 2, 1) := dk28 hX6_part_22
theorem hX6_part_23 : cX6_part.data.toList.drop 23 = sX6_part_23 := dn1 hX6_part_22
theorem dX6_part_23 : decode cX6_part 23 = .ok (.invokevirtual 129, 3) := dk182 hX6_part_23 rfl
theorem hX6_part_26 : cX6_part.data.toList.drop 26 = sX6_part_26 := dn3 hX6_part_23
theorem dX6_part_26 : decode cX6_part 26 = .ok (.ireturn, 1) := dk172 hX6_part_26
noncomputable def sX6_pivot_78 : List UInt8 := 172 :: []
noncomputable def sX6_pivot_77 : List UInt8 := 27 :: sX6_pivot_78
noncomputable def sX6_pivot_74 : List UInt8 := 167 :: 255 :: 198 :: sX6_pivot_77
noncomputable def sX6_pivot_71 : List UInt8 := 132 :: 3 :: 1 :: sX6_pivot_74
noncomputable def sX6_pivot_70 : List UInt8 := 61 :: sX6_pivot_71
noncomputable def sX6_pivot_68 : List UInt8 := 21 :: 4 :: sX6_pivot_70
noncomputable def sX6_pivot_67 : List UInt8 := 60 :: sX6_pivot_68
noncomputable def sX6_pivot_66 : List UInt8 := 29 :: sX6_pivot_67
noncomputable def sX6_pivot_63 : List UInt8 := 162 :: 0 :: 8 :: sX6_pivot_66
noncomputable def sX6_pivot_62 : List UInt8 := 28 :: sX6_pivot_63
noncomputable def sX6_pivot_60 : List UInt8 := 21 :: 4 :: sX6_pivot_62
noncomputable def sX6_pivot_57 : List UInt8 := 155 :: 0 :: 9 :: sX6_pivot_60
noncomputable def sX6_pivot_56 : List UInt8 := 27 :: sX6_pivot_57
noncomputable def sX6_pivot_53 : List UInt8 := 155 :: 0 :: 18 :: sX6_pivot_56
noncomputable def sX6_pivot_51 : List UInt8 := 21 :: 4 :: sX6_pivot_53
noncomputable def sX6_pivot_49 : List UInt8 := 54 :: 4 :: sX6_pivot_51
noncomputable def sX6_pivot_47 : List UInt8 := 16 :: 254 :: sX6_pivot_49
noncomputable def sX6_pivot_44 : List UInt8 := 167 :: 0 :: 5 :: sX6_pivot_47
noncomputable def sX6_pivot_41 : List UInt8 := 182 :: 1 :: 18 :: sX6_pivot_44
noncomputable def sX6_pivot_40 : List UInt8 := 29 :: sX6_pivot_41
noncomputable def sX6_pivot_39 : List UInt8 := 42 :: sX6_pivot_40
noncomputable def sX6_pivot_36 : List UInt8 := 154 :: 0 :: 11 :: sX6_pivot_39
noncomputable def sX6_pivot_35 : List UInt8 := 46 :: sX6_pivot_36
noncomputable def sX6_pivot_34 : List UInt8 := 29 :: sX6_pivot_35
noncomputable def sX6_pivot_31 : List UInt8 := 180 :: 0 :: 109 :: sX6_pivot_34
noncomputable def sX6_pivot_28 : List UInt8 := 180 :: 0 :: 19 :: sX6_pivot_31
noncomputable def sX6_pivot_27 : List UInt8 := 42 :: sX6_pivot_28
noncomputable def sX6_pivot_24 : List UInt8 := 162 :: 0 :: 53 :: sX6_pivot_27
noncomputable def sX6_pivot_21 : List UInt8 := 180 :: 0 :: 103 :: sX6_pivot_24
noncomputable def sX6_pivot_18 : List UInt8 := 180 :: 0 :: 19 :: sX6_pivot_21
noncomputable def sX6_pivot_17 : List UInt8 := 42 :: sX6_pivot_18
noncomputable def sX6_pivot_16 : List UInt8 := 29 :: sX6_pivot_17
noncomputable def sX6_pivot_15 : List UInt8 := 62 :: sX6_pivot_16
noncomputable def sX6_pivot_14 : List UInt8 := 3 :: sX6_pivot_15
noncomputable def sX6_pivot_13 : List UInt8 := 61 :: sX6_pivot_14
noncomputable def sX6_pivot_12 : List UInt8 := 3 :: sX6_pivot_13
noncomputable def sX6_pivot_11 : List UInt8 := 60 :: sX6_pivot_12
noncomputable def sX6_pivot_9 : List UInt8 := 16 :: 254 :: sX6_pivot_11
noncomputable def sX6_pivot_8 : List UInt8 := 172 :: sX6_pivot_9
noncomputable def sX6_pivot_7 : List UInt8 := 2 :: sX6_pivot_8
noncomputable def sX6_pivot_4 : List UInt8 := 153 :: 0 :: 5 :: sX6_pivot_7
noncomputable def sX6_pivot_1 : List UInt8 := 182 :: 0 :: 140 :: sX6_pivot_4
noncomputable def sX6_pivot_0 : List UInt8 := 42 :: sX6_pivot_1
set_option maxRecDepth 100000 in
theorem hX6_pivot_0 : cX6_pivot.data.toList.drop 0 = sX6_pivot_0 := by decide +kernel
theorem dX6_pivot_0 : decode cX6_pivot 0 = .ok (.aload_n 0, 1) := dk42 hX6_pivot_0
theorem hX6_pivot_1 : cX6_pivot.data.toList.drop 1 = sX6_pivot_1 := dn1 hX6_pivot_0
theorem dX6_pivot_1 : decode cX6_pivot 1 = .ok (.invokevirtual 140, 3) := dk182 hX6_pivot_1 rfl
theorem hX6_pivot_4 : cX6_pivot.data.toList.drop 4 = sX6_pivot_4 := dn3 hX6_pivot_1
theorem dX6_pivot_4 : decode cX6_pivot 4 = .ok (.ifCond .eq 5, 3) := dk153 hX6_pivot_4 (by decide)
theorem hX6_pivot_7 : cX6_pivot.data.toList.drop 7 = sX6_pivot_7 := dn3 hX6_pivot_4
theorem dX6_pivot_7 : decode cX6_pivot 7 = .ok (.iconst (-1), 1) := dk2 hX6_pivot_7
theorem hX6_pivot_8 : cX6_pivot.data.toList.drop 8 = sX6_pivot_8 := dn1 hX6_pivot_7
theorem dX6_pivot_8 : decode cX6_pivot 8 = .ok (.ireturn, 1) := dk172 hX6_pivot_8
theorem hX6_pivot_9 : cX6_pivot.data.toList.drop 9 = sX6_pivot_9 := dn1 hX6_pivot_8
theorem dX6_pivot_9 : decode cX6_pivot 9 = .ok (.bipush (-2), 2) := dk16 hX6_pivot_9 (by decide)
theorem hX6_pivot_11 : cX6_pivot.data.toList.drop 11 = sX6_pivot_11 := dn2 hX6_pivot_9
theorem dX6_pivot_11 : decode cX6_pivot 11 = .ok (.istore_n 1, 1) := dk60 hX6_pivot_11
theorem hX6_pivot_12 : cX6_pivot.data.toList.drop 12 = sX6_pivot_12 := dn1 hX6_pivot_11
theorem dX6_pivot_12 : decode cX6_pivot 12 = .ok (.iconst 0, 1) := dk3 hX6_pivot_12
theorem hX6_pivot_13 : cX6_pivot.data.toList.drop 13 = sX6_pivot_13 := dn1 hX6_pivot_12
theorem dX6_pivot_13 : decode cX6_pivot 13 = .ok (.istore_n 2, 1) := dk61 hX6_pivot_13
theorem hX6_pivot_14 : cX6_pivot.data.toList.drop 14 = sX6_pivot_14 := dn1 hX6_pivot_13
theorem dX6_pivot_14 : decode cX6_pivot 14 = .ok (.iconst 0, 1) := dk3 hX6_pivot_14
theorem hX6_pivot_15 : cX6_pivot.data.toList.drop 15 = sX6_pivot_15 := dn1 hX6_pivot_14
theorem dX6_pivot_15 : decode cX6_pivot 15 = .ok (.istore_n 3, 1) := dk62 hX6_pivot_15
theorem hX6_pivot_16 : cX6_pivot.data.toList.drop 16 = sX6_pivot_16 := dn1 hX6_pivot_15
theorem dX6_pivot_16 : decode cX6_pivot 16 = .ok (.iload_n 3, 1) := dk29 hX6_pivot_16
theorem hX6_pivot_17 : cX6_pivot.data.toList.drop 17 = sX6_pivot_17 := dn1 hX6_pivot_16
theorem dX6_pivot_17 : decode cX6_pivot 17 = .ok (.aload_n 0, 1) := dk42 hX6_pivot_17
theorem hX6_pivot_18 : cX6_pivot.data.toList.drop 18 = sX6_pivot_18 := dn1 hX6_pivot_17
theorem dX6_pivot_18 : decode cX6_pivot 18 = .ok (.getfield 19, 3) := dk180 hX6_pivot_18 rfl
theorem hX6_pivot_21 : cX6_pivot.data.toList.drop 21 = sX6_pivot_21 := dn3 hX6_pivot_18
theorem dX6_pivot_21 : decode cX6_pivot 21 = .ok (.getfield 103, 3) := dk180 hX6_pivot_21 rfl
theorem hX6_pivot_24 : cX6_pivot.data.toList.drop 24 = sX6_pivot_24 := dn3 hX6_pivot_21
theorem dX6_pivot_24 : decode cX6_pivot 24 = .ok (.if_icmp .ge 53, 3) := dk162 hX6_pivot_24 (by decide)
theorem hX6_pivot_27 : cX6_pivot.data.toList.drop 27 = sX6_pivot_27 := dn3 hX6_pivot_24
theorem dX6_pivot_27 : decode cX6_pivot 27 = .ok (.aload_n 0, 1) := dk42 hX6_pivot_27
theorem hX6_pivot_28 : cX6_pivot.data.toList.drop 28 = sX6_pivot_28 := dn1 hX6_pivot_27
theorem dX6_pivot_28 : decode cX6_pivot 28 = .ok (.getfield 19, 3) := dk180 hX6_pivot_28 rfl
theorem hX6_pivot_31 : cX6_pivot.data.toList.drop 31 = sX6_pivot_31 := dn3 hX6_pivot_28
theorem dX6_pivot_31 : decode cX6_pivot 31 = .ok (.getfield 109, 3) := dk180 hX6_pivot_31 rfl
theorem hX6_pivot_34 : cX6_pivot.data.toList.drop 34 = sX6_pivot_34 := dn3 hX6_pivot_31
theorem dX6_pivot_34 : decode cX6_pivot 34 = .ok (.iload_n 3, 1) := dk29 hX6_pivot_34
theorem hX6_pivot_35 : cX6_pivot.data.toList.drop 35 = sX6_pivot_35 := dn1 hX6_pivot_34
theorem dX6_pivot_35 : decode cX6_pivot 35 = .ok (.iaload, 1) := dk46 hX6_pivot_35
theorem hX6_pivot_36 : cX6_pivot.data.toList.drop 36 = sX6_pivot_36 := dn1 hX6_pivot_35
theorem dX6_pivot_36 : decode cX6_pivot 36 = .ok (.ifCond .ne 11, 3) := dk154 hX6_pivot_36 (by decide)
theorem hX6_pivot_39 : cX6_pivot.data.toList.drop 39 = sX6_pivot_39 := dn3 hX6_pivot_36
theorem dX6_pivot_39 : decode cX6_pivot 39 = .ok (.aload_n 0, 1) := dk42 hX6_pivot_39
theorem hX6_pivot_40 : cX6_pivot.data.toList.drop 40 = sX6_pivot_40 := dn1 hX6_pivot_39
theorem dX6_pivot_40 : decode cX6_pivot 40 = .ok (.iload_n 3, 1) := dk29 hX6_pivot_40
theorem hX6_pivot_41 : cX6_pivot.data.toList.drop 41 = sX6_pivot_41 := dn1 hX6_pivot_40
theorem dX6_pivot_41 : decode cX6_pivot 41 = .ok (.invokevirtual 274, 3) := dk182 hX6_pivot_41 rfl
theorem hX6_pivot_44 : cX6_pivot.data.toList.drop 44 = sX6_pivot_44 := dn3 hX6_pivot_41
theorem dX6_pivot_44 : decode cX6_pivot 44 = .ok (.goto 5, 3) := dk167 hX6_pivot_44 (by decide)
theorem hX6_pivot_47 : cX6_pivot.data.toList.drop 47 = sX6_pivot_47 := dn3 hX6_pivot_44
theorem dX6_pivot_47 : decode cX6_pivot 47 = .ok (.bipush (-2), 2) := dk16 hX6_pivot_47 (by decide)
theorem hX6_pivot_49 : cX6_pivot.data.toList.drop 49 = sX6_pivot_49 := dn2 hX6_pivot_47
theorem dX6_pivot_49 : decode cX6_pivot 49 = .ok (.istore 4, 2) := dk54 hX6_pivot_49 rfl
theorem hX6_pivot_51 : cX6_pivot.data.toList.drop 51 = sX6_pivot_51 := dn2 hX6_pivot_49
theorem dX6_pivot_51 : decode cX6_pivot 51 = .ok (.iload 4, 2) := dk21 hX6_pivot_51 rfl
theorem hX6_pivot_53 : cX6_pivot.data.toList.drop 53 = sX6_pivot_53 := dn2 hX6_pivot_51
theorem dX6_pivot_53 : decode cX6_pivot 53 = .ok (.ifCond .lt 18, 3) := dk155 hX6_pivot_53 (by decide)
theorem hX6_pivot_56 : cX6_pivot.data.toList.drop 56 = sX6_pivot_56 := dn3 hX6_pivot_53
theorem dX6_pivot_56 : decode cX6_pivot 56 = .ok (.iload_n 1, 1) := dk27 hX6_pivot_56
theorem hX6_pivot_57 : cX6_pivot.data.toList.drop 57 = sX6_pivot_57 := dn1 hX6_pivot_56
theorem dX6_pivot_57 : decode cX6_pivot 57 = .ok (.ifCond .lt 9, 3) := dk155 hX6_pivot_57 (by decide)
theorem hX6_pivot_60 : cX6_pivot.data.toList.drop 60 = sX6_pivot_60 := dn3 hX6_pivot_57
theorem dX6_pivot_60 : decode cX6_pivot 60 = .ok (.iload 4, 2) := dk21 hX6_pivot_60 rfl
theorem hX6_pivot_62 : cX6_pivot.data.toList.drop 62 = sX6_pivot_62 := dn2 hX6_pivot_60
theorem dX6_pivot_62 : decode cX6_pivot 62 = .ok (.iload_n 2, 1) := dk28 hX6_pivot_62
theorem hX6_pivot_63 : cX6_pivot.data.toList.drop 63 = sX6_pivot_63 := dn1 hX6_pivot_62
theorem dX6_pivot_63 : decode cX6_pivot 63 = .ok (.if_icmp .ge 8, 3) := dk162 hX6_pivot_63 (by decide)
theorem hX6_pivot_66 : cX6_pivot.data.toList.drop 66 = sX6_pivot_66 := dn3 hX6_pivot_63
theorem dX6_pivot_66 : decode cX6_pivot 66 = .ok (.iload_n 3, 1) := dk29 hX6_pivot_66
theorem hX6_pivot_67 : cX6_pivot.data.toList.drop 67 = sX6_pivot_67 := dn1 hX6_pivot_66
theorem dX6_pivot_67 : decode cX6_pivot 67 = .ok (.istore_n 1, 1) := dk60 hX6_pivot_67
theorem hX6_pivot_68 : cX6_pivot.data.toList.drop 68 = sX6_pivot_68 := dn1 hX6_pivot_67
theorem dX6_pivot_68 : decode cX6_pivot 68 = .ok (.iload 4, 2) := dk21 hX6_pivot_68 rfl
theorem hX6_pivot_70 : cX6_pivot.data.toList.drop 70 = sX6_pivot_70 := dn2 hX6_pivot_68
theorem dX6_pivot_70 : decode cX6_pivot 70 = .ok (.istore_n 2, 1) := dk61 hX6_pivot_70
theorem hX6_pivot_71 : cX6_pivot.data.toList.drop 71 = sX6_pivot_71 := dn1 hX6_pivot_70
theorem dX6_pivot_71 : decode cX6_pivot 71 = .ok (.iinc 3 1, 3) := dk132 hX6_pivot_71 rfl (by decide)
theorem hX6_pivot_74 : cX6_pivot.data.toList.drop 74 = sX6_pivot_74 := dn3 hX6_pivot_71
theorem dX6_pivot_74 : decode cX6_pivot 74 = .ok (.goto (-58), 3) := dk167 hX6_pivot_74 (by decide)
theorem hX6_pivot_77 : cX6_pivot.data.toList.drop 77 = sX6_pivot_77 := dn3 hX6_pivot_74
theorem dX6_pivot_77 : decode cX6_pivot 77 = .ok (.iload_n 1, 1) := dk27 hX6_pivot_77
theorem hX6_pivot_78 : cX6_pivot.data.toList.drop 78 = sX6_pivot_78 := dn1 hX6_pivot_77
theorem dX6_pivot_78 : decode cX6_pivot 78 = .ok (.ireturn, 1) := dk172 hX6_pivot_78
noncomputable def sX6_placeOfFirst_53 : List UInt8 := 172 :: []
noncomputable def sX6_placeOfFirst_52 : List UInt8 := 28 :: sX6_placeOfFirst_53
noncomputable def sX6_placeOfFirst_49 : List UInt8 := 167 :: 255 :: 214 :: sX6_placeOfFirst_52
noncomputable def sX6_placeOfFirst_46 : List UInt8 := 132 :: 4 :: 1 :: sX6_placeOfFirst_49
noncomputable def sX6_placeOfFirst_45 : List UInt8 := 62 :: sX6_placeOfFirst_46
noncomputable def sX6_placeOfFirst_43 : List UInt8 := 21 :: 5 :: sX6_placeOfFirst_45
noncomputable def sX6_placeOfFirst_42 : List UInt8 := 61 :: sX6_placeOfFirst_43
noncomputable def sX6_placeOfFirst_40 : List UInt8 := 21 :: 4 :: sX6_placeOfFirst_42
noncomputable def sX6_placeOfFirst_37 : List UInt8 := 162 :: 0 :: 9 :: sX6_placeOfFirst_40
noncomputable def sX6_placeOfFirst_36 : List UInt8 := 29 :: sX6_placeOfFirst_37
noncomputable def sX6_placeOfFirst_34 : List UInt8 := 21 :: 5 :: sX6_placeOfFirst_36
noncomputable def sX6_placeOfFirst_31 : List UInt8 := 155 :: 0 :: 9 :: sX6_placeOfFirst_34
noncomputable def sX6_placeOfFirst_30 : List UInt8 := 28 :: sX6_placeOfFirst_31
noncomputable def sX6_placeOfFirst_28 : List UInt8 := 54 :: 5 :: sX6_placeOfFirst_30
noncomputable def sX6_placeOfFirst_25 : List UInt8 := 182 :: 0 :: 238 :: sX6_placeOfFirst_28
noncomputable def sX6_placeOfFirst_23 : List UInt8 := 21 :: 4 :: sX6_placeOfFirst_25
noncomputable def sX6_placeOfFirst_22 : List UInt8 := 27 :: sX6_placeOfFirst_23
noncomputable def sX6_placeOfFirst_21 : List UInt8 := 42 :: sX6_placeOfFirst_22
noncomputable def sX6_placeOfFirst_18 : List UInt8 := 162 :: 0 :: 34 :: sX6_placeOfFirst_21
noncomputable def sX6_placeOfFirst_17 : List UInt8 := 46 :: sX6_placeOfFirst_18
noncomputable def sX6_placeOfFirst_16 : List UInt8 := 27 :: sX6_placeOfFirst_17
noncomputable def sX6_placeOfFirst_13 : List UInt8 := 180 :: 0 :: 113 :: sX6_placeOfFirst_16
noncomputable def sX6_placeOfFirst_10 : List UInt8 := 180 :: 0 :: 19 :: sX6_placeOfFirst_13
noncomputable def sX6_placeOfFirst_9 : List UInt8 := 42 :: sX6_placeOfFirst_10
noncomputable def sX6_placeOfFirst_7 : List UInt8 := 21 :: 4 :: sX6_placeOfFirst_9
noncomputable def sX6_placeOfFirst_5 : List UInt8 := 54 :: 4 :: sX6_placeOfFirst_7
noncomputable def sX6_placeOfFirst_4 : List UInt8 := 3 :: sX6_placeOfFirst_5
noncomputable def sX6_placeOfFirst_3 : List UInt8 := 62 :: sX6_placeOfFirst_4
noncomputable def sX6_placeOfFirst_2 : List UInt8 := 3 :: sX6_placeOfFirst_3
noncomputable def sX6_placeOfFirst_1 : List UInt8 := 61 :: sX6_placeOfFirst_2
noncomputable def sX6_placeOfFirst_0 : List UInt8 := 2 :: sX6_placeOfFirst_1
set_option maxRecDepth 100000 in
theorem hX6_placeOfFirst_0 : cX6_placeOfFirst.data.toList.drop 0 = sX6_placeOfFirst_0 := by decide +kernel
theorem dX6_placeOfFirst_0 : decode cX6_placeOfFirst 0 = .ok (.iconst (-1), 1) := dk2 hX6_placeOfFirst_0
theorem hX6_placeOfFirst_1 : cX6_placeOfFirst.data.toList.drop 1 = sX6_placeOfFirst_1 := dn1 hX6_placeOfFirst_0
theorem dX6_placeOfFirst_1 : decode cX6_placeOfFirst 1 = .ok (.istore_n 2, 1) := dk61 hX6_placeOfFirst_1
theorem hX6_placeOfFirst_2 : cX6_placeOfFirst.data.toList.drop 2 = sX6_placeOfFirst_2 := dn1 hX6_placeOfFirst_1
theorem dX6_placeOfFirst_2 : decode cX6_placeOfFirst 2 = .ok (.iconst 0, 1) := dk3 hX6_placeOfFirst_2
theorem hX6_placeOfFirst_3 : cX6_placeOfFirst.data.toList.drop 3 = sX6_placeOfFirst_3 := dn1 hX6_placeOfFirst_2
theorem dX6_placeOfFirst_3 : decode cX6_placeOfFirst 3 = .ok (.istore_n 3, 1) := dk62 hX6_placeOfFirst_3
theorem hX6_placeOfFirst_4 : cX6_placeOfFirst.data.toList.drop 4 = sX6_placeOfFirst_4 := dn1 hX6_placeOfFirst_3
theorem dX6_placeOfFirst_4 : decode cX6_placeOfFirst 4 = .ok (.iconst 0, 1) := dk3 hX6_placeOfFirst_4
theorem hX6_placeOfFirst_5 : cX6_placeOfFirst.data.toList.drop 5 = sX6_placeOfFirst_5 := dn1 hX6_placeOfFirst_4
theorem dX6_placeOfFirst_5 : decode cX6_placeOfFirst 5 = .ok (.istore 4, 2) := dk54 hX6_placeOfFirst_5 rfl
theorem hX6_placeOfFirst_7 : cX6_placeOfFirst.data.toList.drop 7 = sX6_placeOfFirst_7 := dn2 hX6_placeOfFirst_5
theorem dX6_placeOfFirst_7 : decode cX6_placeOfFirst 7 = .ok (.iload 4, 2) := dk21 hX6_placeOfFirst_7 rfl
theorem hX6_placeOfFirst_9 : cX6_placeOfFirst.data.toList.drop 9 = sX6_placeOfFirst_9 := dn2 hX6_placeOfFirst_7
theorem dX6_placeOfFirst_9 : decode cX6_placeOfFirst 9 = .ok (.aload_n 0, 1) := dk42 hX6_placeOfFirst_9
theorem hX6_placeOfFirst_10 : cX6_placeOfFirst.data.toList.drop 10 = sX6_placeOfFirst_10 := dn1 hX6_placeOfFirst_9
theorem dX6_placeOfFirst_10 : decode cX6_placeOfFirst 10 = .ok (.getfield 19, 3) := dk180 hX6_placeOfFirst_10 rfl
theorem hX6_placeOfFirst_13 : cX6_placeOfFirst.data.toList.drop 13 = sX6_placeOfFirst_13 := dn3 hX6_placeOfFirst_10
theorem dX6_placeOfFirst_13 : decode cX6_placeOfFirst 13 = .ok (.getfield 113, 3) := dk180 hX6_placeOfFirst_13 rfl
theorem hX6_placeOfFirst_16 : cX6_placeOfFirst.data.toList.drop 16 = sX6_placeOfFirst_16 := dn3 hX6_placeOfFirst_13
theorem dX6_placeOfFirst_16 : decode cX6_placeOfFirst 16 = .ok (.iload_n 1, 1) := dk27 hX6_placeOfFirst_16
theorem hX6_placeOfFirst_17 : cX6_placeOfFirst.data.toList.drop 17 = sX6_placeOfFirst_17 := dn1 hX6_placeOfFirst_16
theorem dX6_placeOfFirst_17 : decode cX6_placeOfFirst 17 = .ok (.iaload, 1) := dk46 hX6_placeOfFirst_17
theorem hX6_placeOfFirst_18 : cX6_placeOfFirst.data.toList.drop 18 = sX6_placeOfFirst_18 := dn1 hX6_placeOfFirst_17
theorem dX6_placeOfFirst_18 : decode cX6_placeOfFirst 18 = .ok (.if_icmp .ge 34, 3) := dk162 hX6_placeOfFirst_18 (by decide)
theorem hX6_placeOfFirst_21 : cX6_placeOfFirst.data.toList.drop 21 = sX6_placeOfFirst_21 := dn3 hX6_placeOfFirst_18
theorem dX6_placeOfFirst_21 : decode cX6_placeOfFirst 21 = .ok (.aload_n 0, 1) := dk42 hX6_placeOfFirst_21
theorem hX6_placeOfFirst_22 : cX6_placeOfFirst.data.toList.drop 22 = sX6_placeOfFirst_22 := dn1 hX6_placeOfFirst_21
theorem dX6_placeOfFirst_22 : decode cX6_placeOfFirst 22 = .ok (.iload_n 1, 1) := dk27 hX6_placeOfFirst_22
theorem hX6_placeOfFirst_23 : cX6_placeOfFirst.data.toList.drop 23 = sX6_placeOfFirst_23 := dn1 hX6_placeOfFirst_22
theorem dX6_placeOfFirst_23 : decode cX6_placeOfFirst 23 = .ok (.iload 4, 2) := dk21 hX6_placeOfFirst_23 rfl
theorem hX6_placeOfFirst_25 : cX6_placeOfFirst.data.toList.drop 25 = sX6_placeOfFirst_25 := dn2 hX6_placeOfFirst_23
theorem dX6_placeOfFirst_25 : decode cX6_placeOfFirst 25 = .ok (.invokevirtual 238, 3) := dk182 hX6_placeOfFirst_25 rfl
theorem hX6_placeOfFirst_28 : cX6_placeOfFirst.data.toList.drop 28 = sX6_placeOfFirst_28 := dn3 hX6_placeOfFirst_25
theorem dX6_placeOfFirst_28 : decode cX6_placeOfFirst 28 = .ok (.istore 5, 2) := dk54 hX6_placeOfFirst_28 rfl
theorem hX6_placeOfFirst_30 : cX6_placeOfFirst.data.toList.drop 30 = sX6_placeOfFirst_30 := dn2 hX6_placeOfFirst_28
theorem dX6_placeOfFirst_30 : decode cX6_placeOfFirst 30 = .ok (.iload_n 2, 1) := dk28 hX6_placeOfFirst_30
theorem hX6_placeOfFirst_31 : cX6_placeOfFirst.data.toList.drop 31 = sX6_placeOfFirst_31 := dn1 hX6_placeOfFirst_30
theorem dX6_placeOfFirst_31 : decode cX6_placeOfFirst 31 = .ok (.ifCond .lt 9, 3) := dk155 hX6_placeOfFirst_31 (by decide)
theorem hX6_placeOfFirst_34 : cX6_placeOfFirst.data.toList.drop 34 = sX6_placeOfFirst_34 := dn3 hX6_placeOfFirst_31
theorem dX6_placeOfFirst_34 : decode cX6_placeOfFirst 34 = .ok (.iload 5, 2) := dk21 hX6_placeOfFirst_34 rfl
theorem hX6_placeOfFirst_36 : cX6_placeOfFirst.data.toList.drop 36 = sX6_placeOfFirst_36 := dn2 hX6_placeOfFirst_34
theorem dX6_placeOfFirst_36 : decode cX6_placeOfFirst 36 = .ok (.iload_n 3, 1) := dk29 hX6_placeOfFirst_36
theorem hX6_placeOfFirst_37 : cX6_placeOfFirst.data.toList.drop 37 = sX6_placeOfFirst_37 := dn1 hX6_placeOfFirst_36
theorem dX6_placeOfFirst_37 : decode cX6_placeOfFirst 37 = .ok (.if_icmp .ge 9, 3) := dk162 hX6_placeOfFirst_37 (by decide)
theorem hX6_placeOfFirst_40 : cX6_placeOfFirst.data.toList.drop 40 = sX6_placeOfFirst_40 := dn3 hX6_placeOfFirst_37
theorem dX6_placeOfFirst_40 : decode cX6_placeOfFirst 40 = .ok (.iload 4, 2) := dk21 hX6_placeOfFirst_40 rfl
theorem hX6_placeOfFirst_42 : cX6_placeOfFirst.data.toList.drop 42 = sX6_placeOfFirst_42 := dn2 hX6_placeOfFirst_40
theorem dX6_placeOfFirst_42 : decode cX6_placeOfFirst 42 = .ok (.istore_n 2, 1) := dk61 hX6_placeOfFirst_42
theorem hX6_placeOfFirst_43 : cX6_placeOfFirst.data.toList.drop 43 = sX6_placeOfFirst_43 := dn1 hX6_placeOfFirst_42
theorem dX6_placeOfFirst_43 : decode cX6_placeOfFirst 43 = .ok (.iload 5, 2) := dk21 hX6_placeOfFirst_43 rfl
theorem hX6_placeOfFirst_45 : cX6_placeOfFirst.data.toList.drop 45 = sX6_placeOfFirst_45 := dn2 hX6_placeOfFirst_43
theorem dX6_placeOfFirst_45 : decode cX6_placeOfFirst 45 = .ok (.istore_n 3, 1) := dk62 hX6_placeOfFirst_45
theorem hX6_placeOfFirst_46 : cX6_placeOfFirst.data.toList.drop 46 = sX6_placeOfFirst_46 := dn1 hX6_placeOfFirst_45
theorem dX6_placeOfFirst_46 : decode cX6_placeOfFirst 46 = .ok (.iinc 4 1, 3) := dk132 hX6_placeOfFirst_46 rfl (by decide)
theorem hX6_placeOfFirst_49 : cX6_placeOfFirst.data.toList.drop 49 = sX6_placeOfFirst_49 := dn3 hX6_placeOfFirst_46
theorem dX6_placeOfFirst_49 : decode cX6_placeOfFirst 49 = .ok (.goto (-42), 3) := dk167 hX6_placeOfFirst_49 (by decide)
theorem hX6_placeOfFirst_52 : cX6_placeOfFirst.data.toList.drop 52 = sX6_placeOfFirst_52 := dn3 hX6_placeOfFirst_49
theorem dX6_placeOfFirst_52 : decode cX6_placeOfFirst 52 = .ok (.iload_n 2, 1) := dk28 hX6_placeOfFirst_52
theorem hX6_placeOfFirst_53 : cX6_placeOfFirst.data.toList.drop 53 = sX6_placeOfFirst_53 := dn1 hX6_placeOfFirst_52
theorem dX6_placeOfFirst_53 : decode cX6_placeOfFirst 53 = .ok (.ireturn, 1) := dk172 hX6_placeOfFirst_53
noncomputable def sX6_proof_21 : List UInt8 := 172 :: []
noncomputable def sX6_proof_18 : List UInt8 := 182 :: 0 :: 221 :: sX6_proof_21
noncomputable def sX6_proof_17 : List UInt8 := 27 :: sX6_proof_18
noncomputable def sX6_proof_16 : List UInt8 := 3 :: sX6_proof_17
noncomputable def sX6_proof_15 : List UInt8 := 42 :: sX6_proof_16
noncomputable def sX6_proof_12 : List UInt8 := 167 :: 0 :: 9 :: sX6_proof_15
noncomputable def sX6_proof_11 : List UInt8 := 2 :: sX6_proof_12
noncomputable def sX6_proof_8 : List UInt8 := 153 :: 0 :: 7 :: sX6_proof_11
noncomputable def sX6_proof_5 : List UInt8 := 182 :: 0 :: 203 :: sX6_proof_8
noncomputable def sX6_proof_3 : List UInt8 := 16 :: 100 :: sX6_proof_5
noncomputable def sX6_proof_2 : List UInt8 := 3 :: sX6_proof_3
noncomputable def sX6_proof_1 : List UInt8 := 27 :: sX6_proof_2
noncomputable def sX6_proof_0 : List UInt8 := 42 :: sX6_proof_1
set_option maxRecDepth 100000 in
theorem hX6_proof_0 : cX6_proof.data.toList.drop 0 = sX6_proof_0 := by decide +kernel
theorem dX6_proof_0 : decode cX6_proof 0 = .ok (.aload_n 0, 1) := dk42 hX6_proof_0
theorem hX6_proof_1 : cX6_proof.data.toList.drop 1 = sX6_proof_1 := dn1 hX6_proof_0
theorem dX6_proof_1 : decode cX6_proof 1 = .ok (.iload_n 1, 1) := dk27 hX6_proof_1
theorem hX6_proof_2 : cX6_proof.data.toList.drop 2 = sX6_proof_2 := dn1 hX6_proof_1
theorem dX6_proof_2 : decode cX6_proof 2 = .ok (.iconst 0, 1) := dk3 hX6_proof_2
theorem hX6_proof_3 : cX6_proof.data.toList.drop 3 = sX6_proof_3 := dn1 hX6_proof_2
theorem dX6_proof_3 : decode cX6_proof 3 = .ok (.bipush 100, 2) := dk16 hX6_proof_3 (by decide)
theorem hX6_proof_5 : cX6_proof.data.toList.drop 5 = sX6_proof_5 := dn2 hX6_proof_3
theorem dX6_proof_5 : decode cX6_proof 5 = .ok (.invokevirtual 203, 3) := dk182 hX6_proof_5 rfl
theorem hX6_proof_8 : cX6_proof.data.toList.drop 8 = sX6_proof_8 := dn3 hX6_proof_5
theorem dX6_proof_8 : decode cX6_proof 8 = .ok (.ifCond .eq 7, 3) := dk153 hX6_proof_8 (by decide)
theorem hX6_proof_11 : cX6_proof.data.toList.drop 11 = sX6_proof_11 := dn3 hX6_proof_8
theorem dX6_proof_11 : decode cX6_proof 11 = .ok (.iconst (-1), 1) := dk2 hX6_proof_11
theorem hX6_proof_12 : cX6_proof.data.toList.drop 12 = sX6_proof_12 := dn1 hX6_proof_11
theorem dX6_proof_12 : decode cX6_proof 12 = .ok (.goto 9, 3) := dk167 hX6_proof_12 (by decide)
theorem hX6_proof_15 : cX6_proof.data.toList.drop 15 = sX6_proof_15 := dn3 hX6_proof_12
theorem dX6_proof_15 : decode cX6_proof 15 = .ok (.aload_n 0, 1) := dk42 hX6_proof_15
theorem hX6_proof_16 : cX6_proof.data.toList.drop 16 = sX6_proof_16 := dn1 hX6_proof_15
theorem dX6_proof_16 : decode cX6_proof 16 = .ok (.iconst 0, 1) := dk3 hX6_proof_16
theorem hX6_proof_17 : cX6_proof.data.toList.drop 17 = sX6_proof_17 := dn1 hX6_proof_16
theorem dX6_proof_17 : decode cX6_proof 17 = .ok (.iload_n 1, 1) := dk27 hX6_proof_17
theorem hX6_proof_18 : cX6_proof.data.toList.drop 18 = sX6_proof_18 := dn1 hX6_proof_17
theorem dX6_proof_18 : decode cX6_proof 18 = .ok (.invokevirtual 221, 3) := dk182 hX6_proof_18 rfl
theorem hX6_proof_21 : cX6_proof.data.toList.drop 21 = sX6_proof_21 := dn3 hX6_proof_18
theorem dX6_proof_21 : decode cX6_proof 21 = .ok (.ireturn, 1) := dk172 hX6_proof_21
noncomputable def sX6_questions_31 : List UInt8 := 172 :: []
noncomputable def sX6_questions_28 : List UInt8 := 180 :: 0 :: 218 :: sX6_questions_31
noncomputable def sX6_questions_25 : List UInt8 := 180 :: 0 :: 47 :: sX6_questions_28
noncomputable def sX6_questions_24 : List UInt8 := 42 :: sX6_questions_25
noncomputable def sX6_questions_21 : List UInt8 := 182 :: 0 :: 211 :: sX6_questions_24
noncomputable def sX6_questions_18 : List UInt8 := 180 :: 0 :: 26 :: sX6_questions_21
noncomputable def sX6_questions_17 : List UInt8 := 42 :: sX6_questions_18
noncomputable def sX6_questions_14 : List UInt8 := 180 :: 0 :: 19 :: sX6_questions_17
noncomputable def sX6_questions_13 : List UInt8 := 42 :: sX6_questions_14
noncomputable def sX6_questions_10 : List UInt8 := 180 :: 0 :: 47 :: sX6_questions_13
noncomputable def sX6_questions_9 : List UInt8 := 42 :: sX6_questions_10
noncomputable def sX6_questions_8 : List UInt8 := 172 :: sX6_questions_9
noncomputable def sX6_questions_7 : List UInt8 := 2 :: sX6_questions_8
noncomputable def sX6_questions_4 : List UInt8 := 153 :: 0 :: 5 :: sX6_questions_7
noncomputable def sX6_questions_1 : List UInt8 := 182 :: 0 :: 140 :: sX6_questions_4
noncomputable def sX6_questions_0 : List UInt8 := 42 :: sX6_questions_1
set_option maxRecDepth 100000 in
theorem hX6_questions_0 : cX6_questions.data.toList.drop 0 = sX6_questions_0 := by decide +kernel
theorem dX6_questions_0 : decode cX6_questions 0 = .ok (.aload_n 0, 1) := dk42 hX6_questions_0
theorem hX6_questions_1 : cX6_questions.data.toList.drop 1 = sX6_questions_1 := dn1 hX6_questions_0
theorem dX6_questions_1 : decode cX6_questions 1 = .ok (.invokevirtual 140, 3) := dk182 hX6_questions_1 rfl
theorem hX6_questions_4 : cX6_questions.data.toList.drop 4 = sX6_questions_4 := dn3 hX6_questions_1
theorem dX6_questions_4 : decode cX6_questions 4 = .ok (.ifCond .eq 5, 3) := dk153 hX6_questions_4 (by decide)
theorem hX6_questions_7 : cX6_questions.data.toList.drop 7 = sX6_questions_7 := dn3 hX6_questions_4
theorem dX6_questions_7 : decode cX6_questions 7 = .ok (.iconst (-1), 1) := dk2 hX6_questions_7
theorem hX6_questions_8 : cX6_questions.data.toList.drop 8 = sX6_questions_8 := dn1 hX6_questions_7
theorem dX6_questions_8 : decode cX6_questions 8 = .ok (.ireturn, 1) := dk172 hX6_questions_8
theorem hX6_questions_9 : cX6_questions.data.toList.drop 9 = sX6_questions_9 := dn1 hX6_questions_8
theorem dX6_questions_9 : decode cX6_questions 9 = .ok (.aload_n 0, 1) := dk42 hX6_questions_9
theorem hX6_questions_10 : cX6_questions.data.toList.drop 10 = sX6_questions_10 := dn1 hX6_questions_9
theorem dX6_questions_10 : decode cX6_questions 10 = .ok (.getfield 47, 3) := dk180 hX6_questions_10 rfl
theorem hX6_questions_13 : cX6_questions.data.toList.drop 13 = sX6_questions_13 := dn3 hX6_questions_10
theorem dX6_questions_13 : decode cX6_questions 13 = .ok (.aload_n 0, 1) := dk42 hX6_questions_13
theorem hX6_questions_14 : cX6_questions.data.toList.drop 14 = sX6_questions_14 := dn1 hX6_questions_13
theorem dX6_questions_14 : decode cX6_questions 14 = .ok (.getfield 19, 3) := dk180 hX6_questions_14 rfl
theorem hX6_questions_17 : cX6_questions.data.toList.drop 17 = sX6_questions_17 := dn3 hX6_questions_14
theorem dX6_questions_17 : decode cX6_questions 17 = .ok (.aload_n 0, 1) := dk42 hX6_questions_17
theorem hX6_questions_18 : cX6_questions.data.toList.drop 18 = sX6_questions_18 := dn1 hX6_questions_17
theorem dX6_questions_18 : decode cX6_questions 18 = .ok (.getfield 26, 3) := dk180 hX6_questions_18 rfl
theorem hX6_questions_21 : cX6_questions.data.toList.drop 21 = sX6_questions_21 := dn3 hX6_questions_18
theorem dX6_questions_21 : decode cX6_questions 21 = .ok (.invokevirtual 211, 3) := dk182 hX6_questions_21 rfl
theorem hX6_questions_24 : cX6_questions.data.toList.drop 24 = sX6_questions_24 := dn3 hX6_questions_21
theorem dX6_questions_24 : decode cX6_questions 24 = .ok (.aload_n 0, 1) := dk42 hX6_questions_24
theorem hX6_questions_25 : cX6_questions.data.toList.drop 25 = sX6_questions_25 := dn1 hX6_questions_24
theorem dX6_questions_25 : decode cX6_questions 25 = .ok (.getfield 47, 3) := dk180 hX6_questions_25 rfl
theorem hX6_questions_28 : cX6_questions.data.toList.drop 28 = sX6_questions_28 := dn3 hX6_questions_25
theorem dX6_questions_28 : decode cX6_questions 28 = .ok (.getfield 218, 3) := dk180 hX6_questions_28 rfl
theorem hX6_questions_31 : cX6_questions.data.toList.drop 31 = sX6_questions_31 := dn3 hX6_questions_28
theorem dX6_questions_31 : decode cX6_questions 31 = .ok (.ireturn, 1) := dk172 hX6_questions_31
noncomputable def sX6_refuse_6 : List UInt8 := 172 :: []
noncomputable def sX6_refuse_5 : List UInt8 := 2 :: sX6_refuse_6
noncomputable def sX6_refuse_2 : List UInt8 := 181 :: 0 :: 100 :: sX6_refuse_5
noncomputable def sX6_refuse_1 : List UInt8 := 27 :: sX6_refuse_2
noncomputable def sX6_refuse_0 : List UInt8 := 42 :: sX6_refuse_1
set_option maxRecDepth 100000 in
theorem hX6_refuse_0 : cX6_refuse.data.toList.drop 0 = sX6_refuse_0 := by decide +kernel
theorem dX6_refuse_0 : decode cX6_refuse 0 = .ok (.aload_n 0, 1) := dk42 hX6_refuse_0
theorem hX6_refuse_1 : cX6_refuse.data.toList.drop 1 = sX6_refuse_1 := dn1 hX6_refuse_0
theorem dX6_refuse_1 : decode cX6_refuse 1 = .ok (.iload_n 1, 1) := dk27 hX6_refuse_1
theorem hX6_refuse_2 : cX6_refuse.data.toList.drop 2 = sX6_refuse_2 := dn1 hX6_refuse_1
theorem dX6_refuse_2 : decode cX6_refuse 2 = .ok (.putfield 100, 3) := dk181 hX6_refuse_2 rfl
theorem hX6_refuse_5 : cX6_refuse.data.toList.drop 5 = sX6_refuse_5 := dn3 hX6_refuse_2
theorem dX6_refuse_5 : decode cX6_refuse 5 = .ok (.iconst (-1), 1) := dk2 hX6_refuse_5
theorem hX6_refuse_6 : cX6_refuse.data.toList.drop 6 = sX6_refuse_6 := dn1 hX6_refuse_5
theorem dX6_refuse_6 : decode cX6_refuse 6 = .ok (.ireturn, 1) := dk172 hX6_refuse_6
noncomputable def sX6_rest_68 : List UInt8 := 172 :: []
noncomputable def sX6_rest_66 : List UInt8 := 16 :: 254 :: sX6_rest_68
noncomputable def sX6_rest_63 : List UInt8 := 167 :: 255 :: 208 :: sX6_rest_66
noncomputable def sX6_rest_60 : List UInt8 := 132 :: 2 :: 1 :: sX6_rest_63
noncomputable def sX6_rest_59 : List UInt8 := 172 :: sX6_rest_60
noncomputable def sX6_rest_58 : List UInt8 := 96 :: sX6_rest_59
noncomputable def sX6_rest_57 : List UInt8 := 126 :: sX6_rest_58
noncomputable def sX6_rest_56 : List UInt8 := 4 :: sX6_rest_57
noncomputable def sX6_rest_55 : List UInt8 := 28 :: sX6_rest_56
noncomputable def sX6_rest_54 : List UInt8 := 104 :: sX6_rest_55
noncomputable def sX6_rest_52 : List UInt8 := 16 :: 10 :: sX6_rest_54
noncomputable def sX6_rest_51 : List UInt8 := 122 :: sX6_rest_52
noncomputable def sX6_rest_50 : List UInt8 := 4 :: sX6_rest_51
noncomputable def sX6_rest_49 : List UInt8 := 28 :: sX6_rest_50
noncomputable def sX6_rest_46 : List UInt8 := 153 :: 0 :: 14 :: sX6_rest_49
noncomputable def sX6_rest_43 : List UInt8 := 184 :: 1 :: 74 :: sX6_rest_46
noncomputable def sX6_rest_42 : List UInt8 := 3 :: sX6_rest_43
noncomputable def sX6_rest_39 : List UInt8 := 167 :: 0 :: 4 :: sX6_rest_42
noncomputable def sX6_rest_38 : List UInt8 := 4 :: sX6_rest_39
noncomputable def sX6_rest_35 : List UInt8 := 153 :: 0 :: 7 :: sX6_rest_38
noncomputable def sX6_rest_34 : List UInt8 := 126 :: sX6_rest_35
noncomputable def sX6_rest_33 : List UInt8 := 4 :: sX6_rest_34
noncomputable def sX6_rest_32 : List UInt8 := 28 :: sX6_rest_33
noncomputable def sX6_rest_31 : List UInt8 := 3 :: sX6_rest_32
noncomputable def sX6_rest_28 : List UInt8 := 167 :: 0 :: 4 :: sX6_rest_31
noncomputable def sX6_rest_27 : List UInt8 := 4 :: sX6_rest_28
noncomputable def sX6_rest_24 : List UInt8 := 153 :: 0 :: 7 :: sX6_rest_27
noncomputable def sX6_rest_23 : List UInt8 := 126 :: sX6_rest_24
noncomputable def sX6_rest_22 : List UInt8 := 5 :: sX6_rest_23
noncomputable def sX6_rest_21 : List UInt8 := 28 :: sX6_rest_22
noncomputable def sX6_rest_20 : List UInt8 := 27 :: sX6_rest_21
noncomputable def sX6_rest_17 : List UInt8 := 162 :: 0 :: 49 :: sX6_rest_20
noncomputable def sX6_rest_16 : List UInt8 := 7 :: sX6_rest_17
noncomputable def sX6_rest_15 : List UInt8 := 28 :: sX6_rest_16
noncomputable def sX6_rest_14 : List UInt8 := 61 :: sX6_rest_15
noncomputable def sX6_rest_13 : List UInt8 := 3 :: sX6_rest_14
noncomputable def sX6_rest_12 : List UInt8 := 172 :: sX6_rest_13
noncomputable def sX6_rest_11 : List UInt8 := 2 :: sX6_rest_12
noncomputable def sX6_rest_8 : List UInt8 := 153 :: 0 :: 5 :: sX6_rest_11
noncomputable def sX6_rest_5 : List UInt8 := 182 :: 0 :: 203 :: sX6_rest_8
noncomputable def sX6_rest_3 : List UInt8 := 16 :: 9 :: sX6_rest_5
noncomputable def sX6_rest_2 : List UInt8 := 3 :: sX6_rest_3
noncomputable def sX6_rest_1 : List UInt8 := 27 :: sX6_rest_2
noncomputable def sX6_rest_0 : List UInt8 := 42 :: sX6_rest_1
set_option maxRecDepth 100000 in
theorem hX6_rest_0 : cX6_rest.data.toList.drop 0 = sX6_rest_0 := by decide +kernel
theorem dX6_rest_0 : decode cX6_rest 0 = .ok (.aload_n 0, 1) := dk42 hX6_rest_0
theorem hX6_rest_1 : cX6_rest.data.toList.drop 1 = sX6_rest_1 := dn1 hX6_rest_0
theorem dX6_rest_1 : decode cX6_rest 1 = .ok (.iload_n 1, 1) := dk27 hX6_rest_1
theorem hX6_rest_2 : cX6_rest.data.toList.drop 2 = sX6_rest_2 := dn1 hX6_rest_1
theorem dX6_rest_2 : decode cX6_rest 2 = .ok (.iconst 0, 1) := dk3 hX6_rest_2
theorem hX6_rest_3 : cX6_rest.data.toList.drop 3 = sX6_rest_3 := dn1 hX6_rest_2
theorem dX6_rest_3 : decode cX6_rest 3 = .ok (.bipush 9, 2) := dk16 hX6_rest_3 (by decide)
theorem hX6_rest_5 : cX6_rest.data.toList.drop 5 = sX6_rest_5 := dn2 hX6_rest_3
theorem dX6_rest_5 : decode cX6_rest 5 = .ok (.invokevirtual 203, 3) := dk182 hX6_rest_5 rfl
theorem hX6_rest_8 : cX6_rest.data.toList.drop 8 = sX6_rest_8 := dn3 hX6_rest_5
theorem dX6_rest_8 : decode cX6_rest 8 = .ok (.ifCond .eq 5, 3) := dk153 hX6_rest_8 (by decide)
theorem hX6_rest_11 : cX6_rest.data.toList.drop 11 = sX6_rest_11 := dn3 hX6_rest_8
theorem dX6_rest_11 : decode cX6_rest 11 = .ok (.iconst (-1), 1) := dk2 hX6_rest_11
theorem hX6_rest_12 : cX6_rest.data.toList.drop 12 = sX6_rest_12 := dn1 hX6_rest_11
theorem dX6_rest_12 : decode cX6_rest 12 = .ok (.ireturn, 1) := dk172 hX6_rest_12
theorem hX6_rest_13 : cX6_rest.data.toList.drop 13 = sX6_rest_13 := dn1 hX6_rest_12
theorem dX6_rest_13 : decode cX6_rest 13 = .ok (.iconst 0, 1) := dk3 hX6_rest_13
theorem hX6_rest_14 : cX6_rest.data.toList.drop 14 = sX6_rest_14 := dn1 hX6_rest_13
theorem dX6_rest_14 : decode cX6_rest 14 = .ok (.istore_n 2, 1) := dk61 hX6_rest_14
theorem hX6_rest_15 : cX6_rest.data.toList.drop 15 = sX6_rest_15 := dn1 hX6_rest_14
theorem dX6_rest_15 : decode cX6_rest 15 = .ok (.iload_n 2, 1) := dk28 hX6_rest_15
theorem hX6_rest_16 : cX6_rest.data.toList.drop 16 = sX6_rest_16 := dn1 hX6_rest_15
theorem dX6_rest_16 : decode cX6_rest 16 = .ok (.iconst 4, 1) := dk7 hX6_rest_16
theorem hX6_rest_17 : cX6_rest.data.toList.drop 17 = sX6_rest_17 := dn1 hX6_rest_16
theorem dX6_rest_17 : decode cX6_rest 17 = .ok (.if_icmp .ge 49, 3) := dk162 hX6_rest_17 (by decide)
theorem hX6_rest_20 : cX6_rest.data.toList.drop 20 = sX6_rest_20 := dn3 hX6_rest_17
theorem dX6_rest_20 : decode cX6_rest 20 = .ok (.iload_n 1, 1) := dk27 hX6_rest_20
theorem hX6_rest_21 : cX6_rest.data.toList.drop 21 = sX6_rest_21 := dn1 hX6_rest_20
theorem dX6_rest_21 : decode cX6_rest 21 = .ok (.iload_n 2, 1) := dk28 hX6_rest_21
theorem hX6_rest_22 : cX6_rest.data.toList.drop 22 = sX6_rest_22 := dn1 hX6_rest_21
theorem dX6_rest_22 : decode cX6_rest 22 = .ok (.iconst 2, 1) := dk5 hX6_rest_22
theorem hX6_rest_23 : cX6_rest.data.toList.drop 23 = sX6_rest_23 := dn1 hX6_rest_22
theorem dX6_rest_23 : decode cX6_rest 23 = .ok (.iand, 1) := dk126 hX6_rest_23
theorem hX6_rest_24 : cX6_rest.data.toList.drop 24 = sX6_rest_24 := dn1 hX6_rest_23
theorem dX6_rest_24 : decode cX6_rest 24 = .ok (.ifCond .eq 7, 3) := dk153 hX6_rest_24 (by decide)
theorem hX6_rest_27 : cX6_rest.data.toList.drop 27 = sX6_rest_27 := dn3 hX6_rest_24
theorem dX6_rest_27 : decode cX6_rest 27 = .ok (.iconst 1, 1) := dk4 hX6_rest_27
theorem hX6_rest_28 : cX6_rest.data.toList.drop 28 = sX6_rest_28 := dn1 hX6_rest_27
theorem dX6_rest_28 : decode cX6_rest 28 = .ok (.goto 4, 3) := dk167 hX6_rest_28 (by decide)
theorem hX6_rest_31 : cX6_rest.data.toList.drop 31 = sX6_rest_31 := dn3 hX6_rest_28
theorem dX6_rest_31 : decode cX6_rest 31 = .ok (.iconst 0, 1) := dk3 hX6_rest_31
theorem hX6_rest_32 : cX6_rest.data.toList.drop 32 = sX6_rest_32 := dn1 hX6_rest_31
theorem dX6_rest_32 : decode cX6_rest 32 = .ok (.iload_n 2, 1) := dk28 hX6_rest_32
theorem hX6_rest_33 : cX6_rest.data.toList.drop 33 = sX6_rest_33 := dn1 hX6_rest_32
theorem dX6_rest_33 : decode cX6_rest 33 = .ok (.iconst 1, 1) := dk4 hX6_rest_33
theorem hX6_rest_34 : cX6_rest.data.toList.drop 34 = sX6_rest_34 := dn1 hX6_rest_33
theorem dX6_rest_34 : decode cX6_rest 34 = .ok (.iand, 1) := dk126 hX6_rest_34
theorem hX6_rest_35 : cX6_rest.data.toList.drop 35 = sX6_rest_35 := dn1 hX6_rest_34
theorem dX6_rest_35 : decode cX6_rest 35 = .ok (.ifCond .eq 7, 3) := dk153 hX6_rest_35 (by decide)
theorem hX6_rest_38 : cX6_rest.data.toList.drop 38 = sX6_rest_38 := dn3 hX6_rest_35
theorem dX6_rest_38 : decode cX6_rest 38 = .ok (.iconst 1, 1) := dk4 hX6_rest_38
theorem hX6_rest_39 : cX6_rest.data.toList.drop 39 = sX6_rest_39 := dn1 hX6_rest_38
theorem dX6_rest_39 : decode cX6_rest 39 = .ok (.goto 4, 3) := dk167 hX6_rest_39 (by decide)
theorem hX6_rest_42 : cX6_rest.data.toList.drop 42 = sX6_rest_42 := dn3 hX6_rest_39
theorem dX6_rest_42 : decode cX6_rest 42 = .ok (.iconst 0, 1) := dk3 hX6_rest_42
theorem hX6_rest_43 : cX6_rest.data.toList.drop 43 = sX6_rest_43 := dn1 hX6_rest_42
theorem dX6_rest_43 : decode cX6_rest 43 = .ok (.invokestatic 330, 3) := dk184 hX6_rest_43 rfl
theorem hX6_rest_46 : cX6_rest.data.toList.drop 46 = sX6_rest_46 := dn3 hX6_rest_43
theorem dX6_rest_46 : decode cX6_rest 46 = .ok (.ifCond .eq 14, 3) := dk153 hX6_rest_46 (by decide)
theorem hX6_rest_49 : cX6_rest.data.toList.drop 49 = sX6_rest_49 := dn3 hX6_rest_46
theorem dX6_rest_49 : decode cX6_rest 49 = .ok (.iload_n 2, 1) := dk28 hX6_rest_49
theorem hX6_rest_50 : cX6_rest.data.toList.drop 50 = sX6_rest_50 := dn1 hX6_rest_49
theorem dX6_rest_50 : decode cX6_rest 50 = .ok (.iconst 1, 1) := dk4 hX6_rest_50
theorem hX6_rest_51 : cX6_rest.data.toList.drop 51 = sX6_rest_51 := dn1 hX6_rest_50
theorem dX6_rest_51 : decode cX6_rest 51 = .ok (.ishr, 1) := dk122 hX6_rest_51
theorem hX6_rest_52 : cX6_rest.data.toList.drop 52 = sX6_rest_52 := dn1 hX6_rest_51
theorem dX6_rest_52 : decode cX6_rest 52 = .ok (.bipush 10, 2) := dk16 hX6_rest_52 (by decide)
theorem hX6_rest_54 : cX6_rest.data.toList.drop 54 = sX6_rest_54 := dn2 hX6_rest_52
theorem dX6_rest_54 : decode cX6_rest 54 = .ok (.imul, 1) := dk104 hX6_rest_54
theorem hX6_rest_55 : cX6_rest.data.toList.drop 55 = sX6_rest_55 := dn1 hX6_rest_54
theorem dX6_rest_55 : decode cX6_rest 55 = .ok (.iload_n 2, 1) := dk28 hX6_rest_55
theorem hX6_rest_56 : cX6_rest.data.toList.drop 56 = sX6_rest_56 := dn1 hX6_rest_55
theorem dX6_rest_56 : decode cX6_rest 56 = .ok (.iconst 1, 1) := dk4 hX6_rest_56
theorem hX6_rest_57 : cX6_rest.data.toList.drop 57 = sX6_rest_57 := dn1 hX6_rest_56
theorem dX6_rest_57 : decode cX6_rest 57 = .ok (.iand, 1) := dk126 hX6_rest_57
theorem hX6_rest_58 : cX6_rest.data.toList.drop 58 = sX6_rest_58 := dn1 hX6_rest_57
theorem dX6_rest_58 : decode cX6_rest 58 = .ok (.iadd, 1) := dk96 hX6_rest_58
theorem hX6_rest_59 : cX6_rest.data.toList.drop 59 = sX6_rest_59 := dn1 hX6_rest_58
theorem dX6_rest_59 : decode cX6_rest 59 = .ok (.ireturn, 1) := dk172 hX6_rest_59
theorem hX6_rest_60 : cX6_rest.data.toList.drop 60 = sX6_rest_60 := dn1 hX6_rest_59
theorem dX6_rest_60 : decode cX6_rest 60 = .ok (.iinc 2 1, 3) := dk132 hX6_rest_60 rfl (by decide)
theorem hX6_rest_63 : cX6_rest.data.toList.drop 63 = sX6_rest_63 := dn3 hX6_rest_60
theorem dX6_rest_63 : decode cX6_rest 63 = .ok (.goto (-48), 3) := dk167 hX6_rest_63 (by decide)
theorem hX6_rest_66 : cX6_rest.data.toList.drop 66 = sX6_rest_66 := dn3 hX6_rest_63
theorem dX6_rest_66 : decode cX6_rest 66 = .ok (.bipush (-2), 2) := dk16 hX6_rest_66 (by decide)
theorem hX6_rest_68 : cX6_rest.data.toList.drop 68 = sX6_rest_68 := dn2 hX6_rest_66
theorem dX6_rest_68 : decode cX6_rest 68 = .ok (.ireturn, 1) := dk172 hX6_rest_68
noncomputable def sX6_rests_61 : List UInt8 := 172 :: []
noncomputable def sX6_rests_60 : List UInt8 := 28 :: sX6_rests_61
noncomputable def sX6_rests_57 : List UInt8 := 167 :: 255 :: 216 :: sX6_rests_60
noncomputable def sX6_rests_54 : List UInt8 := 132 :: 3 :: 1 :: sX6_rests_57
noncomputable def sX6_rests_51 : List UInt8 := 132 :: 2 :: 1 :: sX6_rests_54
noncomputable def sX6_rests_48 : List UInt8 := 153 :: 0 :: 6 :: sX6_rests_51
noncomputable def sX6_rests_45 : List UInt8 := 184 :: 1 :: 74 :: sX6_rests_48
noncomputable def sX6_rests_44 : List UInt8 := 3 :: sX6_rests_45
noncomputable def sX6_rests_41 : List UInt8 := 167 :: 0 :: 4 :: sX6_rests_44
noncomputable def sX6_rests_40 : List UInt8 := 4 :: sX6_rests_41
noncomputable def sX6_rests_37 : List UInt8 := 153 :: 0 :: 7 :: sX6_rests_40
noncomputable def sX6_rests_36 : List UInt8 := 126 :: sX6_rests_37
noncomputable def sX6_rests_35 : List UInt8 := 4 :: sX6_rests_36
noncomputable def sX6_rests_34 : List UInt8 := 29 :: sX6_rests_35
noncomputable def sX6_rests_33 : List UInt8 := 3 :: sX6_rests_34
noncomputable def sX6_rests_30 : List UInt8 := 167 :: 0 :: 4 :: sX6_rests_33
noncomputable def sX6_rests_29 : List UInt8 := 4 :: sX6_rests_30
noncomputable def sX6_rests_26 : List UInt8 := 153 :: 0 :: 7 :: sX6_rests_29
noncomputable def sX6_rests_25 : List UInt8 := 126 :: sX6_rests_26
noncomputable def sX6_rests_24 : List UInt8 := 5 :: sX6_rests_25
noncomputable def sX6_rests_23 : List UInt8 := 29 :: sX6_rests_24
noncomputable def sX6_rests_22 : List UInt8 := 27 :: sX6_rests_23
noncomputable def sX6_rests_19 : List UInt8 := 162 :: 0 :: 41 :: sX6_rests_22
noncomputable def sX6_rests_18 : List UInt8 := 7 :: sX6_rests_19
noncomputable def sX6_rests_17 : List UInt8 := 29 :: sX6_rests_18
noncomputable def sX6_rests_16 : List UInt8 := 62 :: sX6_rests_17
noncomputable def sX6_rests_15 : List UInt8 := 3 :: sX6_rests_16
noncomputable def sX6_rests_14 : List UInt8 := 61 :: sX6_rests_15
noncomputable def sX6_rests_13 : List UInt8 := 3 :: sX6_rests_14
noncomputable def sX6_rests_12 : List UInt8 := 172 :: sX6_rests_13
noncomputable def sX6_rests_11 : List UInt8 := 2 :: sX6_rests_12
noncomputable def sX6_rests_8 : List UInt8 := 153 :: 0 :: 5 :: sX6_rests_11
noncomputable def sX6_rests_5 : List UInt8 := 182 :: 0 :: 203 :: sX6_rests_8
noncomputable def sX6_rests_3 : List UInt8 := 16 :: 9 :: sX6_rests_5
noncomputable def sX6_rests_2 : List UInt8 := 3 :: sX6_rests_3
noncomputable def sX6_rests_1 : List UInt8 := 27 :: sX6_rests_2
noncomputable def sX6_rests_0 : List UInt8 := 42 :: sX6_rests_1
set_option maxRecDepth 100000 in
theorem hX6_rests_0 : cX6_rests.data.toList.drop 0 = sX6_rests_0 := by decide +kernel
theorem dX6_rests_0 : decode cX6_rests 0 = .ok (.aload_n 0, 1) := dk42 hX6_rests_0
theorem hX6_rests_1 : cX6_rests.data.toList.drop 1 = sX6_rests_1 := dn1 hX6_rests_0
theorem dX6_rests_1 : decode cX6_rests 1 = .ok (.iload_n 1, 1) := dk27 hX6_rests_1
theorem hX6_rests_2 : cX6_rests.data.toList.drop 2 = sX6_rests_2 := dn1 hX6_rests_1
theorem dX6_rests_2 : decode cX6_rests 2 = .ok (.iconst 0, 1) := dk3 hX6_rests_2
theorem hX6_rests_3 : cX6_rests.data.toList.drop 3 = sX6_rests_3 := dn1 hX6_rests_2
theorem dX6_rests_3 : decode cX6_rests 3 = .ok (.bipush 9, 2) := dk16 hX6_rests_3 (by decide)
theorem hX6_rests_5 : cX6_rests.data.toList.drop 5 = sX6_rests_5 := dn2 hX6_rests_3
theorem dX6_rests_5 : decode cX6_rests 5 = .ok (.invokevirtual 203, 3) := dk182 hX6_rests_5 rfl
theorem hX6_rests_8 : cX6_rests.data.toList.drop 8 = sX6_rests_8 := dn3 hX6_rests_5
theorem dX6_rests_8 : decode cX6_rests 8 = .ok (.ifCond .eq 5, 3) := dk153 hX6_rests_8 (by decide)
theorem hX6_rests_11 : cX6_rests.data.toList.drop 11 = sX6_rests_11 := dn3 hX6_rests_8
theorem dX6_rests_11 : decode cX6_rests 11 = .ok (.iconst (-1), 1) := dk2 hX6_rests_11
theorem hX6_rests_12 : cX6_rests.data.toList.drop 12 = sX6_rests_12 := dn1 hX6_rests_11
theorem dX6_rests_12 : decode cX6_rests 12 = .ok (.ireturn, 1) := dk172 hX6_rests_12
theorem hX6_rests_13 : cX6_rests.data.toList.drop 13 = sX6_rests_13 := dn1 hX6_rests_12
theorem dX6_rests_13 : decode cX6_rests 13 = .ok (.iconst 0, 1) := dk3 hX6_rests_13
theorem hX6_rests_14 : cX6_rests.data.toList.drop 14 = sX6_rests_14 := dn1 hX6_rests_13
theorem dX6_rests_14 : decode cX6_rests 14 = .ok (.istore_n 2, 1) := dk61 hX6_rests_14
theorem hX6_rests_15 : cX6_rests.data.toList.drop 15 = sX6_rests_15 := dn1 hX6_rests_14
theorem dX6_rests_15 : decode cX6_rests 15 = .ok (.iconst 0, 1) := dk3 hX6_rests_15
theorem hX6_rests_16 : cX6_rests.data.toList.drop 16 = sX6_rests_16 := dn1 hX6_rests_15
theorem dX6_rests_16 : decode cX6_rests 16 = .ok (.istore_n 3, 1) := dk62 hX6_rests_16
theorem hX6_rests_17 : cX6_rests.data.toList.drop 17 = sX6_rests_17 := dn1 hX6_rests_16
theorem dX6_rests_17 : decode cX6_rests 17 = .ok (.iload_n 3, 1) := dk29 hX6_rests_17
theorem hX6_rests_18 : cX6_rests.data.toList.drop 18 = sX6_rests_18 := dn1 hX6_rests_17
theorem dX6_rests_18 : decode cX6_rests 18 = .ok (.iconst 4, 1) := dk7 hX6_rests_18
theorem hX6_rests_19 : cX6_rests.data.toList.drop 19 = sX6_rests_19 := dn1 hX6_rests_18
theorem dX6_rests_19 : decode cX6_rests 19 = .ok (.if_icmp .ge 41, 3) := dk162 hX6_rests_19 (by decide)
theorem hX6_rests_22 : cX6_rests.data.toList.drop 22 = sX6_rests_22 := dn3 hX6_rests_19
theorem dX6_rests_22 : decode cX6_rests 22 = .ok (.iload_n 1, 1) := dk27 hX6_rests_22
theorem hX6_rests_23 : cX6_rests.data.toList.drop 23 = sX6_rests_23 := dn1 hX6_rests_22
theorem dX6_rests_23 : decode cX6_rests 23 = .ok (.iload_n 3, 1) := dk29 hX6_rests_23
theorem hX6_rests_24 : cX6_rests.data.toList.drop 24 = sX6_rests_24 := dn1 hX6_rests_23
theorem dX6_rests_24 : decode cX6_rests 24 = .ok (.iconst 2, 1) := dk5 hX6_rests_24
theorem hX6_rests_25 : cX6_rests.data.toList.drop 25 = sX6_rests_25 := dn1 hX6_rests_24
theorem dX6_rests_25 : decode cX6_rests 25 = .ok (.iand, 1) := dk126 hX6_rests_25
theorem hX6_rests_26 : cX6_rests.data.toList.drop 26 = sX6_rests_26 := dn1 hX6_rests_25
theorem dX6_rests_26 : decode cX6_rests 26 = .ok (.ifCond .eq 7, 3) := dk153 hX6_rests_26 (by decide)
theorem hX6_rests_29 : cX6_rests.data.toList.drop 29 = sX6_rests_29 := dn3 hX6_rests_26
theorem dX6_rests_29 : decode cX6_rests 29 = .ok (.iconst 1, 1) := dk4 hX6_rests_29
theorem hX6_rests_30 : cX6_rests.data.toList.drop 30 = sX6_rests_30 := dn1 hX6_rests_29
theorem dX6_rests_30 : decode cX6_rests 30 = .ok (.goto 4, 3) := dk167 hX6_rests_30 (by decide)
theorem hX6_rests_33 : cX6_rests.data.toList.drop 33 = sX6_rests_33 := dn3 hX6_rests_30
theorem dX6_rests_33 : decode cX6_rests 33 = .ok (.iconst 0, 1) := dk3 hX6_rests_33
theorem hX6_rests_34 : cX6_rests.data.toList.drop 34 = sX6_rests_34 := dn1 hX6_rests_33
theorem dX6_rests_34 : decode cX6_rests 34 = .ok (.iload_n 3, 1) := dk29 hX6_rests_34
theorem hX6_rests_35 : cX6_rests.data.toList.drop 35 = sX6_rests_35 := dn1 hX6_rests_34
theorem dX6_rests_35 : decode cX6_rests 35 = .ok (.iconst 1, 1) := dk4 hX6_rests_35
theorem hX6_rests_36 : cX6_rests.data.toList.drop 36 = sX6_rests_36 := dn1 hX6_rests_35
theorem dX6_rests_36 : decode cX6_rests 36 = .ok (.iand, 1) := dk126 hX6_rests_36
theorem hX6_rests_37 : cX6_rests.data.toList.drop 37 = sX6_rests_37 := dn1 hX6_rests_36
theorem dX6_rests_37 : decode cX6_rests 37 = .ok (.ifCond .eq 7, 3) := dk153 hX6_rests_37 (by decide)
theorem hX6_rests_40 : cX6_rests.data.toList.drop 40 = sX6_rests_40 := dn3 hX6_rests_37
theorem dX6_rests_40 : decode cX6_rests 40 = .ok (.iconst 1, 1) := dk4 hX6_rests_40
theorem hX6_rests_41 : cX6_rests.data.toList.drop 41 = sX6_rests_41 := dn1 hX6_rests_40
theorem dX6_rests_41 : decode cX6_rests 41 = .ok (.goto 4, 3) := dk167 hX6_rests_41 (by decide)
theorem hX6_rests_44 : cX6_rests.data.toList.drop 44 = sX6_rests_44 := dn3 hX6_rests_41
theorem dX6_rests_44 : decode cX6_rests 44 = .ok (.iconst 0, 1) := dk3 hX6_rests_44
theorem hX6_rests_45 : cX6_rests.data.toList.drop 45 = sX6_rests_45 := dn1 hX6_rests_44
theorem dX6_rests_45 : decode cX6_rests 45 = .ok (.invokestatic 330, 3) := dk184 hX6_rests_45 rfl
theorem hX6_rests_48 : cX6_rests.data.toList.drop 48 = sX6_rests_48 := dn3 hX6_rests_45
theorem dX6_rests_48 : decode cX6_rests 48 = .ok (.ifCond .eq 6, 3) := dk153 hX6_rests_48 (by decide)
theorem hX6_rests_51 : cX6_rests.data.toList.drop 51 = sX6_rests_51 := dn3 hX6_rests_48
theorem dX6_rests_51 : decode cX6_rests 51 = .ok (.iinc 2 1, 3) := dk132 hX6_rests_51 rfl (by decide)
theorem hX6_rests_54 : cX6_rests.data.toList.drop 54 = sX6_rests_54 := dn3 hX6_rests_51
theorem dX6_rests_54 : decode cX6_rests 54 = .ok (.iinc 3 1, 3) := dk132 hX6_rests_54 rfl (by decide)
theorem hX6_rests_57 : cX6_rests.data.toList.drop 57 = sX6_rests_57 := dn3 hX6_rests_54
theorem dX6_rests_57 : decode cX6_rests 57 = .ok (.goto (-40), 3) := dk167 hX6_rests_57 (by decide)
theorem hX6_rests_60 : cX6_rests.data.toList.drop 60 = sX6_rests_60 := dn3 hX6_rests_57
theorem dX6_rests_60 : decode cX6_rests 60 = .ok (.iload_n 2, 1) := dk28 hX6_rests_60
theorem hX6_rests_61 : cX6_rests.data.toList.drop 61 = sX6_rests_61 := dn1 hX6_rests_60
theorem dX6_rests_61 : decode cX6_rests 61 = .ok (.ireturn, 1) := dk172 hX6_rests_61
noncomputable def sX6_say_70 : List UInt8 := 172 :: []
noncomputable def sX6_say_69 : List UInt8 := 4 :: sX6_say_70
noncomputable def sX6_say_68 : List UInt8 := 79 :: sX6_say_69
noncomputable def sX6_say_67 : List UInt8 := 28 :: sX6_say_68
noncomputable def sX6_say_66 : List UInt8 := 27 :: sX6_say_67
noncomputable def sX6_say_63 : List UInt8 := 180 :: 0 :: 149 :: sX6_say_66
noncomputable def sX6_say_60 : List UInt8 := 180 :: 0 :: 26 :: sX6_say_63
noncomputable def sX6_say_59 : List UInt8 := 42 :: sX6_say_60
noncomputable def sX6_say_56 : List UInt8 := 182 :: 1 :: 90 :: sX6_say_59
noncomputable def sX6_say_55 : List UInt8 := 4 :: sX6_say_56
noncomputable def sX6_say_54 : List UInt8 := 46 :: sX6_say_55
noncomputable def sX6_say_53 : List UInt8 := 27 :: sX6_say_54
noncomputable def sX6_say_50 : List UInt8 := 180 :: 0 :: 149 :: sX6_say_53
noncomputable def sX6_say_47 : List UInt8 := 180 :: 0 :: 26 :: sX6_say_50
noncomputable def sX6_say_46 : List UInt8 := 42 :: sX6_say_47
noncomputable def sX6_say_45 : List UInt8 := 27 :: sX6_say_46
noncomputable def sX6_say_42 : List UInt8 := 180 :: 0 :: 40 :: sX6_say_45
noncomputable def sX6_say_41 : List UInt8 := 42 :: sX6_say_42
noncomputable def sX6_say_40 : List UInt8 := 172 :: sX6_say_41
noncomputable def sX6_say_39 : List UInt8 := 3 :: sX6_say_40
noncomputable def sX6_say_36 : List UInt8 := 181 :: 0 :: 100 :: sX6_say_39
noncomputable def sX6_say_35 : List UInt8 := 8 :: sX6_say_36
noncomputable def sX6_say_34 : List UInt8 := 42 :: sX6_say_35
noncomputable def sX6_say_31 : List UInt8 := 160 :: 0 :: 10 :: sX6_say_34
noncomputable def sX6_say_30 : List UInt8 := 28 :: sX6_say_31
noncomputable def sX6_say_29 : List UInt8 := 46 :: sX6_say_30
noncomputable def sX6_say_28 : List UInt8 := 27 :: sX6_say_29
noncomputable def sX6_say_25 : List UInt8 := 180 :: 0 :: 149 :: sX6_say_28
noncomputable def sX6_say_22 : List UInt8 := 180 :: 0 :: 26 :: sX6_say_25
noncomputable def sX6_say_21 : List UInt8 := 42 :: sX6_say_22
noncomputable def sX6_say_20 : List UInt8 := 172 :: sX6_say_21
noncomputable def sX6_say_19 : List UInt8 := 3 :: sX6_say_20
noncomputable def sX6_say_16 : List UInt8 := 153 :: 0 :: 5 :: sX6_say_19
noncomputable def sX6_say_13 : List UInt8 := 182 :: 0 :: 203 :: sX6_say_16
noncomputable def sX6_say_11 : List UInt8 := 16 :: 99 :: sX6_say_13
noncomputable def sX6_say_10 : List UInt8 := 3 :: sX6_say_11
noncomputable def sX6_say_9 : List UInt8 := 28 :: sX6_say_10
noncomputable def sX6_say_8 : List UInt8 := 42 :: sX6_say_9
noncomputable def sX6_say_5 : List UInt8 := 154 :: 0 :: 14 :: sX6_say_8
noncomputable def sX6_say_2 : List UInt8 := 182 :: 1 :: 15 :: sX6_say_5
noncomputable def sX6_say_1 : List UInt8 := 27 :: sX6_say_2
noncomputable def sX6_say_0 : List UInt8 := 42 :: sX6_say_1
set_option maxRecDepth 100000 in
theorem hX6_say_0 : cX6_say.data.toList.drop 0 = sX6_say_0 := by decide +kernel
theorem dX6_say_0 : decode cX6_say 0 = .ok (.aload_n 0, 1) := dk42 hX6_say_0
theorem hX6_say_1 : cX6_say.data.toList.drop 1 = sX6_say_1 := dn1 hX6_say_0
theorem dX6_say_1 : decode cX6_say 1 = .ok (.iload_n 1, 1) := dk27 hX6_say_1
theorem hX6_say_2 : cX6_say.data.toList.drop 2 = sX6_say_2 := dn1 hX6_say_1
theorem dX6_say_2 : decode cX6_say 2 = .ok (.invokevirtual 271, 3) := dk182 hX6_say_2 rfl
theorem hX6_say_5 : cX6_say.data.toList.drop 5 = sX6_say_5 := dn3 hX6_say_2
theorem dX6_say_5 : decode cX6_say 5 = .ok (.ifCond .ne 14, 3) := dk154 hX6_say_5 (by decide)
theorem hX6_say_8 : cX6_say.data.toList.drop 8 = sX6_say_8 := dn3 hX6_say_5
theorem dX6_say_8 : decode cX6_say 8 = .ok (.aload_n 0, 1) := dk42 hX6_say_8
theorem hX6_say_9 : cX6_say.data.toList.drop 9 = sX6_say_9 := dn1 hX6_say_8
theorem dX6_say_9 : decode cX6_say 9 = .ok (.iload_n 2, 1) := dk28 hX6_say_9
theorem hX6_say_10 : cX6_say.data.toList.drop 10 = sX6_say_10 := dn1 hX6_say_9
theorem dX6_say_10 : decode cX6_say 10 = .ok (.iconst 0, 1) := dk3 hX6_say_10
theorem hX6_say_11 : cX6_say.data.toList.drop 11 = sX6_say_11 := dn1 hX6_say_10
theorem dX6_say_11 : decode cX6_say 11 = .ok (.bipush 99, 2) := dk16 hX6_say_11 (by decide)
theorem hX6_say_13 : cX6_say.data.toList.drop 13 = sX6_say_13 := dn2 hX6_say_11
theorem dX6_say_13 : decode cX6_say 13 = .ok (.invokevirtual 203, 3) := dk182 hX6_say_13 rfl
theorem hX6_say_16 : cX6_say.data.toList.drop 16 = sX6_say_16 := dn3 hX6_say_13
theorem dX6_say_16 : decode cX6_say 16 = .ok (.ifCond .eq 5, 3) := dk153 hX6_say_16 (by decide)
theorem hX6_say_19 : cX6_say.data.toList.drop 19 = sX6_say_19 := dn3 hX6_say_16
theorem dX6_say_19 : decode cX6_say 19 = .ok (.iconst 0, 1) := dk3 hX6_say_19
theorem hX6_say_20 : cX6_say.data.toList.drop 20 = sX6_say_20 := dn1 hX6_say_19
theorem dX6_say_20 : decode cX6_say 20 = .ok (.ireturn, 1) := dk172 hX6_say_20
theorem hX6_say_21 : cX6_say.data.toList.drop 21 = sX6_say_21 := dn1 hX6_say_20
theorem dX6_say_21 : decode cX6_say 21 = .ok (.aload_n 0, 1) := dk42 hX6_say_21
theorem hX6_say_22 : cX6_say.data.toList.drop 22 = sX6_say_22 := dn1 hX6_say_21
theorem dX6_say_22 : decode cX6_say 22 = .ok (.getfield 26, 3) := dk180 hX6_say_22 rfl
theorem hX6_say_25 : cX6_say.data.toList.drop 25 = sX6_say_25 := dn3 hX6_say_22
theorem dX6_say_25 : decode cX6_say 25 = .ok (.getfield 149, 3) := dk180 hX6_say_25 rfl
theorem hX6_say_28 : cX6_say.data.toList.drop 28 = sX6_say_28 := dn3 hX6_say_25
theorem dX6_say_28 : decode cX6_say 28 = .ok (.iload_n 1, 1) := dk27 hX6_say_28
theorem hX6_say_29 : cX6_say.data.toList.drop 29 = sX6_say_29 := dn1 hX6_say_28
theorem dX6_say_29 : decode cX6_say 29 = .ok (.iaload, 1) := dk46 hX6_say_29
theorem hX6_say_30 : cX6_say.data.toList.drop 30 = sX6_say_30 := dn1 hX6_say_29
theorem dX6_say_30 : decode cX6_say 30 = .ok (.iload_n 2, 1) := dk28 hX6_say_30
theorem hX6_say_31 : cX6_say.data.toList.drop 31 = sX6_say_31 := dn1 hX6_say_30
theorem dX6_say_31 : decode cX6_say 31 = .ok (.if_icmp .ne 10, 3) := dk160 hX6_say_31 (by decide)
theorem hX6_say_34 : cX6_say.data.toList.drop 34 = sX6_say_34 := dn3 hX6_say_31
theorem dX6_say_34 : decode cX6_say 34 = .ok (.aload_n 0, 1) := dk42 hX6_say_34
theorem hX6_say_35 : cX6_say.data.toList.drop 35 = sX6_say_35 := dn1 hX6_say_34
theorem dX6_say_35 : decode cX6_say 35 = .ok (.iconst 5, 1) := dk8 hX6_say_35
theorem hX6_say_36 : cX6_say.data.toList.drop 36 = sX6_say_36 := dn1 hX6_say_35
theorem dX6_say_36 : decode cX6_say 36 = .ok (.putfield 100, 3) := dk181 hX6_say_36 rfl
theorem hX6_say_39 : cX6_say.data.toList.drop 39 = sX6_say_39 := dn3 hX6_say_36
theorem dX6_say_39 : decode cX6_say 39 = .ok (.iconst 0, 1) := dk3 hX6_say_39
theorem hX6_say_40 : cX6_say.data.toList.drop 40 = sX6_say_40 := dn1 hX6_say_39
theorem dX6_say_40 : decode cX6_say 40 = .ok (.ireturn, 1) := dk172 hX6_say_40
theorem hX6_say_41 : cX6_say.data.toList.drop 41 = sX6_say_41 := dn1 hX6_say_40
theorem dX6_say_41 : decode cX6_say 41 = .ok (.aload_n 0, 1) := dk42 hX6_say_41
theorem hX6_say_42 : cX6_say.data.toList.drop 42 = sX6_say_42 := dn1 hX6_say_41
theorem dX6_say_42 : decode cX6_say 42 = .ok (.getfield 40, 3) := dk180 hX6_say_42 rfl
theorem hX6_say_45 : cX6_say.data.toList.drop 45 = sX6_say_45 := dn3 hX6_say_42
theorem dX6_say_45 : decode cX6_say 45 = .ok (.iload_n 1, 1) := dk27 hX6_say_45
theorem hX6_say_46 : cX6_say.data.toList.drop 46 = sX6_say_46 := dn1 hX6_say_45
theorem dX6_say_46 : decode cX6_say 46 = .ok (.aload_n 0, 1) := dk42 hX6_say_46
theorem hX6_say_47 : cX6_say.data.toList.drop 47 = sX6_say_47 := dn1 hX6_say_46
theorem dX6_say_47 : decode cX6_say 47 = .ok (.getfield 26, 3) := dk180 hX6_say_47 rfl
theorem hX6_say_50 : cX6_say.data.toList.drop 50 = sX6_say_50 := dn3 hX6_say_47
theorem dX6_say_50 : decode cX6_say 50 = .ok (.getfield 149, 3) := dk180 hX6_say_50 rfl
theorem hX6_say_53 : cX6_say.data.toList.drop 53 = sX6_say_53 := dn3 hX6_say_50
theorem dX6_say_53 : decode cX6_say 53 = .ok (.iload_n 1, 1) := dk27 hX6_say_53
theorem hX6_say_54 : cX6_say.data.toList.drop 54 = sX6_say_54 := dn1 hX6_say_53
theorem dX6_say_54 : decode cX6_say 54 = .ok (.iaload, 1) := dk46 hX6_say_54
theorem hX6_say_55 : cX6_say.data.toList.drop 55 = sX6_say_55 := dn1 hX6_say_54
theorem dX6_say_55 : decode cX6_say 55 = .ok (.iconst 1, 1) := dk4 hX6_say_55
theorem hX6_say_56 : cX6_say.data.toList.drop 56 = sX6_say_56 := dn1 hX6_say_55
theorem dX6_say_56 : decode cX6_say 56 = .ok (.invokevirtual 346, 3) := dk182 hX6_say_56 rfl
theorem hX6_say_59 : cX6_say.data.toList.drop 59 = sX6_say_59 := dn3 hX6_say_56
theorem dX6_say_59 : decode cX6_say 59 = .ok (.aload_n 0, 1) := dk42 hX6_say_59
theorem hX6_say_60 : cX6_say.data.toList.drop 60 = sX6_say_60 := dn1 hX6_say_59
theorem dX6_say_60 : decode cX6_say 60 = .ok (.getfield 26, 3) := dk180 hX6_say_60 rfl
theorem hX6_say_63 : cX6_say.data.toList.drop 63 = sX6_say_63 := dn3 hX6_say_60
theorem dX6_say_63 : decode cX6_say 63 = .ok (.getfield 149, 3) := dk180 hX6_say_63 rfl
theorem hX6_say_66 : cX6_say.data.toList.drop 66 = sX6_say_66 := dn3 hX6_say_63
theorem dX6_say_66 : decode cX6_say 66 = .ok (.iload_n 1, 1) := dk27 hX6_say_66
theorem hX6_say_67 : cX6_say.data.toList.drop 67 = sX6_say_67 := dn1 hX6_say_66
theorem dX6_say_67 : decode cX6_say 67 = .ok (.iload_n 2, 1) := dk28 hX6_say_67
theorem hX6_say_68 : cX6_say.data.toList.drop 68 = sX6_say_68 := dn1 hX6_say_67
theorem dX6_say_68 : decode cX6_say 68 = .ok (.iastore, 1) := dk79 hX6_say_68
theorem hX6_say_69 : cX6_say.data.toList.drop 69 = sX6_say_69 := dn1 hX6_say_68
theorem dX6_say_69 : decode cX6_say 69 = .ok (.iconst 1, 1) := dk4 hX6_say_69
theorem hX6_say_70 : cX6_say.data.toList.drop 70 = sX6_say_70 := dn1 hX6_say_69
theorem dX6_say_70 : decode cX6_say 70 = .ok (.ireturn, 1) := dk172 hX6_say_70
noncomputable def sX6_settles_97 : List UInt8 := 172 :: []
noncomputable def sX6_settles_96 : List UInt8 := 28 :: sX6_settles_97
noncomputable def sX6_settles_93 : List UInt8 := 167 :: 255 :: 213 :: sX6_settles_96
noncomputable def sX6_settles_90 : List UInt8 := 132 :: 3 :: 1 :: sX6_settles_93
noncomputable def sX6_settles_87 : List UInt8 := 182 :: 1 :: 12 :: sX6_settles_90
noncomputable def sX6_settles_84 : List UInt8 := 180 :: 0 :: 19 :: sX6_settles_87
noncomputable def sX6_settles_83 : List UInt8 := 42 :: sX6_settles_84
noncomputable def sX6_settles_80 : List UInt8 := 180 :: 0 :: 54 :: sX6_settles_83
noncomputable def sX6_settles_79 : List UInt8 := 42 :: sX6_settles_80
noncomputable def sX6_settles_78 : List UInt8 := 61 :: sX6_settles_79
noncomputable def sX6_settles_77 : List UInt8 := 96 :: sX6_settles_78
noncomputable def sX6_settles_76 : List UInt8 := 4 :: sX6_settles_77
noncomputable def sX6_settles_75 : List UInt8 := 29 :: sX6_settles_76
noncomputable def sX6_settles_72 : List UInt8 := 159 :: 0 :: 7 :: sX6_settles_75
noncomputable def sX6_settles_71 : List UInt8 := 27 :: sX6_settles_72
noncomputable def sX6_settles_70 : List UInt8 := 46 :: sX6_settles_71
noncomputable def sX6_settles_67 : List UInt8 := 180 :: 0 :: 144 :: sX6_settles_70
noncomputable def sX6_settles_64 : List UInt8 := 180 :: 0 :: 19 :: sX6_settles_67
noncomputable def sX6_settles_63 : List UInt8 := 42 :: sX6_settles_64
noncomputable def sX6_settles_60 : List UInt8 := 180 :: 0 :: 156 :: sX6_settles_63
noncomputable def sX6_settles_57 : List UInt8 := 180 :: 0 :: 54 :: sX6_settles_60
noncomputable def sX6_settles_56 : List UInt8 := 42 :: sX6_settles_57
noncomputable def sX6_settles_53 : List UInt8 := 163 :: 0 :: 43 :: sX6_settles_56
noncomputable def sX6_settles_51 : List UInt8 := 16 :: 9 :: sX6_settles_53
noncomputable def sX6_settles_50 : List UInt8 := 29 :: sX6_settles_51
noncomputable def sX6_settles_49 : List UInt8 := 62 :: sX6_settles_50
noncomputable def sX6_settles_48 : List UInt8 := 3 :: sX6_settles_49
noncomputable def sX6_settles_45 : List UInt8 := 182 :: 1 :: 8 :: sX6_settles_48
noncomputable def sX6_settles_42 : List UInt8 := 180 :: 0 :: 149 :: sX6_settles_45
noncomputable def sX6_settles_39 : List UInt8 := 180 :: 0 :: 26 :: sX6_settles_42
noncomputable def sX6_settles_38 : List UInt8 := 42 :: sX6_settles_39
noncomputable def sX6_settles_35 : List UInt8 := 180 :: 0 :: 19 :: sX6_settles_38
noncomputable def sX6_settles_34 : List UInt8 := 42 :: sX6_settles_35
noncomputable def sX6_settles_31 : List UInt8 := 180 :: 0 :: 54 :: sX6_settles_34
noncomputable def sX6_settles_30 : List UInt8 := 42 :: sX6_settles_31
noncomputable def sX6_settles_29 : List UInt8 := 61 :: sX6_settles_30
noncomputable def sX6_settles_28 : List UInt8 := 3 :: sX6_settles_29
noncomputable def sX6_settles_27 : List UInt8 := 60 :: sX6_settles_28
noncomputable def sX6_settles_24 : List UInt8 := 182 :: 0 :: 152 :: sX6_settles_27
noncomputable def sX6_settles_21 : List UInt8 := 180 :: 0 :: 149 :: sX6_settles_24
noncomputable def sX6_settles_18 : List UInt8 := 180 :: 0 :: 26 :: sX6_settles_21
noncomputable def sX6_settles_17 : List UInt8 := 42 :: sX6_settles_18
noncomputable def sX6_settles_14 : List UInt8 := 180 :: 0 :: 19 :: sX6_settles_17
noncomputable def sX6_settles_13 : List UInt8 := 42 :: sX6_settles_14
noncomputable def sX6_settles_10 : List UInt8 := 180 :: 0 :: 54 :: sX6_settles_13
noncomputable def sX6_settles_9 : List UInt8 := 42 :: sX6_settles_10
noncomputable def sX6_settles_8 : List UInt8 := 172 :: sX6_settles_9
noncomputable def sX6_settles_7 : List UInt8 := 2 :: sX6_settles_8
noncomputable def sX6_settles_4 : List UInt8 := 153 :: 0 :: 5 :: sX6_settles_7
noncomputable def sX6_settles_1 : List UInt8 := 182 :: 0 :: 140 :: sX6_settles_4
noncomputable def sX6_settles_0 : List UInt8 := 42 :: sX6_settles_1
set_option maxRecDepth 100000 in
theorem hX6_settles_0 : cX6_settles.data.toList.drop 0 = sX6_settles_0 := by decide +kernel
theorem dX6_settles_0 : decode cX6_settles 0 = .ok (.aload_n 0, 1) := dk42 hX6_settles_0
theorem hX6_settles_1 : cX6_settles.data.toList.drop 1 = sX6_settles_1 := dn1 hX6_settles_0
theorem dX6_settles_1 : decode cX6_settles 1 = .ok (.invokevirtual 140, 3) := dk182 hX6_settles_1 rfl
theorem hX6_settles_4 : cX6_settles.data.toList.drop 4 = sX6_settles_4 := dn3 hX6_settles_1
theorem dX6_settles_4 : decode cX6_settles 4 = .ok (.ifCond .eq 5, 3) := dk153 hX6_settles_4 (by decide)
theorem hX6_settles_7 : cX6_settles.data.toList.drop 7 = sX6_settles_7 := dn3 hX6_settles_4
theorem dX6_settles_7 : decode cX6_settles 7 = .ok (.iconst (-1), 1) := dk2 hX6_settles_7
theorem hX6_settles_8 : cX6_settles.data.toList.drop 8 = sX6_settles_8 := dn1 hX6_settles_7
theorem dX6_settles_8 : decode cX6_settles 8 = .ok (.ireturn, 1) := dk172 hX6_settles_8
theorem hX6_settles_9 : cX6_settles.data.toList.drop 9 = sX6_settles_9 := dn1 hX6_settles_8
theorem dX6_settles_9 : decode cX6_settles 9 = .ok (.aload_n 0, 1) := dk42 hX6_settles_9
theorem hX6_settles_10 : cX6_settles.data.toList.drop 10 = sX6_settles_10 := dn1 hX6_settles_9
theorem dX6_settles_10 : decode cX6_settles 10 = .ok (.getfield 54, 3) := dk180 hX6_settles_10 rfl
theorem hX6_settles_13 : cX6_settles.data.toList.drop 13 = sX6_settles_13 := dn3 hX6_settles_10
theorem dX6_settles_13 : decode cX6_settles 13 = .ok (.aload_n 0, 1) := dk42 hX6_settles_13
theorem hX6_settles_14 : cX6_settles.data.toList.drop 14 = sX6_settles_14 := dn1 hX6_settles_13
theorem dX6_settles_14 : decode cX6_settles 14 = .ok (.getfield 19, 3) := dk180 hX6_settles_14 rfl
theorem hX6_settles_17 : cX6_settles.data.toList.drop 17 = sX6_settles_17 := dn3 hX6_settles_14
theorem dX6_settles_17 : decode cX6_settles 17 = .ok (.aload_n 0, 1) := dk42 hX6_settles_17
theorem hX6_settles_18 : cX6_settles.data.toList.drop 18 = sX6_settles_18 := dn1 hX6_settles_17
theorem dX6_settles_18 : decode cX6_settles 18 = .ok (.getfield 26, 3) := dk180 hX6_settles_18 rfl
theorem hX6_settles_21 : cX6_settles.data.toList.drop 21 = sX6_settles_21 := dn3 hX6_settles_18
theorem dX6_settles_21 : decode cX6_settles 21 = .ok (.getfield 149, 3) := dk180 hX6_settles_21 rfl
theorem hX6_settles_24 : cX6_settles.data.toList.drop 24 = sX6_settles_24 := dn3 hX6_settles_21
theorem dX6_settles_24 : decode cX6_settles 24 = .ok (.invokevirtual 152, 3) := dk182 hX6_settles_24 rfl
theorem hX6_settles_27 : cX6_settles.data.toList.drop 27 = sX6_settles_27 := dn3 hX6_settles_24
theorem dX6_settles_27 : decode cX6_settles 27 = .ok (.istore_n 1, 1) := dk60 hX6_settles_27
theorem hX6_settles_28 : cX6_settles.data.toList.drop 28 = sX6_settles_28 := dn1 hX6_settles_27
theorem dX6_settles_28 : decode cX6_settles 28 = .ok (.iconst 0, 1) := dk3 hX6_settles_28
theorem hX6_settles_29 : cX6_settles.data.toList.drop 29 = sX6_settles_29 := dn1 hX6_settles_28
theorem dX6_settles_29 : decode cX6_settles 29 = .ok (.istore_n 2, 1) := dk61 hX6_settles_29
theorem hX6_settles_30 : cX6_settles.data.toList.drop 30 = sX6_settles_30 := dn1 hX6_settles_29
theorem dX6_settles_30 : decode cX6_settles 30 = .ok (.aload_n 0, 1) := dk42 hX6_settles_30
theorem hX6_settles_31 : cX6_settles.data.toList.drop 31 = sX6_settles_31 := dn1 hX6_settles_30
theorem dX6_settles_31 : decode cX6_settles 31 = .ok (.getfield 54, 3) := dk180 hX6_settles_31 rfl
theorem hX6_settles_34 : cX6_settles.data.toList.drop 34 = sX6_settles_34 := dn3 hX6_settles_31
theorem dX6_settles_34 : decode cX6_settles 34 = .ok (.aload_n 0, 1) := dk42 hX6_settles_34
theorem hX6_settles_35 : cX6_settles.data.toList.drop 35 = sX6_settles_35 := dn1 hX6_settles_34
theorem dX6_settles_35 : decode cX6_settles 35 = .ok (.getfield 19, 3) := dk180 hX6_settles_35 rfl
theorem hX6_settles_38 : cX6_settles.data.toList.drop 38 = sX6_settles_38 := dn3 hX6_settles_35
theorem dX6_settles_38 : decode cX6_settles 38 = .ok (.aload_n 0, 1) := dk42 hX6_settles_38
theorem hX6_settles_39 : cX6_settles.data.toList.drop 39 = sX6_settles_39 := dn1 hX6_settles_38
theorem dX6_settles_39 : decode cX6_settles 39 = .ok (.getfield 26, 3) := dk180 hX6_settles_39 rfl
theorem hX6_settles_42 : cX6_settles.data.toList.drop 42 = sX6_settles_42 := dn3 hX6_settles_39
theorem dX6_settles_42 : decode cX6_settles 42 = .ok (.getfield 149, 3) := dk180 hX6_settles_42 rfl
theorem hX6_settles_45 : cX6_settles.data.toList.drop 45 = sX6_settles_45 := dn3 hX6_settles_42
theorem dX6_settles_45 : decode cX6_settles 45 = .ok (.invokevirtual 264, 3) := dk182 hX6_settles_45 rfl
theorem hX6_settles_48 : cX6_settles.data.toList.drop 48 = sX6_settles_48 := dn3 hX6_settles_45
theorem dX6_settles_48 : decode cX6_settles 48 = .ok (.iconst 0, 1) := dk3 hX6_settles_48
theorem hX6_settles_49 : cX6_settles.data.toList.drop 49 = sX6_settles_49 := dn1 hX6_settles_48
theorem dX6_settles_49 : decode cX6_settles 49 = .ok (.istore_n 3, 1) := dk62 hX6_settles_49
theorem hX6_settles_50 : cX6_settles.data.toList.drop 50 = sX6_settles_50 := dn1 hX6_settles_49
theorem dX6_settles_50 : decode cX6_settles 50 = .ok (.iload_n 3, 1) := dk29 hX6_settles_50
theorem hX6_settles_51 : cX6_settles.data.toList.drop 51 = sX6_settles_51 := dn1 hX6_settles_50
theorem dX6_settles_51 : decode cX6_settles 51 = .ok (.bipush 9, 2) := dk16 hX6_settles_51 (by decide)
theorem hX6_settles_53 : cX6_settles.data.toList.drop 53 = sX6_settles_53 := dn2 hX6_settles_51
theorem dX6_settles_53 : decode cX6_settles 53 = .ok (.if_icmp .gt 43, 3) := dk163 hX6_settles_53 (by decide)
theorem hX6_settles_56 : cX6_settles.data.toList.drop 56 = sX6_settles_56 := dn3 hX6_settles_53
theorem dX6_settles_56 : decode cX6_settles 56 = .ok (.aload_n 0, 1) := dk42 hX6_settles_56
theorem hX6_settles_57 : cX6_settles.data.toList.drop 57 = sX6_settles_57 := dn1 hX6_settles_56
theorem dX6_settles_57 : decode cX6_settles 57 = .ok (.getfield 54, 3) := dk180 hX6_settles_57 rfl
theorem hX6_settles_60 : cX6_settles.data.toList.drop 60 = sX6_settles_60 := dn3 hX6_settles_57
theorem dX6_settles_60 : decode cX6_settles 60 = .ok (.getfield 156, 3) := dk180 hX6_settles_60 rfl
theorem hX6_settles_63 : cX6_settles.data.toList.drop 63 = sX6_settles_63 := dn3 hX6_settles_60
theorem dX6_settles_63 : decode cX6_settles 63 = .ok (.aload_n 0, 1) := dk42 hX6_settles_63
theorem hX6_settles_64 : cX6_settles.data.toList.drop 64 = sX6_settles_64 := dn1 hX6_settles_63
theorem dX6_settles_64 : decode cX6_settles 64 = .ok (.getfield 19, 3) := dk180 hX6_settles_64 rfl
theorem hX6_settles_67 : cX6_settles.data.toList.drop 67 = sX6_settles_67 := dn3 hX6_settles_64
theorem dX6_settles_67 : decode cX6_settles 67 = .ok (.getfield 144, 3) := dk180 hX6_settles_67 rfl
theorem hX6_settles_70 : cX6_settles.data.toList.drop 70 = sX6_settles_70 := dn3 hX6_settles_67
theorem dX6_settles_70 : decode cX6_settles 70 = .ok (.iaload, 1) := dk46 hX6_settles_70
theorem hX6_settles_71 : cX6_settles.data.toList.drop 71 = sX6_settles_71 := dn1 hX6_settles_70
theorem dX6_settles_71 : decode cX6_settles 71 = .ok (.iload_n 1, 1) := dk27 hX6_settles_71
theorem hX6_settles_72 : cX6_settles.data.toList.drop 72 = sX6_settles_72 := dn1 hX6_settles_71
theorem dX6_settles_72 : decode cX6_settles 72 = .ok (.if_icmp .eq 7, 3) := dk159 hX6_settles_72 (by decide)
theorem hX6_settles_75 : cX6_settles.data.toList.drop 75 = sX6_settles_75 := dn3 hX6_settles_72
theorem dX6_settles_75 : decode cX6_settles 75 = .ok (.iload_n 3, 1) := dk29 hX6_settles_75
theorem hX6_settles_76 : cX6_settles.data.toList.drop 76 = sX6_settles_76 := dn1 hX6_settles_75
theorem dX6_settles_76 : decode cX6_settles 76 = .ok (.iconst 1, 1) := dk4 hX6_settles_76
theorem hX6_settles_77 : cX6_settles.data.toList.drop 77 = sX6_settles_77 := dn1 hX6_settles_76
theorem dX6_settles_77 : decode cX6_settles 77 = .ok (.iadd, 1) := dk96 hX6_settles_77
theorem hX6_settles_78 : cX6_settles.data.toList.drop 78 = sX6_settles_78 := dn1 hX6_settles_77
theorem dX6_settles_78 : decode cX6_settles 78 = .ok (.istore_n 2, 1) := dk61 hX6_settles_78
theorem hX6_settles_79 : cX6_settles.data.toList.drop 79 = sX6_settles_79 := dn1 hX6_settles_78
theorem dX6_settles_79 : decode cX6_settles 79 = .ok (.aload_n 0, 1) := dk42 hX6_settles_79
theorem hX6_settles_80 : cX6_settles.data.toList.drop 80 = sX6_settles_80 := dn1 hX6_settles_79
theorem dX6_settles_80 : decode cX6_settles 80 = .ok (.getfield 54, 3) := dk180 hX6_settles_80 rfl
theorem hX6_settles_83 : cX6_settles.data.toList.drop 83 = sX6_settles_83 := dn3 hX6_settles_80
theorem dX6_settles_83 : decode cX6_settles 83 = .ok (.aload_n 0, 1) := dk42 hX6_settles_83
theorem hX6_settles_84 : cX6_settles.data.toList.drop 84 = sX6_settles_84 := dn1 hX6_settles_83
theorem dX6_settles_84 : decode cX6_settles 84 = .ok (.getfield 19, 3) := dk180 hX6_settles_84 rfl
theorem hX6_settles_87 : cX6_settles.data.toList.drop 87 = sX6_settles_87 := dn3 hX6_settles_84
theorem dX6_settles_87 : decode cX6_settles 87 = .ok (.invokevirtual 268, 3) := dk182 hX6_settles_87 rfl
theorem hX6_settles_90 : cX6_settles.data.toList.drop 90 = sX6_settles_90 := dn3 hX6_settles_87
theorem dX6_settles_90 : decode cX6_settles 90 = .ok (.iinc 3 1, 3) := dk132 hX6_settles_90 rfl (by decide)
theorem hX6_settles_93 : cX6_settles.data.toList.drop 93 = sX6_settles_93 := dn3 hX6_settles_90
theorem dX6_settles_93 : decode cX6_settles 93 = .ok (.goto (-43), 3) := dk167 hX6_settles_93 (by decide)
theorem hX6_settles_96 : cX6_settles.data.toList.drop 96 = sX6_settles_96 := dn3 hX6_settles_93
theorem dX6_settles_96 : decode cX6_settles 96 = .ok (.iload_n 2, 1) := dk28 hX6_settles_96
theorem hX6_settles_97 : cX6_settles.data.toList.drop 97 = sX6_settles_97 := dn1 hX6_settles_96
theorem dX6_settles_97 : decode cX6_settles 97 = .ok (.ireturn, 1) := dk172 hX6_settles_97
noncomputable def sX6_shareOf_26 : List UInt8 := 172 :: []
noncomputable def sX6_shareOf_25 : List UInt8 := 4 :: sX6_shareOf_26
noncomputable def sX6_shareOf_22 : List UInt8 := 167 :: 0 :: 4 :: sX6_shareOf_25
noncomputable def sX6_shareOf_21 : List UInt8 := 116 :: sX6_shareOf_22
noncomputable def sX6_shareOf_20 : List UInt8 := 26 :: sX6_shareOf_21
noncomputable def sX6_shareOf_17 : List UInt8 := 153 :: 0 :: 8 :: sX6_shareOf_20
noncomputable def sX6_shareOf_16 : List UInt8 := 28 :: sX6_shareOf_17
noncomputable def sX6_shareOf_15 : List UInt8 := 172 :: sX6_shareOf_16
noncomputable def sX6_shareOf_14 : List UInt8 := 8 :: sX6_shareOf_15
noncomputable def sX6_shareOf_11 : List UInt8 := 167 :: 0 :: 4 :: sX6_shareOf_14
noncomputable def sX6_shareOf_10 : List UInt8 := 100 :: sX6_shareOf_11
noncomputable def sX6_shareOf_9 : List UInt8 := 26 :: sX6_shareOf_10
noncomputable def sX6_shareOf_8 : List UInt8 := 5 :: sX6_shareOf_9
noncomputable def sX6_shareOf_5 : List UInt8 := 153 :: 0 :: 9 :: sX6_shareOf_8
noncomputable def sX6_shareOf_4 : List UInt8 := 28 :: sX6_shareOf_5
noncomputable def sX6_shareOf_1 : List UInt8 := 153 :: 0 :: 15 :: sX6_shareOf_4
noncomputable def sX6_shareOf_0 : List UInt8 := 27 :: sX6_shareOf_1
set_option maxRecDepth 100000 in
theorem hX6_shareOf_0 : cX6_shareOf.data.toList.drop 0 = sX6_shareOf_0 := by decide +kernel
theorem dX6_shareOf_0 : decode cX6_shareOf 0 = .ok (.iload_n 1, 1) := dk27 hX6_shareOf_0
theorem hX6_shareOf_1 : cX6_shareOf.data.toList.drop 1 = sX6_shareOf_1 := dn1 hX6_shareOf_0
theorem dX6_shareOf_1 : decode cX6_shareOf 1 = .ok (.ifCond .eq 15, 3) := dk153 hX6_shareOf_1 (by decide)
theorem hX6_shareOf_4 : cX6_shareOf.data.toList.drop 4 = sX6_shareOf_4 := dn3 hX6_shareOf_1
theorem dX6_shareOf_4 : decode cX6_shareOf 4 = .ok (.iload_n 2, 1) := dk28 hX6_shareOf_4
theorem hX6_shareOf_5 : cX6_shareOf.data.toList.drop 5 = sX6_shareOf_5 := dn1 hX6_shareOf_4
theorem dX6_shareOf_5 : decode cX6_shareOf 5 = .ok (.ifCond .eq 9, 3) := dk153 hX6_shareOf_5 (by decide)
theorem hX6_shareOf_8 : cX6_shareOf.data.toList.drop 8 = sX6_shareOf_8 := dn3 hX6_shareOf_5
theorem dX6_shareOf_8 : decode cX6_shareOf 8 = .ok (.iconst 2, 1) := dk5 hX6_shareOf_8
theorem hX6_shareOf_9 : cX6_shareOf.data.toList.drop 9 = sX6_shareOf_9 := dn1 hX6_shareOf_8
theorem dX6_shareOf_9 : decode cX6_shareOf 9 = .ok (.iload_n 0, 1) := dk26 hX6_shareOf_9
theorem hX6_shareOf_10 : cX6_shareOf.data.toList.drop 10 = sX6_shareOf_10 := dn1 hX6_shareOf_9
theorem dX6_shareOf_10 : decode cX6_shareOf 10 = .ok (.isub, 1) := dk100 hX6_shareOf_10
theorem hX6_shareOf_11 : cX6_shareOf.data.toList.drop 11 = sX6_shareOf_11 := dn1 hX6_shareOf_10
theorem dX6_shareOf_11 : decode cX6_shareOf 11 = .ok (.goto 4, 3) := dk167 hX6_shareOf_11 (by decide)
theorem hX6_shareOf_14 : cX6_shareOf.data.toList.drop 14 = sX6_shareOf_14 := dn3 hX6_shareOf_11
theorem dX6_shareOf_14 : decode cX6_shareOf 14 = .ok (.iconst 5, 1) := dk8 hX6_shareOf_14
theorem hX6_shareOf_15 : cX6_shareOf.data.toList.drop 15 = sX6_shareOf_15 := dn1 hX6_shareOf_14
theorem dX6_shareOf_15 : decode cX6_shareOf 15 = .ok (.ireturn, 1) := dk172 hX6_shareOf_15
theorem hX6_shareOf_16 : cX6_shareOf.data.toList.drop 16 = sX6_shareOf_16 := dn1 hX6_shareOf_15
theorem dX6_shareOf_16 : decode cX6_shareOf 16 = .ok (.iload_n 2, 1) := dk28 hX6_shareOf_16
theorem hX6_shareOf_17 : cX6_shareOf.data.toList.drop 17 = sX6_shareOf_17 := dn1 hX6_shareOf_16
theorem dX6_shareOf_17 : decode cX6_shareOf 17 = .ok (.ifCond .eq 8, 3) := dk153 hX6_shareOf_17 (by decide)
theorem hX6_shareOf_20 : cX6_shareOf.data.toList.drop 20 = sX6_shareOf_20 := dn3 hX6_shareOf_17
theorem dX6_shareOf_20 : decode cX6_shareOf 20 = .ok (.iload_n 0, 1) := dk26 hX6_shareOf_20
theorem hX6_shareOf_21 : cX6_shareOf.data.toList.drop 21 = sX6_shareOf_21 := dn1 hX6_shareOf_20
theorem dX6_shareOf_21 : decode cX6_shareOf 21 = .ok (.ineg, 1) := dk116 hX6_shareOf_21
theorem hX6_shareOf_22 : cX6_shareOf.data.toList.drop 22 = sX6_shareOf_22 := dn1 hX6_shareOf_21
theorem dX6_shareOf_22 : decode cX6_shareOf 22 = .ok (.goto 4, 3) := dk167 hX6_shareOf_22 (by decide)
theorem hX6_shareOf_25 : cX6_shareOf.data.toList.drop 25 = sX6_shareOf_25 := dn3 hX6_shareOf_22
theorem dX6_shareOf_25 : decode cX6_shareOf 25 = .ok (.iconst 1, 1) := dk4 hX6_shareOf_25
theorem hX6_shareOf_26 : cX6_shareOf.data.toList.drop 26 = sX6_shareOf_26 := dn1 hX6_shareOf_25
theorem dX6_shareOf_26 : decode cX6_shareOf 26 = .ok (.ireturn, 1) := dk172 hX6_shareOf_26
noncomputable def sX6_shows_111 : List UInt8 := 172 :: []
noncomputable def sX6_shows_110 : List UInt8 := 3 :: sX6_shows_111
noncomputable def sX6_shows_107 : List UInt8 := 167 :: 0 :: 4 :: sX6_shows_110
noncomputable def sX6_shows_106 : List UInt8 := 4 :: sX6_shows_107
noncomputable def sX6_shows_103 : List UInt8 := 160 :: 0 :: 7 :: sX6_shows_106
noncomputable def sX6_shows_100 : List UInt8 := 182 :: 0 :: 232 :: sX6_shows_103
noncomputable def sX6_shows_99 : List UInt8 := 3 :: sX6_shows_100
noncomputable def sX6_shows_98 : List UInt8 := 27 :: sX6_shows_99
noncomputable def sX6_shows_95 : List UInt8 := 180 :: 0 :: 26 :: sX6_shows_98
noncomputable def sX6_shows_94 : List UInt8 := 42 :: sX6_shows_95
noncomputable def sX6_shows_91 : List UInt8 := 180 :: 0 :: 19 :: sX6_shows_94
noncomputable def sX6_shows_90 : List UInt8 := 42 :: sX6_shows_91
noncomputable def sX6_shows_87 : List UInt8 := 180 :: 0 :: 54 :: sX6_shows_90
noncomputable def sX6_shows_86 : List UInt8 := 42 :: sX6_shows_87
noncomputable def sX6_shows_84 : List UInt8 := 21 :: 4 :: sX6_shows_86
noncomputable def sX6_shows_83 : List UInt8 := 172 :: sX6_shows_84
noncomputable def sX6_shows_82 : List UInt8 := 3 :: sX6_shows_83
noncomputable def sX6_shows_79 : List UInt8 := 167 :: 0 :: 4 :: sX6_shows_82
noncomputable def sX6_shows_78 : List UInt8 := 4 :: sX6_shows_79
noncomputable def sX6_shows_75 : List UInt8 := 162 :: 0 :: 7 :: sX6_shows_78
noncomputable def sX6_shows_74 : List UInt8 := 104 :: sX6_shows_75
noncomputable def sX6_shows_71 : List UInt8 := 180 :: 0 :: 159 :: sX6_shows_74
noncomputable def sX6_shows_68 : List UInt8 := 180 :: 0 :: 19 :: sX6_shows_71
noncomputable def sX6_shows_67 : List UInt8 := 42 :: sX6_shows_68
noncomputable def sX6_shows_66 : List UInt8 := 29 :: sX6_shows_67
noncomputable def sX6_shows_64 : List UInt8 := 21 :: 4 :: sX6_shows_66
noncomputable def sX6_shows_61 : List UInt8 := 160 :: 0 :: 23 :: sX6_shows_64
noncomputable def sX6_shows_60 : List UInt8 := 4 :: sX6_shows_61
noncomputable def sX6_shows_59 : List UInt8 := 28 :: sX6_shows_60
noncomputable def sX6_shows_57 : List UInt8 := 54 :: 4 :: sX6_shows_59
noncomputable def sX6_shows_54 : List UInt8 := 182 :: 0 :: 232 :: sX6_shows_57
noncomputable def sX6_shows_52 : List UInt8 := 16 :: 99 :: sX6_shows_54
noncomputable def sX6_shows_51 : List UInt8 := 27 :: sX6_shows_52
noncomputable def sX6_shows_48 : List UInt8 := 180 :: 0 :: 26 :: sX6_shows_51
noncomputable def sX6_shows_47 : List UInt8 := 42 :: sX6_shows_48
noncomputable def sX6_shows_44 : List UInt8 := 180 :: 0 :: 19 :: sX6_shows_47
noncomputable def sX6_shows_43 : List UInt8 := 42 :: sX6_shows_44
noncomputable def sX6_shows_40 : List UInt8 := 180 :: 0 :: 54 :: sX6_shows_43
noncomputable def sX6_shows_39 : List UInt8 := 42 :: sX6_shows_40
noncomputable def sX6_shows_38 : List UInt8 := 172 :: sX6_shows_39
noncomputable def sX6_shows_37 : List UInt8 := 3 :: sX6_shows_38
noncomputable def sX6_shows_34 : List UInt8 := 167 :: 0 :: 4 :: sX6_shows_37
noncomputable def sX6_shows_33 : List UInt8 := 4 :: sX6_shows_34
noncomputable def sX6_shows_30 : List UInt8 := 161 :: 0 :: 7 :: sX6_shows_33
noncomputable def sX6_shows_29 : List UInt8 := 104 :: sX6_shows_30
noncomputable def sX6_shows_26 : List UInt8 := 180 :: 0 :: 159 :: sX6_shows_29
noncomputable def sX6_shows_23 : List UInt8 := 180 :: 0 :: 19 :: sX6_shows_26
noncomputable def sX6_shows_22 : List UInt8 := 42 :: sX6_shows_23
noncomputable def sX6_shows_21 : List UInt8 := 29 :: sX6_shows_22
noncomputable def sX6_shows_18 : List UInt8 := 182 :: 0 :: 232 :: sX6_shows_21
noncomputable def sX6_shows_17 : List UInt8 := 3 :: sX6_shows_18
noncomputable def sX6_shows_16 : List UInt8 := 27 :: sX6_shows_17
noncomputable def sX6_shows_13 : List UInt8 := 180 :: 0 :: 26 :: sX6_shows_16
noncomputable def sX6_shows_12 : List UInt8 := 42 :: sX6_shows_13
noncomputable def sX6_shows_9 : List UInt8 := 180 :: 0 :: 19 :: sX6_shows_12
noncomputable def sX6_shows_8 : List UInt8 := 42 :: sX6_shows_9
noncomputable def sX6_shows_5 : List UInt8 := 180 :: 0 :: 54 :: sX6_shows_8
noncomputable def sX6_shows_4 : List UInt8 := 42 :: sX6_shows_5
noncomputable def sX6_shows_1 : List UInt8 := 154 :: 0 :: 38 :: sX6_shows_4
noncomputable def sX6_shows_0 : List UInt8 := 28 :: sX6_shows_1
set_option maxRecDepth 100000 in
theorem hX6_shows_0 : cX6_shows.data.toList.drop 0 = sX6_shows_0 := by decide +kernel
theorem dX6_shows_0 : decode cX6_shows 0 = .ok (.iload_n 2, 1) := dk28 hX6_shows_0
theorem hX6_shows_1 : cX6_shows.data.toList.drop 1 = sX6_shows_1 := dn1 hX6_shows_0
theorem dX6_shows_1 : decode cX6_shows 1 = .ok (.ifCond .ne 38, 3) := dk154 hX6_shows_1 (by decide)
theorem hX6_shows_4 : cX6_shows.data.toList.drop 4 = sX6_shows_4 := dn3 hX6_shows_1
theorem dX6_shows_4 : decode cX6_shows 4 = .ok (.aload_n 0, 1) := dk42 hX6_shows_4
theorem hX6_shows_5 : cX6_shows.data.toList.drop 5 = sX6_shows_5 := dn1 hX6_shows_4
theorem dX6_shows_5 : decode cX6_shows 5 = .ok (.getfield 54, 3) := dk180 hX6_shows_5 rfl
theorem hX6_shows_8 : cX6_shows.data.toList.drop 8 = sX6_shows_8 := dn3 hX6_shows_5
theorem dX6_shows_8 : decode cX6_shows 8 = .ok (.aload_n 0, 1) := dk42 hX6_shows_8
theorem hX6_shows_9 : cX6_shows.data.toList.drop 9 = sX6_shows_9 := dn1 hX6_shows_8
theorem dX6_shows_9 : decode cX6_shows 9 = .ok (.getfield 19, 3) := dk180 hX6_shows_9 rfl
theorem hX6_shows_12 : cX6_shows.data.toList.drop 12 = sX6_shows_12 := dn3 hX6_shows_9
theorem dX6_shows_12 : decode cX6_shows 12 = .ok (.aload_n 0, 1) := dk42 hX6_shows_12
theorem hX6_shows_13 : cX6_shows.data.toList.drop 13 = sX6_shows_13 := dn1 hX6_shows_12
theorem dX6_shows_13 : decode cX6_shows 13 = .ok (.getfield 26, 3) := dk180 hX6_shows_13 rfl
theorem hX6_shows_16 : cX6_shows.data.toList.drop 16 = sX6_shows_16 := dn3 hX6_shows_13
theorem dX6_shows_16 : decode cX6_shows 16 = .ok (.iload_n 1, 1) := dk27 hX6_shows_16
theorem hX6_shows_17 : cX6_shows.data.toList.drop 17 = sX6_shows_17 := dn1 hX6_shows_16
theorem dX6_shows_17 : decode cX6_shows 17 = .ok (.iconst 0, 1) := dk3 hX6_shows_17
theorem hX6_shows_18 : cX6_shows.data.toList.drop 18 = sX6_shows_18 := dn1 hX6_shows_17
theorem dX6_shows_18 : decode cX6_shows 18 = .ok (.invokevirtual 232, 3) := dk182 hX6_shows_18 rfl
theorem hX6_shows_21 : cX6_shows.data.toList.drop 21 = sX6_shows_21 := dn3 hX6_shows_18
theorem dX6_shows_21 : decode cX6_shows 21 = .ok (.iload_n 3, 1) := dk29 hX6_shows_21
theorem hX6_shows_22 : cX6_shows.data.toList.drop 22 = sX6_shows_22 := dn1 hX6_shows_21
theorem dX6_shows_22 : decode cX6_shows 22 = .ok (.aload_n 0, 1) := dk42 hX6_shows_22
theorem hX6_shows_23 : cX6_shows.data.toList.drop 23 = sX6_shows_23 := dn1 hX6_shows_22
theorem dX6_shows_23 : decode cX6_shows 23 = .ok (.getfield 19, 3) := dk180 hX6_shows_23 rfl
theorem hX6_shows_26 : cX6_shows.data.toList.drop 26 = sX6_shows_26 := dn3 hX6_shows_23
theorem dX6_shows_26 : decode cX6_shows 26 = .ok (.getfield 159, 3) := dk180 hX6_shows_26 rfl
theorem hX6_shows_29 : cX6_shows.data.toList.drop 29 = sX6_shows_29 := dn3 hX6_shows_26
theorem dX6_shows_29 : decode cX6_shows 29 = .ok (.imul, 1) := dk104 hX6_shows_29
theorem hX6_shows_30 : cX6_shows.data.toList.drop 30 = sX6_shows_30 := dn1 hX6_shows_29
theorem dX6_shows_30 : decode cX6_shows 30 = .ok (.if_icmp .lt 7, 3) := dk161 hX6_shows_30 (by decide)
theorem hX6_shows_33 : cX6_shows.data.toList.drop 33 = sX6_shows_33 := dn3 hX6_shows_30
theorem dX6_shows_33 : decode cX6_shows 33 = .ok (.iconst 1, 1) := dk4 hX6_shows_33
theorem hX6_shows_34 : cX6_shows.data.toList.drop 34 = sX6_shows_34 := dn1 hX6_shows_33
theorem dX6_shows_34 : decode cX6_shows 34 = .ok (.goto 4, 3) := dk167 hX6_shows_34 (by decide)
theorem hX6_shows_37 : cX6_shows.data.toList.drop 37 = sX6_shows_37 := dn3 hX6_shows_34
theorem dX6_shows_37 : decode cX6_shows 37 = .ok (.iconst 0, 1) := dk3 hX6_shows_37
theorem hX6_shows_38 : cX6_shows.data.toList.drop 38 = sX6_shows_38 := dn1 hX6_shows_37
theorem dX6_shows_38 : decode cX6_shows 38 = .ok (.ireturn, 1) := dk172 hX6_shows_38
theorem hX6_shows_39 : cX6_shows.data.toList.drop 39 = sX6_shows_39 := dn1 hX6_shows_38
theorem dX6_shows_39 : decode cX6_shows 39 = .ok (.aload_n 0, 1) := dk42 hX6_shows_39
theorem hX6_shows_40 : cX6_shows.data.toList.drop 40 = sX6_shows_40 := dn1 hX6_shows_39
theorem dX6_shows_40 : decode cX6_shows 40 = .ok (.getfield 54, 3) := dk180 hX6_shows_40 rfl
theorem hX6_shows_43 : cX6_shows.data.toList.drop 43 = sX6_shows_43 := dn3 hX6_shows_40
theorem dX6_shows_43 : decode cX6_shows 43 = .ok (.aload_n 0, 1) := dk42 hX6_shows_43
theorem hX6_shows_44 : cX6_shows.data.toList.drop 44 = sX6_shows_44 := dn1 hX6_shows_43
theorem dX6_shows_44 : decode cX6_shows 44 = .ok (.getfield 19, 3) := dk180 hX6_shows_44 rfl
theorem hX6_shows_47 : cX6_shows.data.toList.drop 47 = sX6_shows_47 := dn3 hX6_shows_44
theorem dX6_shows_47 : decode cX6_shows 47 = .ok (.aload_n 0, 1) := dk42 hX6_shows_47
theorem hX6_shows_48 : cX6_shows.data.toList.drop 48 = sX6_shows_48 := dn1 hX6_shows_47
theorem dX6_shows_48 : decode cX6_shows 48 = .ok (.getfield 26, 3) := dk180 hX6_shows_48 rfl
theorem hX6_shows_51 : cX6_shows.data.toList.drop 51 = sX6_shows_51 := dn3 hX6_shows_48
theorem dX6_shows_51 : decode cX6_shows 51 = .ok (.iload_n 1, 1) := dk27 hX6_shows_51
theorem hX6_shows_52 : cX6_shows.data.toList.drop 52 = sX6_shows_52 := dn1 hX6_shows_51
theorem dX6_shows_52 : decode cX6_shows 52 = .ok (.bipush 99, 2) := dk16 hX6_shows_52 (by decide)
theorem hX6_shows_54 : cX6_shows.data.toList.drop 54 = sX6_shows_54 := dn2 hX6_shows_52
theorem dX6_shows_54 : decode cX6_shows 54 = .ok (.invokevirtual 232, 3) := dk182 hX6_shows_54 rfl
theorem hX6_shows_57 : cX6_shows.data.toList.drop 57 = sX6_shows_57 := dn3 hX6_shows_54
theorem dX6_shows_57 : decode cX6_shows 57 = .ok (.istore 4, 2) := dk54 hX6_shows_57 rfl
theorem hX6_shows_59 : cX6_shows.data.toList.drop 59 = sX6_shows_59 := dn2 hX6_shows_57
theorem dX6_shows_59 : decode cX6_shows 59 = .ok (.iload_n 2, 1) := dk28 hX6_shows_59
theorem hX6_shows_60 : cX6_shows.data.toList.drop 60 = sX6_shows_60 := dn1 hX6_shows_59
theorem dX6_shows_60 : decode cX6_shows 60 = .ok (.iconst 1, 1) := dk4 hX6_shows_60
theorem hX6_shows_61 : cX6_shows.data.toList.drop 61 = sX6_shows_61 := dn1 hX6_shows_60
theorem dX6_shows_61 : decode cX6_shows 61 = .ok (.if_icmp .ne 23, 3) := dk160 hX6_shows_61 (by decide)
theorem hX6_shows_64 : cX6_shows.data.toList.drop 64 = sX6_shows_64 := dn3 hX6_shows_61
theorem dX6_shows_64 : decode cX6_shows 64 = .ok (.iload 4, 2) := dk21 hX6_shows_64 rfl
theorem hX6_shows_66 : cX6_shows.data.toList.drop 66 = sX6_shows_66 := dn2 hX6_shows_64
theorem dX6_shows_66 : decode cX6_shows 66 = .ok (.iload_n 3, 1) := dk29 hX6_shows_66
theorem hX6_shows_67 : cX6_shows.data.toList.drop 67 = sX6_shows_67 := dn1 hX6_shows_66
theorem dX6_shows_67 : decode cX6_shows 67 = .ok (.aload_n 0, 1) := dk42 hX6_shows_67
theorem hX6_shows_68 : cX6_shows.data.toList.drop 68 = sX6_shows_68 := dn1 hX6_shows_67
theorem dX6_shows_68 : decode cX6_shows 68 = .ok (.getfield 19, 3) := dk180 hX6_shows_68 rfl
theorem hX6_shows_71 : cX6_shows.data.toList.drop 71 = sX6_shows_71 := dn3 hX6_shows_68
theorem dX6_shows_71 : decode cX6_shows 71 = .ok (.getfield 159, 3) := dk180 hX6_shows_71 rfl
theorem hX6_shows_74 : cX6_shows.data.toList.drop 74 = sX6_shows_74 := dn3 hX6_shows_71
theorem dX6_shows_74 : decode cX6_shows 74 = .ok (.imul, 1) := dk104 hX6_shows_74
theorem hX6_shows_75 : cX6_shows.data.toList.drop 75 = sX6_shows_75 := dn1 hX6_shows_74
theorem dX6_shows_75 : decode cX6_shows 75 = .ok (.if_icmp .ge 7, 3) := dk162 hX6_shows_75 (by decide)
theorem hX6_shows_78 : cX6_shows.data.toList.drop 78 = sX6_shows_78 := dn3 hX6_shows_75
theorem dX6_shows_78 : decode cX6_shows 78 = .ok (.iconst 1, 1) := dk4 hX6_shows_78
theorem hX6_shows_79 : cX6_shows.data.toList.drop 79 = sX6_shows_79 := dn1 hX6_shows_78
theorem dX6_shows_79 : decode cX6_shows 79 = .ok (.goto 4, 3) := dk167 hX6_shows_79 (by decide)
theorem hX6_shows_82 : cX6_shows.data.toList.drop 82 = sX6_shows_82 := dn3 hX6_shows_79
theorem dX6_shows_82 : decode cX6_shows 82 = .ok (.iconst 0, 1) := dk3 hX6_shows_82
theorem hX6_shows_83 : cX6_shows.data.toList.drop 83 = sX6_shows_83 := dn1 hX6_shows_82
theorem dX6_shows_83 : decode cX6_shows 83 = .ok (.ireturn, 1) := dk172 hX6_shows_83
theorem hX6_shows_84 : cX6_shows.data.toList.drop 84 = sX6_shows_84 := dn1 hX6_shows_83
theorem dX6_shows_84 : decode cX6_shows 84 = .ok (.iload 4, 2) := dk21 hX6_shows_84 rfl
theorem hX6_shows_86 : cX6_shows.data.toList.drop 86 = sX6_shows_86 := dn2 hX6_shows_84
theorem dX6_shows_86 : decode cX6_shows 86 = .ok (.aload_n 0, 1) := dk42 hX6_shows_86
theorem hX6_shows_87 : cX6_shows.data.toList.drop 87 = sX6_shows_87 := dn1 hX6_shows_86
theorem dX6_shows_87 : decode cX6_shows 87 = .ok (.getfield 54, 3) := dk180 hX6_shows_87 rfl
theorem hX6_shows_90 : cX6_shows.data.toList.drop 90 = sX6_shows_90 := dn3 hX6_shows_87
theorem dX6_shows_90 : decode cX6_shows 90 = .ok (.aload_n 0, 1) := dk42 hX6_shows_90
theorem hX6_shows_91 : cX6_shows.data.toList.drop 91 = sX6_shows_91 := dn1 hX6_shows_90
theorem dX6_shows_91 : decode cX6_shows 91 = .ok (.getfield 19, 3) := dk180 hX6_shows_91 rfl
theorem hX6_shows_94 : cX6_shows.data.toList.drop 94 = sX6_shows_94 := dn3 hX6_shows_91
theorem dX6_shows_94 : decode cX6_shows 94 = .ok (.aload_n 0, 1) := dk42 hX6_shows_94
theorem hX6_shows_95 : cX6_shows.data.toList.drop 95 = sX6_shows_95 := dn1 hX6_shows_94
theorem dX6_shows_95 : decode cX6_shows 95 = .ok (.getfield 26, 3) := dk180 hX6_shows_95 rfl
theorem hX6_shows_98 : cX6_shows.data.toList.drop 98 = sX6_shows_98 := dn3 hX6_shows_95
theorem dX6_shows_98 : decode cX6_shows 98 = .ok (.iload_n 1, 1) := dk27 hX6_shows_98
theorem hX6_shows_99 : cX6_shows.data.toList.drop 99 = sX6_shows_99 := dn1 hX6_shows_98
theorem dX6_shows_99 : decode cX6_shows 99 = .ok (.iconst 0, 1) := dk3 hX6_shows_99
theorem hX6_shows_100 : cX6_shows.data.toList.drop 100 = sX6_shows_100 := dn1 hX6_shows_99
theorem dX6_shows_100 : decode cX6_shows 100 = .ok (.invokevirtual 232, 3) := dk182 hX6_shows_100 rfl
theorem hX6_shows_103 : cX6_shows.data.toList.drop 103 = sX6_shows_103 := dn3 hX6_shows_100
theorem dX6_shows_103 : decode cX6_shows 103 = .ok (.if_icmp .ne 7, 3) := dk160 hX6_shows_103 (by decide)
theorem hX6_shows_106 : cX6_shows.data.toList.drop 106 = sX6_shows_106 := dn3 hX6_shows_103
theorem dX6_shows_106 : decode cX6_shows 106 = .ok (.iconst 1, 1) := dk4 hX6_shows_106
theorem hX6_shows_107 : cX6_shows.data.toList.drop 107 = sX6_shows_107 := dn1 hX6_shows_106
theorem dX6_shows_107 : decode cX6_shows 107 = .ok (.goto 4, 3) := dk167 hX6_shows_107 (by decide)
theorem hX6_shows_110 : cX6_shows.data.toList.drop 110 = sX6_shows_110 := dn3 hX6_shows_107
theorem dX6_shows_110 : decode cX6_shows 110 = .ok (.iconst 0, 1) := dk3 hX6_shows_110
theorem hX6_shows_111 : cX6_shows.data.toList.drop 111 = sX6_shows_111 := dn1 hX6_shows_110
theorem dX6_shows_111 : decode cX6_shows 111 = .ok (.ireturn, 1) := dk172 hX6_shows_111
noncomputable def sX6_size_118 : List UInt8 := 172 :: []
noncomputable def sX6_size_117 : List UInt8 := 2 :: sX6_size_118
noncomputable def sX6_size_116 : List UInt8 := 172 :: sX6_size_117
noncomputable def sX6_size_113 : List UInt8 := 180 :: 0 :: 58 :: sX6_size_116
noncomputable def sX6_size_110 : List UInt8 := 180 :: 0 :: 10 :: sX6_size_113
noncomputable def sX6_size_109 : List UInt8 := 42 :: sX6_size_110
noncomputable def sX6_size_108 : List UInt8 := 172 :: sX6_size_109
noncomputable def sX6_size_105 : List UInt8 := 180 :: 0 :: 97 :: sX6_size_108
noncomputable def sX6_size_104 : List UInt8 := 42 :: sX6_size_105
noncomputable def sX6_size_103 : List UInt8 := 172 :: sX6_size_104
noncomputable def sX6_size_100 : List UInt8 := 180 :: 1 :: 94 :: sX6_size_103
noncomputable def sX6_size_97 : List UInt8 := 180 :: 0 :: 40 :: sX6_size_100
noncomputable def sX6_size_96 : List UInt8 := 42 :: sX6_size_97
noncomputable def sX6_size_95 : List UInt8 := 172 :: sX6_size_96
noncomputable def sX6_size_94 : List UInt8 := 3 :: sX6_size_95
noncomputable def sX6_size_91 : List UInt8 := 167 :: 0 :: 4 :: sX6_size_94
noncomputable def sX6_size_90 : List UInt8 := 4 :: sX6_size_91
noncomputable def sX6_size_87 : List UInt8 := 155 :: 0 :: 7 :: sX6_size_90
noncomputable def sX6_size_84 : List UInt8 := 180 :: 1 :: 53 :: sX6_size_87
noncomputable def sX6_size_81 : List UInt8 := 180 :: 0 :: 19 :: sX6_size_84
noncomputable def sX6_size_80 : List UInt8 := 42 :: sX6_size_81
noncomputable def sX6_size_79 : List UInt8 := 172 :: sX6_size_80
noncomputable def sX6_size_76 : List UInt8 := 180 :: 1 :: 59 :: sX6_size_79
noncomputable def sX6_size_73 : List UInt8 := 180 :: 0 :: 19 :: sX6_size_76
noncomputable def sX6_size_72 : List UInt8 := 42 :: sX6_size_73
noncomputable def sX6_size_71 : List UInt8 := 172 :: sX6_size_72
noncomputable def sX6_size_68 : List UInt8 := 180 :: 1 :: 114 :: sX6_size_71
noncomputable def sX6_size_65 : List UInt8 := 180 :: 0 :: 19 :: sX6_size_68
noncomputable def sX6_size_64 : List UInt8 := 42 :: sX6_size_65
noncomputable def sX6_size_63 : List UInt8 := 172 :: sX6_size_64
noncomputable def sX6_size_60 : List UInt8 := 180 :: 0 :: 103 :: sX6_size_63
noncomputable def sX6_size_57 : List UInt8 := 180 :: 0 :: 19 :: sX6_size_60
noncomputable def sX6_size_56 : List UInt8 := 42 :: sX6_size_57
noncomputable def sX6_size_55 : List UInt8 := 172 :: sX6_size_56
noncomputable def sX6_size_52 : List UInt8 := 180 :: 1 :: 111 :: sX6_size_55
noncomputable def sX6_size_49 : List UInt8 := 180 :: 0 :: 19 :: sX6_size_52
noncomputable def sX6_size_48 : List UInt8 := 42 :: sX6_size_49
noncomputable def sX6_size_1 : List UInt8 := [170, 0, 0, 0, 0, 0, 116, 0, 0, 0, 0, 0, 0, 0, 7, 0, 0, 0, 47, 0, 0, 0, 55, 0, 0, 0, 63, 0, 0, 0, 71, 0, 0, 0, 79, 0, 0, 0, 95, 0, 0, 0, 103, 0, 0, 0, 108] ++ sX6_size_48
noncomputable def sX6_size_0 : List UInt8 := 27 :: sX6_size_1
set_option maxRecDepth 100000 in
theorem hX6_size_0 : cX6_size.data.toList.drop 0 = sX6_size_0 := by decide +kernel
theorem dX6_size_0 : decode cX6_size 0 = .ok (.iload_n 1, 1) := dk27 hX6_size_0
theorem hX6_size_1 : cX6_size.data.toList.drop 1 = sX6_size_1 := dn1 hX6_size_0
set_option maxRecDepth 100000 in
theorem dX6_size_1 : decode cX6_size 1 = .ok (.tableswitch 116 0 7 #[47, 55, 63, 71, 79, 95, 103, 108], 47) := by decide +kernel
theorem hX6_size_48 : cX6_size.data.toList.drop 48 = sX6_size_48 := dnl (n := 47) hX6_size_1 rfl
theorem dX6_size_48 : decode cX6_size 48 = .ok (.aload_n 0, 1) := dk42 hX6_size_48
theorem hX6_size_49 : cX6_size.data.toList.drop 49 = sX6_size_49 := dn1 hX6_size_48
theorem dX6_size_49 : decode cX6_size 49 = .ok (.getfield 19, 3) := dk180 hX6_size_49 rfl
theorem hX6_size_52 : cX6_size.data.toList.drop 52 = sX6_size_52 := dn3 hX6_size_49
theorem dX6_size_52 : decode cX6_size 52 = .ok (.getfield 367, 3) := dk180 hX6_size_52 rfl
theorem hX6_size_55 : cX6_size.data.toList.drop 55 = sX6_size_55 := dn3 hX6_size_52
theorem dX6_size_55 : decode cX6_size 55 = .ok (.ireturn, 1) := dk172 hX6_size_55
theorem hX6_size_56 : cX6_size.data.toList.drop 56 = sX6_size_56 := dn1 hX6_size_55
theorem dX6_size_56 : decode cX6_size 56 = .ok (.aload_n 0, 1) := dk42 hX6_size_56
theorem hX6_size_57 : cX6_size.data.toList.drop 57 = sX6_size_57 := dn1 hX6_size_56
theorem dX6_size_57 : decode cX6_size 57 = .ok (.getfield 19, 3) := dk180 hX6_size_57 rfl
theorem hX6_size_60 : cX6_size.data.toList.drop 60 = sX6_size_60 := dn3 hX6_size_57
theorem dX6_size_60 : decode cX6_size 60 = .ok (.getfield 103, 3) := dk180 hX6_size_60 rfl
theorem hX6_size_63 : cX6_size.data.toList.drop 63 = sX6_size_63 := dn3 hX6_size_60
theorem dX6_size_63 : decode cX6_size 63 = .ok (.ireturn, 1) := dk172 hX6_size_63
theorem hX6_size_64 : cX6_size.data.toList.drop 64 = sX6_size_64 := dn1 hX6_size_63
theorem dX6_size_64 : decode cX6_size 64 = .ok (.aload_n 0, 1) := dk42 hX6_size_64
theorem hX6_size_65 : cX6_size.data.toList.drop 65 = sX6_size_65 := dn1 hX6_size_64
theorem dX6_size_65 : decode cX6_size 65 = .ok (.getfield 19, 3) := dk180 hX6_size_65 rfl
theorem hX6_size_68 : cX6_size.data.toList.drop 68 = sX6_size_68 := dn3 hX6_size_65
theorem dX6_size_68 : decode cX6_size 68 = .ok (.getfield 370, 3) := dk180 hX6_size_68 rfl
theorem hX6_size_71 : cX6_size.data.toList.drop 71 = sX6_size_71 := dn3 hX6_size_68
theorem dX6_size_71 : decode cX6_size 71 = .ok (.ireturn, 1) := dk172 hX6_size_71
theorem hX6_size_72 : cX6_size.data.toList.drop 72 = sX6_size_72 := dn1 hX6_size_71
theorem dX6_size_72 : decode cX6_size 72 = .ok (.aload_n 0, 1) := dk42 hX6_size_72
theorem hX6_size_73 : cX6_size.data.toList.drop 73 = sX6_size_73 := dn1 hX6_size_72
theorem dX6_size_73 : decode cX6_size 73 = .ok (.getfield 19, 3) := dk180 hX6_size_73 rfl
theorem hX6_size_76 : cX6_size.data.toList.drop 76 = sX6_size_76 := dn3 hX6_size_73
theorem dX6_size_76 : decode cX6_size 76 = .ok (.getfield 315, 3) := dk180 hX6_size_76 rfl
theorem hX6_size_79 : cX6_size.data.toList.drop 79 = sX6_size_79 := dn3 hX6_size_76
theorem dX6_size_79 : decode cX6_size 79 = .ok (.ireturn, 1) := dk172 hX6_size_79
theorem hX6_size_80 : cX6_size.data.toList.drop 80 = sX6_size_80 := dn1 hX6_size_79
theorem dX6_size_80 : decode cX6_size 80 = .ok (.aload_n 0, 1) := dk42 hX6_size_80
theorem hX6_size_81 : cX6_size.data.toList.drop 81 = sX6_size_81 := dn1 hX6_size_80
theorem dX6_size_81 : decode cX6_size 81 = .ok (.getfield 19, 3) := dk180 hX6_size_81 rfl
theorem hX6_size_84 : cX6_size.data.toList.drop 84 = sX6_size_84 := dn3 hX6_size_81
theorem dX6_size_84 : decode cX6_size 84 = .ok (.getfield 309, 3) := dk180 hX6_size_84 rfl
theorem hX6_size_87 : cX6_size.data.toList.drop 87 = sX6_size_87 := dn3 hX6_size_84
theorem dX6_size_87 : decode cX6_size 87 = .ok (.ifCond .lt 7, 3) := dk155 hX6_size_87 (by decide)
theorem hX6_size_90 : cX6_size.data.toList.drop 90 = sX6_size_90 := dn3 hX6_size_87
theorem dX6_size_90 : decode cX6_size 90 = .ok (.iconst 1, 1) := dk4 hX6_size_90
theorem hX6_size_91 : cX6_size.data.toList.drop 91 = sX6_size_91 := dn1 hX6_size_90
theorem dX6_size_91 : decode cX6_size 91 = .ok (.goto 4, 3) := dk167 hX6_size_91 (by decide)
theorem hX6_size_94 : cX6_size.data.toList.drop 94 = sX6_size_94 := dn3 hX6_size_91
theorem dX6_size_94 : decode cX6_size 94 = .ok (.iconst 0, 1) := dk3 hX6_size_94
theorem hX6_size_95 : cX6_size.data.toList.drop 95 = sX6_size_95 := dn1 hX6_size_94
theorem dX6_size_95 : decode cX6_size 95 = .ok (.ireturn, 1) := dk172 hX6_size_95
theorem hX6_size_96 : cX6_size.data.toList.drop 96 = sX6_size_96 := dn1 hX6_size_95
theorem dX6_size_96 : decode cX6_size 96 = .ok (.aload_n 0, 1) := dk42 hX6_size_96
theorem hX6_size_97 : cX6_size.data.toList.drop 97 = sX6_size_97 := dn1 hX6_size_96
theorem dX6_size_97 : decode cX6_size 97 = .ok (.getfield 40, 3) := dk180 hX6_size_97 rfl
theorem hX6_size_100 : cX6_size.data.toList.drop 100 = sX6_size_100 := dn3 hX6_size_97
theorem dX6_size_100 : decode cX6_size 100 = .ok (.getfield 350, 3) := dk180 hX6_size_100 rfl
theorem hX6_size_103 : cX6_size.data.toList.drop 103 = sX6_size_103 := dn3 hX6_size_100
theorem dX6_size_103 : decode cX6_size 103 = .ok (.ireturn, 1) := dk172 hX6_size_103
theorem hX6_size_104 : cX6_size.data.toList.drop 104 = sX6_size_104 := dn1 hX6_size_103
theorem dX6_size_104 : decode cX6_size 104 = .ok (.aload_n 0, 1) := dk42 hX6_size_104
theorem hX6_size_105 : cX6_size.data.toList.drop 105 = sX6_size_105 := dn1 hX6_size_104
theorem dX6_size_105 : decode cX6_size 105 = .ok (.getfield 97, 3) := dk180 hX6_size_105 rfl
theorem hX6_size_108 : cX6_size.data.toList.drop 108 = sX6_size_108 := dn3 hX6_size_105
theorem dX6_size_108 : decode cX6_size 108 = .ok (.ireturn, 1) := dk172 hX6_size_108
theorem hX6_size_109 : cX6_size.data.toList.drop 109 = sX6_size_109 := dn1 hX6_size_108
theorem dX6_size_109 : decode cX6_size 109 = .ok (.aload_n 0, 1) := dk42 hX6_size_109
theorem hX6_size_110 : cX6_size.data.toList.drop 110 = sX6_size_110 := dn1 hX6_size_109
theorem dX6_size_110 : decode cX6_size 110 = .ok (.getfield 10, 3) := dk180 hX6_size_110 rfl
theorem hX6_size_113 : cX6_size.data.toList.drop 113 = sX6_size_113 := dn3 hX6_size_110
theorem dX6_size_113 : decode cX6_size 113 = .ok (.getfield 58, 3) := dk180 hX6_size_113 rfl
theorem hX6_size_116 : cX6_size.data.toList.drop 116 = sX6_size_116 := dn3 hX6_size_113
theorem dX6_size_116 : decode cX6_size 116 = .ok (.ireturn, 1) := dk172 hX6_size_116
theorem hX6_size_117 : cX6_size.data.toList.drop 117 = sX6_size_117 := dn1 hX6_size_116
theorem dX6_size_117 : decode cX6_size 117 = .ok (.iconst (-1), 1) := dk2 hX6_size_117
theorem hX6_size_118 : cX6_size.data.toList.drop 118 = sX6_size_118 := dn1 hX6_size_117
theorem dX6_size_118 : decode cX6_size 118 = .ok (.ireturn, 1) := dk172 hX6_size_118
noncomputable def sX6_speaks_34 : List UInt8 := 172 :: []
noncomputable def sX6_speaks_31 : List UInt8 := 184 :: 1 :: 70 :: sX6_speaks_34
noncomputable def sX6_speaks_30 : List UInt8 := 29 :: sX6_speaks_31
noncomputable def sX6_speaks_29 : List UInt8 := 28 :: sX6_speaks_30
noncomputable def sX6_speaks_28 : List UInt8 := 27 :: sX6_speaks_29
noncomputable def sX6_speaks_25 : List UInt8 := 167 :: 0 :: 9 :: sX6_speaks_28
noncomputable def sX6_speaks_22 : List UInt8 := 184 :: 1 :: 70 :: sX6_speaks_25
noncomputable def sX6_speaks_21 : List UInt8 := 28 :: sX6_speaks_22
noncomputable def sX6_speaks_20 : List UInt8 := 29 :: sX6_speaks_21
noncomputable def sX6_speaks_19 : List UInt8 := 27 :: sX6_speaks_20
noncomputable def sX6_speaks_16 : List UInt8 := 153 :: 0 :: 12 :: sX6_speaks_19
noncomputable def sX6_speaks_14 : List UInt8 := 21 :: 4 :: sX6_speaks_16
noncomputable def sX6_speaks_13 : List UInt8 := 172 :: sX6_speaks_14
noncomputable def sX6_speaks_11 : List UInt8 := 16 :: 156 :: sX6_speaks_13
noncomputable def sX6_speaks_8 : List UInt8 := 153 :: 0 :: 6 :: sX6_speaks_11
noncomputable def sX6_speaks_5 : List UInt8 := 182 :: 0 :: 203 :: sX6_speaks_8
noncomputable def sX6_speaks_3 : List UInt8 := 16 :: 9 :: sX6_speaks_5
noncomputable def sX6_speaks_2 : List UInt8 := 3 :: sX6_speaks_3
noncomputable def sX6_speaks_1 : List UInt8 := 27 :: sX6_speaks_2
noncomputable def sX6_speaks_0 : List UInt8 := 42 :: sX6_speaks_1
set_option maxRecDepth 100000 in
theorem hX6_speaks_0 : cX6_speaks.data.toList.drop 0 = sX6_speaks_0 := by decide +kernel
theorem dX6_speaks_0 : decode cX6_speaks 0 = .ok (.aload_n 0, 1) := dk42 hX6_speaks_0
theorem hX6_speaks_1 : cX6_speaks.data.toList.drop 1 = sX6_speaks_1 := dn1 hX6_speaks_0
theorem dX6_speaks_1 : decode cX6_speaks 1 = .ok (.iload_n 1, 1) := dk27 hX6_speaks_1
theorem hX6_speaks_2 : cX6_speaks.data.toList.drop 2 = sX6_speaks_2 := dn1 hX6_speaks_1
theorem dX6_speaks_2 : decode cX6_speaks 2 = .ok (.iconst 0, 1) := dk3 hX6_speaks_2
theorem hX6_speaks_3 : cX6_speaks.data.toList.drop 3 = sX6_speaks_3 := dn1 hX6_speaks_2
theorem dX6_speaks_3 : decode cX6_speaks 3 = .ok (.bipush 9, 2) := dk16 hX6_speaks_3 (by decide)
theorem hX6_speaks_5 : cX6_speaks.data.toList.drop 5 = sX6_speaks_5 := dn2 hX6_speaks_3
theorem dX6_speaks_5 : decode cX6_speaks 5 = .ok (.invokevirtual 203, 3) := dk182 hX6_speaks_5 rfl
theorem hX6_speaks_8 : cX6_speaks.data.toList.drop 8 = sX6_speaks_8 := dn3 hX6_speaks_5
theorem dX6_speaks_8 : decode cX6_speaks 8 = .ok (.ifCond .eq 6, 3) := dk153 hX6_speaks_8 (by decide)
theorem hX6_speaks_11 : cX6_speaks.data.toList.drop 11 = sX6_speaks_11 := dn3 hX6_speaks_8
theorem dX6_speaks_11 : decode cX6_speaks 11 = .ok (.bipush (-100), 2) := dk16 hX6_speaks_11 (by decide)
theorem hX6_speaks_13 : cX6_speaks.data.toList.drop 13 = sX6_speaks_13 := dn2 hX6_speaks_11
theorem dX6_speaks_13 : decode cX6_speaks 13 = .ok (.ireturn, 1) := dk172 hX6_speaks_13
theorem hX6_speaks_14 : cX6_speaks.data.toList.drop 14 = sX6_speaks_14 := dn1 hX6_speaks_13
theorem dX6_speaks_14 : decode cX6_speaks 14 = .ok (.iload 4, 2) := dk21 hX6_speaks_14 rfl
theorem hX6_speaks_16 : cX6_speaks.data.toList.drop 16 = sX6_speaks_16 := dn2 hX6_speaks_14
theorem dX6_speaks_16 : decode cX6_speaks 16 = .ok (.ifCond .eq 12, 3) := dk153 hX6_speaks_16 (by decide)
theorem hX6_speaks_19 : cX6_speaks.data.toList.drop 19 = sX6_speaks_19 := dn3 hX6_speaks_16
theorem dX6_speaks_19 : decode cX6_speaks 19 = .ok (.iload_n 1, 1) := dk27 hX6_speaks_19
theorem hX6_speaks_20 : cX6_speaks.data.toList.drop 20 = sX6_speaks_20 := dn1 hX6_speaks_19
theorem dX6_speaks_20 : decode cX6_speaks 20 = .ok (.iload_n 3, 1) := dk29 hX6_speaks_20
theorem hX6_speaks_21 : cX6_speaks.data.toList.drop 21 = sX6_speaks_21 := dn1 hX6_speaks_20
theorem dX6_speaks_21 : decode cX6_speaks 21 = .ok (.iload_n 2, 1) := dk28 hX6_speaks_21
theorem hX6_speaks_22 : cX6_speaks.data.toList.drop 22 = sX6_speaks_22 := dn1 hX6_speaks_21
theorem dX6_speaks_22 : decode cX6_speaks 22 = .ok (.invokestatic 326, 3) := dk184 hX6_speaks_22 rfl
theorem hX6_speaks_25 : cX6_speaks.data.toList.drop 25 = sX6_speaks_25 := dn3 hX6_speaks_22
theorem dX6_speaks_25 : decode cX6_speaks 25 = .ok (.goto 9, 3) := dk167 hX6_speaks_25 (by decide)
theorem hX6_speaks_28 : cX6_speaks.data.toList.drop 28 = sX6_speaks_28 := dn3 hX6_speaks_25
theorem dX6_speaks_28 : decode cX6_speaks 28 = .ok (.iload_n 1, 1) := dk27 hX6_speaks_28
theorem hX6_speaks_29 : cX6_speaks.data.toList.drop 29 = sX6_speaks_29 := dn1 hX6_speaks_28
theorem dX6_speaks_29 : decode cX6_speaks 29 = .ok (.iload_n 2, 1) := dk28 hX6_speaks_29
theorem hX6_speaks_30 : cX6_speaks.data.toList.drop 30 = sX6_speaks_30 := dn1 hX6_speaks_29
theorem dX6_speaks_30 : decode cX6_speaks 30 = .ok (.iload_n 3, 1) := dk29 hX6_speaks_30
theorem hX6_speaks_31 : cX6_speaks.data.toList.drop 31 = sX6_speaks_31 := dn1 hX6_speaks_30
theorem dX6_speaks_31 : decode cX6_speaks 31 = .ok (.invokestatic 326, 3) := dk184 hX6_speaks_31 rfl
theorem hX6_speaks_34 : cX6_speaks.data.toList.drop 34 = sX6_speaks_34 := dn3 hX6_speaks_31
theorem dX6_speaks_34 : decode cX6_speaks 34 = .ok (.ireturn, 1) := dk172 hX6_speaks_34
noncomputable def sX6_sure_17 : List UInt8 := 172 :: []
noncomputable def sX6_sure_14 : List UInt8 := 182 :: 0 :: 221 :: sX6_sure_17
noncomputable def sX6_sure_13 : List UInt8 := 3 :: sX6_sure_14
noncomputable def sX6_sure_12 : List UInt8 := 5 :: sX6_sure_13
noncomputable def sX6_sure_11 : List UInt8 := 42 :: sX6_sure_12
noncomputable def sX6_sure_8 : List UInt8 := 167 :: 0 :: 9 :: sX6_sure_11
noncomputable def sX6_sure_7 : List UInt8 := 2 :: sX6_sure_8
noncomputable def sX6_sure_4 : List UInt8 := 153 :: 0 :: 7 :: sX6_sure_7
noncomputable def sX6_sure_1 : List UInt8 := 182 :: 0 :: 140 :: sX6_sure_4
noncomputable def sX6_sure_0 : List UInt8 := 42 :: sX6_sure_1
set_option maxRecDepth 100000 in
theorem hX6_sure_0 : cX6_sure.data.toList.drop 0 = sX6_sure_0 := by decide +kernel
theorem dX6_sure_0 : decode cX6_sure 0 = .ok (.aload_n 0, 1) := dk42 hX6_sure_0
theorem hX6_sure_1 : cX6_sure.data.toList.drop 1 = sX6_sure_1 := dn1 hX6_sure_0
theorem dX6_sure_1 : decode cX6_sure 1 = .ok (.invokevirtual 140, 3) := dk182 hX6_sure_1 rfl
theorem hX6_sure_4 : cX6_sure.data.toList.drop 4 = sX6_sure_4 := dn3 hX6_sure_1
theorem dX6_sure_4 : decode cX6_sure 4 = .ok (.ifCond .eq 7, 3) := dk153 hX6_sure_4 (by decide)
theorem hX6_sure_7 : cX6_sure.data.toList.drop 7 = sX6_sure_7 := dn3 hX6_sure_4
theorem dX6_sure_7 : decode cX6_sure 7 = .ok (.iconst (-1), 1) := dk2 hX6_sure_7
theorem hX6_sure_8 : cX6_sure.data.toList.drop 8 = sX6_sure_8 := dn1 hX6_sure_7
theorem dX6_sure_8 : decode cX6_sure 8 = .ok (.goto 9, 3) := dk167 hX6_sure_8 (by decide)
theorem hX6_sure_11 : cX6_sure.data.toList.drop 11 = sX6_sure_11 := dn3 hX6_sure_8
theorem dX6_sure_11 : decode cX6_sure 11 = .ok (.aload_n 0, 1) := dk42 hX6_sure_11
theorem hX6_sure_12 : cX6_sure.data.toList.drop 12 = sX6_sure_12 := dn1 hX6_sure_11
theorem dX6_sure_12 : decode cX6_sure 12 = .ok (.iconst 2, 1) := dk5 hX6_sure_12
theorem hX6_sure_13 : cX6_sure.data.toList.drop 13 = sX6_sure_13 := dn1 hX6_sure_12
theorem dX6_sure_13 : decode cX6_sure 13 = .ok (.iconst 0, 1) := dk3 hX6_sure_13
theorem hX6_sure_14 : cX6_sure.data.toList.drop 14 = sX6_sure_14 := dn1 hX6_sure_13
theorem dX6_sure_14 : decode cX6_sure 14 = .ok (.invokevirtual 221, 3) := dk182 hX6_sure_14 rfl
theorem hX6_sure_17 : cX6_sure.data.toList.drop 17 = sX6_sure_17 := dn3 hX6_sure_14
theorem dX6_sure_17 : decode cX6_sure 17 = .ok (.ireturn, 1) := dk172 hX6_sure_17
noncomputable def sX6_surely_65 : List UInt8 := 172 :: []
noncomputable def sX6_surely_64 : List UInt8 := 28 :: sX6_surely_65
noncomputable def sX6_surely_61 : List UInt8 := 167 :: 255 :: 229 :: sX6_surely_64
noncomputable def sX6_surely_58 : List UInt8 := 132 :: 3 :: 1 :: sX6_surely_61
noncomputable def sX6_surely_57 : List UInt8 := 61 :: sX6_surely_58
noncomputable def sX6_surely_56 : List UInt8 := 126 :: sX6_surely_57
noncomputable def sX6_surely_55 : List UInt8 := 29 :: sX6_surely_56
noncomputable def sX6_surely_54 : List UInt8 := 28 :: sX6_surely_55
noncomputable def sX6_surely_51 : List UInt8 := 160 :: 0 :: 7 :: sX6_surely_54
noncomputable def sX6_surely_50 : List UInt8 := 4 :: sX6_surely_51
noncomputable def sX6_surely_49 : List UInt8 := 126 :: sX6_surely_50
noncomputable def sX6_surely_48 : List UInt8 := 4 :: sX6_surely_49
noncomputable def sX6_surely_47 : List UInt8 := 122 :: sX6_surely_48
noncomputable def sX6_surely_46 : List UInt8 := 29 :: sX6_surely_47
noncomputable def sX6_surely_45 : List UInt8 := 27 :: sX6_surely_46
noncomputable def sX6_surely_42 : List UInt8 := 162 :: 0 :: 22 :: sX6_surely_45
noncomputable def sX6_surely_39 : List UInt8 := 182 :: 1 :: 34 :: sX6_surely_42
noncomputable def sX6_surely_36 : List UInt8 := 180 :: 0 :: 19 :: sX6_surely_39
noncomputable def sX6_surely_35 : List UInt8 := 42 :: sX6_surely_36
noncomputable def sX6_surely_34 : List UInt8 := 29 :: sX6_surely_35
noncomputable def sX6_surely_33 : List UInt8 := 62 :: sX6_surely_34
noncomputable def sX6_surely_32 : List UInt8 := 3 :: sX6_surely_33
noncomputable def sX6_surely_31 : List UInt8 := 61 :: sX6_surely_32
noncomputable def sX6_surely_30 : List UInt8 := 100 :: sX6_surely_31
noncomputable def sX6_surely_29 : List UInt8 := 4 :: sX6_surely_30
noncomputable def sX6_surely_26 : List UInt8 := 182 :: 1 :: 34 :: sX6_surely_29
noncomputable def sX6_surely_23 : List UInt8 := 180 :: 0 :: 19 :: sX6_surely_26
noncomputable def sX6_surely_22 : List UInt8 := 42 :: sX6_surely_23
noncomputable def sX6_surely_19 : List UInt8 := 167 :: 0 :: 12 :: sX6_surely_22
noncomputable def sX6_surely_18 : List UInt8 := 3 :: sX6_surely_19
noncomputable def sX6_surely_15 : List UInt8 := 154 :: 0 :: 7 :: sX6_surely_18
noncomputable def sX6_surely_14 : List UInt8 := 27 :: sX6_surely_15
noncomputable def sX6_surely_13 : List UInt8 := 60 :: sX6_surely_14
noncomputable def sX6_surely_10 : List UInt8 := 182 :: 1 :: 31 :: sX6_surely_13
noncomputable def sX6_surely_9 : List UInt8 := 42 :: sX6_surely_10
noncomputable def sX6_surely_8 : List UInt8 := 172 :: sX6_surely_9
noncomputable def sX6_surely_7 : List UInt8 := 2 :: sX6_surely_8
noncomputable def sX6_surely_4 : List UInt8 := 153 :: 0 :: 5 :: sX6_surely_7
noncomputable def sX6_surely_1 : List UInt8 := 182 :: 0 :: 140 :: sX6_surely_4
noncomputable def sX6_surely_0 : List UInt8 := 42 :: sX6_surely_1
set_option maxRecDepth 100000 in
theorem hX6_surely_0 : cX6_surely.data.toList.drop 0 = sX6_surely_0 := by decide +kernel
theorem dX6_surely_0 : decode cX6_surely 0 = .ok (.aload_n 0, 1) := dk42 hX6_surely_0
theorem hX6_surely_1 : cX6_surely.data.toList.drop 1 = sX6_surely_1 := dn1 hX6_surely_0
theorem dX6_surely_1 : decode cX6_surely 1 = .ok (.invokevirtual 140, 3) := dk182 hX6_surely_1 rfl
theorem hX6_surely_4 : cX6_surely.data.toList.drop 4 = sX6_surely_4 := dn3 hX6_surely_1
theorem dX6_surely_4 : decode cX6_surely 4 = .ok (.ifCond .eq 5, 3) := dk153 hX6_surely_4 (by decide)
theorem hX6_surely_7 : cX6_surely.data.toList.drop 7 = sX6_surely_7 := dn3 hX6_surely_4
theorem dX6_surely_7 : decode cX6_surely 7 = .ok (.iconst (-1), 1) := dk2 hX6_surely_7
theorem hX6_surely_8 : cX6_surely.data.toList.drop 8 = sX6_surely_8 := dn1 hX6_surely_7
theorem dX6_surely_8 : decode cX6_surely 8 = .ok (.ireturn, 1) := dk172 hX6_surely_8
theorem hX6_surely_9 : cX6_surely.data.toList.drop 9 = sX6_surely_9 := dn1 hX6_surely_8
theorem dX6_surely_9 : decode cX6_surely 9 = .ok (.aload_n 0, 1) := dk42 hX6_surely_9
theorem hX6_surely_10 : cX6_surely.data.toList.drop 10 = sX6_surely_10 := dn1 hX6_surely_9
theorem dX6_surely_10 : decode cX6_surely 10 = .ok (.invokevirtual 287, 3) := dk182 hX6_surely_10 rfl
theorem hX6_surely_13 : cX6_surely.data.toList.drop 13 = sX6_surely_13 := dn3 hX6_surely_10
theorem dX6_surely_13 : decode cX6_surely 13 = .ok (.istore_n 1, 1) := dk60 hX6_surely_13
theorem hX6_surely_14 : cX6_surely.data.toList.drop 14 = sX6_surely_14 := dn1 hX6_surely_13
theorem dX6_surely_14 : decode cX6_surely 14 = .ok (.iload_n 1, 1) := dk27 hX6_surely_14
theorem hX6_surely_15 : cX6_surely.data.toList.drop 15 = sX6_surely_15 := dn1 hX6_surely_14
theorem dX6_surely_15 : decode cX6_surely 15 = .ok (.ifCond .ne 7, 3) := dk154 hX6_surely_15 (by decide)
theorem hX6_surely_18 : cX6_surely.data.toList.drop 18 = sX6_surely_18 := dn3 hX6_surely_15
theorem dX6_surely_18 : decode cX6_surely 18 = .ok (.iconst 0, 1) := dk3 hX6_surely_18
theorem hX6_surely_19 : cX6_surely.data.toList.drop 19 = sX6_surely_19 := dn1 hX6_surely_18
theorem dX6_surely_19 : decode cX6_surely 19 = .ok (.goto 12, 3) := dk167 hX6_surely_19 (by decide)
theorem hX6_surely_22 : cX6_surely.data.toList.drop 22 = sX6_surely_22 := dn3 hX6_surely_19
theorem dX6_surely_22 : decode cX6_surely 22 = .ok (.aload_n 0, 1) := dk42 hX6_surely_22
theorem hX6_surely_23 : cX6_surely.data.toList.drop 23 = sX6_surely_23 := dn1 hX6_surely_22
theorem dX6_surely_23 : decode cX6_surely 23 = .ok (.getfield 19, 3) := dk180 hX6_surely_23 rfl
theorem hX6_surely_26 : cX6_surely.data.toList.drop 26 = sX6_surely_26 := dn3 hX6_surely_23
theorem dX6_surely_26 : decode cX6_surely 26 = .ok (.invokevirtual 290, 3) := dk182 hX6_surely_26 rfl
theorem hX6_surely_29 : cX6_surely.data.toList.drop 29 = sX6_surely_29 := dn3 hX6_surely_26
theorem dX6_surely_29 : decode cX6_surely 29 = .ok (.iconst 1, 1) := dk4 hX6_surely_29
theorem hX6_surely_30 : cX6_surely.data.toList.drop 30 = sX6_surely_30 := dn1 hX6_surely_29
theorem dX6_surely_30 : decode cX6_surely 30 = .ok (.isub, 1) := dk100 hX6_surely_30
theorem hX6_surely_31 : cX6_surely.data.toList.drop 31 = sX6_surely_31 := dn1 hX6_surely_30
theorem dX6_surely_31 : decode cX6_surely 31 = .ok (.istore_n 2, 1) := dk61 hX6_surely_31
theorem hX6_surely_32 : cX6_surely.data.toList.drop 32 = sX6_surely_32 := dn1 hX6_surely_31
theorem dX6_surely_32 : decode cX6_surely 32 = .ok (.iconst 0, 1) := dk3 hX6_surely_32
theorem hX6_surely_33 : cX6_surely.data.toList.drop 33 = sX6_surely_33 := dn1 hX6_surely_32
theorem dX6_surely_33 : decode cX6_surely 33 = .ok (.istore_n 3, 1) := dk62 hX6_surely_33
theorem hX6_surely_34 : cX6_surely.data.toList.drop 34 = sX6_surely_34 := dn1 hX6_surely_33
theorem dX6_surely_34 : decode cX6_surely 34 = .ok (.iload_n 3, 1) := dk29 hX6_surely_34
theorem hX6_surely_35 : cX6_surely.data.toList.drop 35 = sX6_surely_35 := dn1 hX6_surely_34
theorem dX6_surely_35 : decode cX6_surely 35 = .ok (.aload_n 0, 1) := dk42 hX6_surely_35
theorem hX6_surely_36 : cX6_surely.data.toList.drop 36 = sX6_surely_36 := dn1 hX6_surely_35
theorem dX6_surely_36 : decode cX6_surely 36 = .ok (.getfield 19, 3) := dk180 hX6_surely_36 rfl
theorem hX6_surely_39 : cX6_surely.data.toList.drop 39 = sX6_surely_39 := dn3 hX6_surely_36
theorem dX6_surely_39 : decode cX6_surely 39 = .ok (.invokevirtual 290, 3) := dk182 hX6_surely_39 rfl
theorem hX6_surely_42 : cX6_surely.data.toList.drop 42 = sX6_surely_42 := dn3 hX6_surely_39
theorem dX6_surely_42 : decode cX6_surely 42 = .ok (.if_icmp .ge 22, 3) := dk162 hX6_surely_42 (by decide)
theorem hX6_surely_45 : cX6_surely.data.toList.drop 45 = sX6_surely_45 := dn3 hX6_surely_42
theorem dX6_surely_45 : decode cX6_surely 45 = .ok (.iload_n 1, 1) := dk27 hX6_surely_45
theorem hX6_surely_46 : cX6_surely.data.toList.drop 46 = sX6_surely_46 := dn1 hX6_surely_45
theorem dX6_surely_46 : decode cX6_surely 46 = .ok (.iload_n 3, 1) := dk29 hX6_surely_46
theorem hX6_surely_47 : cX6_surely.data.toList.drop 47 = sX6_surely_47 := dn1 hX6_surely_46
theorem dX6_surely_47 : decode cX6_surely 47 = .ok (.ishr, 1) := dk122 hX6_surely_47
theorem hX6_surely_48 : cX6_surely.data.toList.drop 48 = sX6_surely_48 := dn1 hX6_surely_47
theorem dX6_surely_48 : decode cX6_surely 48 = .ok (.iconst 1, 1) := dk4 hX6_surely_48
theorem hX6_surely_49 : cX6_surely.data.toList.drop 49 = sX6_surely_49 := dn1 hX6_surely_48
theorem dX6_surely_49 : decode cX6_surely 49 = .ok (.iand, 1) := dk126 hX6_surely_49
theorem hX6_surely_50 : cX6_surely.data.toList.drop 50 = sX6_surely_50 := dn1 hX6_surely_49
theorem dX6_surely_50 : decode cX6_surely 50 = .ok (.iconst 1, 1) := dk4 hX6_surely_50
theorem hX6_surely_51 : cX6_surely.data.toList.drop 51 = sX6_surely_51 := dn1 hX6_surely_50
theorem dX6_surely_51 : decode cX6_surely 51 = .ok (.if_icmp .ne 7, 3) := dk160 hX6_surely_51 (by decide)
theorem hX6_surely_54 : cX6_surely.data.toList.drop 54 = sX6_surely_54 := dn3 hX6_surely_51
theorem dX6_surely_54 : decode cX6_surely 54 = .ok (.iload_n 2, 1) := dk28 hX6_surely_54
theorem hX6_surely_55 : cX6_surely.data.toList.drop 55 = sX6_surely_55 := dn1 hX6_surely_54
theorem dX6_surely_55 : decode cX6_surely 55 = .ok (.iload_n 3, 1) := dk29 hX6_surely_55
theorem hX6_surely_56 : cX6_surely.data.toList.drop 56 = sX6_surely_56 := dn1 hX6_surely_55
theorem dX6_surely_56 : decode cX6_surely 56 = .ok (.iand, 1) := dk126 hX6_surely_56
theorem hX6_surely_57 : cX6_surely.data.toList.drop 57 = sX6_surely_57 := dn1 hX6_surely_56
theorem dX6_surely_57 : decode cX6_surely 57 = .ok (.istore_n 2, 1) := dk61 hX6_surely_57
theorem hX6_surely_58 : cX6_surely.data.toList.drop 58 = sX6_surely_58 := dn1 hX6_surely_57
theorem dX6_surely_58 : decode cX6_surely 58 = .ok (.iinc 3 1, 3) := dk132 hX6_surely_58 rfl (by decide)
theorem hX6_surely_61 : cX6_surely.data.toList.drop 61 = sX6_surely_61 := dn3 hX6_surely_58
theorem dX6_surely_61 : decode cX6_surely 61 = .ok (.goto (-27), 3) := dk167 hX6_surely_61 (by decide)
theorem hX6_surely_64 : cX6_surely.data.toList.drop 64 = sX6_surely_64 := dn3 hX6_surely_61
theorem dX6_surely_64 : decode cX6_surely 64 = .ok (.iload_n 2, 1) := dk28 hX6_surely_64
theorem hX6_surely_65 : cX6_surely.data.toList.drop 65 = sX6_surely_65 := dn1 hX6_surely_64
theorem dX6_surely_65 : decode cX6_surely 65 = .ok (.ireturn, 1) := dk172 hX6_surely_65
noncomputable def sX6_throne_18 : List UInt8 := 172 :: []
noncomputable def sX6_throne_15 : List UInt8 := 180 :: 0 :: 144 :: sX6_throne_18
noncomputable def sX6_throne_12 : List UInt8 := 180 :: 0 :: 19 :: sX6_throne_15
noncomputable def sX6_throne_11 : List UInt8 := 42 :: sX6_throne_12
noncomputable def sX6_throne_8 : List UInt8 := 167 :: 0 :: 10 :: sX6_throne_11
noncomputable def sX6_throne_7 : List UInt8 := 2 :: sX6_throne_8
noncomputable def sX6_throne_4 : List UInt8 := 153 :: 0 :: 7 :: sX6_throne_7
noncomputable def sX6_throne_1 : List UInt8 := 182 :: 0 :: 140 :: sX6_throne_4
noncomputable def sX6_throne_0 : List UInt8 := 42 :: sX6_throne_1
set_option maxRecDepth 100000 in
theorem hX6_throne_0 : cX6_throne.data.toList.drop 0 = sX6_throne_0 := by decide +kernel
theorem dX6_throne_0 : decode cX6_throne 0 = .ok (.aload_n 0, 1) := dk42 hX6_throne_0
theorem hX6_throne_1 : cX6_throne.data.toList.drop 1 = sX6_throne_1 := dn1 hX6_throne_0
theorem dX6_throne_1 : decode cX6_throne 1 = .ok (.invokevirtual 140, 3) := dk182 hX6_throne_1 rfl
theorem hX6_throne_4 : cX6_throne.data.toList.drop 4 = sX6_throne_4 := dn3 hX6_throne_1
theorem dX6_throne_4 : decode cX6_throne 4 = .ok (.ifCond .eq 7, 3) := dk153 hX6_throne_4 (by decide)
theorem hX6_throne_7 : cX6_throne.data.toList.drop 7 = sX6_throne_7 := dn3 hX6_throne_4
theorem dX6_throne_7 : decode cX6_throne 7 = .ok (.iconst (-1), 1) := dk2 hX6_throne_7
theorem hX6_throne_8 : cX6_throne.data.toList.drop 8 = sX6_throne_8 := dn1 hX6_throne_7
theorem dX6_throne_8 : decode cX6_throne 8 = .ok (.goto 10, 3) := dk167 hX6_throne_8 (by decide)
theorem hX6_throne_11 : cX6_throne.data.toList.drop 11 = sX6_throne_11 := dn3 hX6_throne_8
theorem dX6_throne_11 : decode cX6_throne 11 = .ok (.aload_n 0, 1) := dk42 hX6_throne_11
theorem hX6_throne_12 : cX6_throne.data.toList.drop 12 = sX6_throne_12 := dn1 hX6_throne_11
theorem dX6_throne_12 : decode cX6_throne 12 = .ok (.getfield 19, 3) := dk180 hX6_throne_12 rfl
theorem hX6_throne_15 : cX6_throne.data.toList.drop 15 = sX6_throne_15 := dn3 hX6_throne_12
theorem dX6_throne_15 : decode cX6_throne 15 = .ok (.getfield 144, 3) := dk180 hX6_throne_15 rfl
theorem hX6_throne_18 : cX6_throne.data.toList.drop 18 = sX6_throne_18 := dn3 hX6_throne_15
theorem dX6_throne_18 : decode cX6_throne 18 = .ok (.ireturn, 1) := dk172 hX6_throne_18
noncomputable def sX6_trouble_4 : List UInt8 := 172 :: []
noncomputable def sX6_trouble_1 : List UInt8 := 180 :: 0 :: 100 :: sX6_trouble_4
noncomputable def sX6_trouble_0 : List UInt8 := 42 :: sX6_trouble_1
set_option maxRecDepth 100000 in
theorem hX6_trouble_0 : cX6_trouble.data.toList.drop 0 = sX6_trouble_0 := by decide +kernel
theorem dX6_trouble_0 : decode cX6_trouble 0 = .ok (.aload_n 0, 1) := dk42 hX6_trouble_0
theorem hX6_trouble_1 : cX6_trouble.data.toList.drop 1 = sX6_trouble_1 := dn1 hX6_trouble_0
theorem dX6_trouble_1 : decode cX6_trouble 1 = .ok (.getfield 100, 3) := dk180 hX6_trouble_1 rfl
theorem hX6_trouble_4 : cX6_trouble.data.toList.drop 4 = sX6_trouble_4 := dn3 hX6_trouble_1
theorem dX6_trouble_4 : decode cX6_trouble 4 = .ok (.ireturn, 1) := dk172 hX6_trouble_4
noncomputable def sX6_turn_15 : List UInt8 := 172 :: []
noncomputable def sX6_turn_12 : List UInt8 := 182 :: 1 :: 18 :: sX6_turn_15
noncomputable def sX6_turn_11 : List UInt8 := 27 :: sX6_turn_12
noncomputable def sX6_turn_10 : List UInt8 := 42 :: sX6_turn_11
noncomputable def sX6_turn_9 : List UInt8 := 172 :: sX6_turn_10
noncomputable def sX6_turn_8 : List UInt8 := 2 :: sX6_turn_9
noncomputable def sX6_turn_5 : List UInt8 := 153 :: 0 :: 5 :: sX6_turn_8
noncomputable def sX6_turn_2 : List UInt8 := 182 :: 1 :: 15 :: sX6_turn_5
noncomputable def sX6_turn_1 : List UInt8 := 27 :: sX6_turn_2
noncomputable def sX6_turn_0 : List UInt8 := 42 :: sX6_turn_1
set_option maxRecDepth 100000 in
theorem hX6_turn_0 : cX6_turn.data.toList.drop 0 = sX6_turn_0 := by decide +kernel
theorem dX6_turn_0 : decode cX6_turn 0 = .ok (.aload_n 0, 1) := dk42 hX6_turn_0
theorem hX6_turn_1 : cX6_turn.data.toList.drop 1 = sX6_turn_1 := dn1 hX6_turn_0
theorem dX6_turn_1 : decode cX6_turn 1 = .ok (.iload_n 1, 1) := dk27 hX6_turn_1
theorem hX6_turn_2 : cX6_turn.data.toList.drop 2 = sX6_turn_2 := dn1 hX6_turn_1
theorem dX6_turn_2 : decode cX6_turn 2 = .ok (.invokevirtual 271, 3) := dk182 hX6_turn_2 rfl
theorem hX6_turn_5 : cX6_turn.data.toList.drop 5 = sX6_turn_5 := dn3 hX6_turn_2
theorem dX6_turn_5 : decode cX6_turn 5 = .ok (.ifCond .eq 5, 3) := dk153 hX6_turn_5 (by decide)
theorem hX6_turn_8 : cX6_turn.data.toList.drop 8 = sX6_turn_8 := dn3 hX6_turn_5
theorem dX6_turn_8 : decode cX6_turn 8 = .ok (.iconst (-1), 1) := dk2 hX6_turn_8
theorem hX6_turn_9 : cX6_turn.data.toList.drop 9 = sX6_turn_9 := dn1 hX6_turn_8
theorem dX6_turn_9 : decode cX6_turn 9 = .ok (.ireturn, 1) := dk172 hX6_turn_9
theorem hX6_turn_10 : cX6_turn.data.toList.drop 10 = sX6_turn_10 := dn1 hX6_turn_9
theorem dX6_turn_10 : decode cX6_turn 10 = .ok (.aload_n 0, 1) := dk42 hX6_turn_10
theorem hX6_turn_11 : cX6_turn.data.toList.drop 11 = sX6_turn_11 := dn1 hX6_turn_10
theorem dX6_turn_11 : decode cX6_turn 11 = .ok (.iload_n 1, 1) := dk27 hX6_turn_11
theorem hX6_turn_12 : cX6_turn.data.toList.drop 12 = sX6_turn_12 := dn1 hX6_turn_11
theorem dX6_turn_12 : decode cX6_turn 12 = .ok (.invokevirtual 274, 3) := dk182 hX6_turn_12 rfl
theorem hX6_turn_15 : cX6_turn.data.toList.drop 15 = sX6_turn_15 := dn3 hX6_turn_12
theorem dX6_turn_15 : decode cX6_turn 15 = .ok (.ireturn, 1) := dk172 hX6_turn_15
noncomputable def sX6_undo_46 : List UInt8 := 172 :: []
noncomputable def sX6_undo_45 : List UInt8 := 3 :: sX6_undo_46
noncomputable def sX6_undo_42 : List UInt8 := 167 :: 0 :: 4 :: sX6_undo_45
noncomputable def sX6_undo_41 : List UInt8 := 4 :: sX6_undo_42
noncomputable def sX6_undo_38 : List UInt8 := 153 :: 0 :: 7 :: sX6_undo_41
noncomputable def sX6_undo_35 : List UInt8 := 182 :: 1 :: 97 :: sX6_undo_38
noncomputable def sX6_undo_32 : List UInt8 := 180 :: 0 :: 26 :: sX6_undo_35
noncomputable def sX6_undo_31 : List UInt8 := 42 :: sX6_undo_32
noncomputable def sX6_undo_28 : List UInt8 := 180 :: 0 :: 40 :: sX6_undo_31
noncomputable def sX6_undo_27 : List UInt8 := 42 :: sX6_undo_28
noncomputable def sX6_undo_24 : List UInt8 := 154 :: 0 :: 21 :: sX6_undo_27
noncomputable def sX6_undo_21 : List UInt8 := 180 :: 0 :: 100 :: sX6_undo_24
noncomputable def sX6_undo_20 : List UInt8 := 42 :: sX6_undo_21
noncomputable def sX6_undo_17 : List UInt8 := 181 :: 0 :: 100 :: sX6_undo_20
noncomputable def sX6_undo_15 : List UInt8 := 16 :: 6 :: sX6_undo_17
noncomputable def sX6_undo_12 : List UInt8 := 167 :: 0 :: 5 :: sX6_undo_15
noncomputable def sX6_undo_11 : List UInt8 := 3 :: sX6_undo_12
noncomputable def sX6_undo_8 : List UInt8 := 158 :: 0 :: 7 :: sX6_undo_11
noncomputable def sX6_undo_5 : List UInt8 := 180 :: 1 :: 94 :: sX6_undo_8
noncomputable def sX6_undo_2 : List UInt8 := 180 :: 0 :: 40 :: sX6_undo_5
noncomputable def sX6_undo_1 : List UInt8 := 42 :: sX6_undo_2
noncomputable def sX6_undo_0 : List UInt8 := 42 :: sX6_undo_1
set_option maxRecDepth 100000 in
theorem hX6_undo_0 : cX6_undo.data.toList.drop 0 = sX6_undo_0 := by decide +kernel
theorem dX6_undo_0 : decode cX6_undo 0 = .ok (.aload_n 0, 1) := dk42 hX6_undo_0
theorem hX6_undo_1 : cX6_undo.data.toList.drop 1 = sX6_undo_1 := dn1 hX6_undo_0
theorem dX6_undo_1 : decode cX6_undo 1 = .ok (.aload_n 0, 1) := dk42 hX6_undo_1
theorem hX6_undo_2 : cX6_undo.data.toList.drop 2 = sX6_undo_2 := dn1 hX6_undo_1
theorem dX6_undo_2 : decode cX6_undo 2 = .ok (.getfield 40, 3) := dk180 hX6_undo_2 rfl
theorem hX6_undo_5 : cX6_undo.data.toList.drop 5 = sX6_undo_5 := dn3 hX6_undo_2
theorem dX6_undo_5 : decode cX6_undo 5 = .ok (.getfield 350, 3) := dk180 hX6_undo_5 rfl
theorem hX6_undo_8 : cX6_undo.data.toList.drop 8 = sX6_undo_8 := dn3 hX6_undo_5
theorem dX6_undo_8 : decode cX6_undo 8 = .ok (.ifCond .le 7, 3) := dk158 hX6_undo_8 (by decide)
theorem hX6_undo_11 : cX6_undo.data.toList.drop 11 = sX6_undo_11 := dn3 hX6_undo_8
theorem dX6_undo_11 : decode cX6_undo 11 = .ok (.iconst 0, 1) := dk3 hX6_undo_11
theorem hX6_undo_12 : cX6_undo.data.toList.drop 12 = sX6_undo_12 := dn1 hX6_undo_11
theorem dX6_undo_12 : decode cX6_undo 12 = .ok (.goto 5, 3) := dk167 hX6_undo_12 (by decide)
theorem hX6_undo_15 : cX6_undo.data.toList.drop 15 = sX6_undo_15 := dn3 hX6_undo_12
theorem dX6_undo_15 : decode cX6_undo 15 = .ok (.bipush 6, 2) := dk16 hX6_undo_15 (by decide)
theorem hX6_undo_17 : cX6_undo.data.toList.drop 17 = sX6_undo_17 := dn2 hX6_undo_15
theorem dX6_undo_17 : decode cX6_undo 17 = .ok (.putfield 100, 3) := dk181 hX6_undo_17 rfl
theorem hX6_undo_20 : cX6_undo.data.toList.drop 20 = sX6_undo_20 := dn3 hX6_undo_17
theorem dX6_undo_20 : decode cX6_undo 20 = .ok (.aload_n 0, 1) := dk42 hX6_undo_20
theorem hX6_undo_21 : cX6_undo.data.toList.drop 21 = sX6_undo_21 := dn1 hX6_undo_20
theorem dX6_undo_21 : decode cX6_undo 21 = .ok (.getfield 100, 3) := dk180 hX6_undo_21 rfl
theorem hX6_undo_24 : cX6_undo.data.toList.drop 24 = sX6_undo_24 := dn3 hX6_undo_21
theorem dX6_undo_24 : decode cX6_undo 24 = .ok (.ifCond .ne 21, 3) := dk154 hX6_undo_24 (by decide)
theorem hX6_undo_27 : cX6_undo.data.toList.drop 27 = sX6_undo_27 := dn3 hX6_undo_24
theorem dX6_undo_27 : decode cX6_undo 27 = .ok (.aload_n 0, 1) := dk42 hX6_undo_27
theorem hX6_undo_28 : cX6_undo.data.toList.drop 28 = sX6_undo_28 := dn1 hX6_undo_27
theorem dX6_undo_28 : decode cX6_undo 28 = .ok (.getfield 40, 3) := dk180 hX6_undo_28 rfl
theorem hX6_undo_31 : cX6_undo.data.toList.drop 31 = sX6_undo_31 := dn3 hX6_undo_28
theorem dX6_undo_31 : decode cX6_undo 31 = .ok (.aload_n 0, 1) := dk42 hX6_undo_31
theorem hX6_undo_32 : cX6_undo.data.toList.drop 32 = sX6_undo_32 := dn1 hX6_undo_31
theorem dX6_undo_32 : decode cX6_undo 32 = .ok (.getfield 26, 3) := dk180 hX6_undo_32 rfl
theorem hX6_undo_35 : cX6_undo.data.toList.drop 35 = sX6_undo_35 := dn3 hX6_undo_32
theorem dX6_undo_35 : decode cX6_undo 35 = .ok (.invokevirtual 353, 3) := dk182 hX6_undo_35 rfl
theorem hX6_undo_38 : cX6_undo.data.toList.drop 38 = sX6_undo_38 := dn3 hX6_undo_35
theorem dX6_undo_38 : decode cX6_undo 38 = .ok (.ifCond .eq 7, 3) := dk153 hX6_undo_38 (by decide)
theorem hX6_undo_41 : cX6_undo.data.toList.drop 41 = sX6_undo_41 := dn3 hX6_undo_38
theorem dX6_undo_41 : decode cX6_undo 41 = .ok (.iconst 1, 1) := dk4 hX6_undo_41
theorem hX6_undo_42 : cX6_undo.data.toList.drop 42 = sX6_undo_42 := dn1 hX6_undo_41
theorem dX6_undo_42 : decode cX6_undo 42 = .ok (.goto 4, 3) := dk167 hX6_undo_42 (by decide)
theorem hX6_undo_45 : cX6_undo.data.toList.drop 45 = sX6_undo_45 := dn3 hX6_undo_42
theorem dX6_undo_45 : decode cX6_undo 45 = .ok (.iconst 0, 1) := dk3 hX6_undo_45
theorem hX6_undo_46 : cX6_undo.data.toList.drop 46 = sX6_undo_46 := dn1 hX6_undo_45
theorem dX6_undo_46 : decode cX6_undo 46 = .ok (.ireturn, 1) := dk172 hX6_undo_46
noncomputable def sX6_unheardWord_74 : List UInt8 := 172 :: []
noncomputable def sX6_unheardWord_73 : List UInt8 := 2 :: sX6_unheardWord_74
noncomputable def sX6_unheardWord_70 : List UInt8 := 167 :: 255 :: 206 :: sX6_unheardWord_73
noncomputable def sX6_unheardWord_67 : List UInt8 := 132 :: 3 :: 1 :: sX6_unheardWord_70
noncomputable def sX6_unheardWord_64 : List UInt8 := 132 :: 2 :: 1 :: sX6_unheardWord_67
noncomputable def sX6_unheardWord_63 : List UInt8 := 172 :: sX6_unheardWord_64
noncomputable def sX6_unheardWord_62 : List UInt8 := 29 :: sX6_unheardWord_63
noncomputable def sX6_unheardWord_59 : List UInt8 := 160 :: 0 :: 5 :: sX6_unheardWord_62
noncomputable def sX6_unheardWord_58 : List UInt8 := 27 :: sX6_unheardWord_59
noncomputable def sX6_unheardWord_57 : List UInt8 := 28 :: sX6_unheardWord_58
noncomputable def sX6_unheardWord_54 : List UInt8 := 154 :: 0 :: 13 :: sX6_unheardWord_57
noncomputable def sX6_unheardWord_53 : List UInt8 := 126 :: sX6_unheardWord_54
noncomputable def sX6_unheardWord_52 : List UInt8 := 4 :: sX6_unheardWord_53
noncomputable def sX6_unheardWord_51 : List UInt8 := 122 :: sX6_unheardWord_52
noncomputable def sX6_unheardWord_50 : List UInt8 := 29 :: sX6_unheardWord_51
noncomputable def sX6_unheardWord_47 : List UInt8 := 180 :: 0 :: 184 :: sX6_unheardWord_50
noncomputable def sX6_unheardWord_44 : List UInt8 := 180 :: 0 :: 47 :: sX6_unheardWord_47
noncomputable def sX6_unheardWord_43 : List UInt8 := 42 :: sX6_unheardWord_44
noncomputable def sX6_unheardWord_40 : List UInt8 := 154 :: 0 :: 27 :: sX6_unheardWord_43
noncomputable def sX6_unheardWord_39 : List UInt8 := 46 :: sX6_unheardWord_40
noncomputable def sX6_unheardWord_38 : List UInt8 := 29 :: sX6_unheardWord_39
noncomputable def sX6_unheardWord_35 : List UInt8 := 180 :: 0 :: 109 :: sX6_unheardWord_38
noncomputable def sX6_unheardWord_32 : List UInt8 := 180 :: 0 :: 19 :: sX6_unheardWord_35
noncomputable def sX6_unheardWord_31 : List UInt8 := 42 :: sX6_unheardWord_32
noncomputable def sX6_unheardWord_28 : List UInt8 := 162 :: 0 :: 45 :: sX6_unheardWord_31
noncomputable def sX6_unheardWord_25 : List UInt8 := 180 :: 0 :: 103 :: sX6_unheardWord_28
noncomputable def sX6_unheardWord_22 : List UInt8 := 180 :: 0 :: 19 :: sX6_unheardWord_25
noncomputable def sX6_unheardWord_21 : List UInt8 := 42 :: sX6_unheardWord_22
noncomputable def sX6_unheardWord_20 : List UInt8 := 29 :: sX6_unheardWord_21
noncomputable def sX6_unheardWord_19 : List UInt8 := 62 :: sX6_unheardWord_20
noncomputable def sX6_unheardWord_18 : List UInt8 := 3 :: sX6_unheardWord_19
noncomputable def sX6_unheardWord_17 : List UInt8 := 61 :: sX6_unheardWord_18
noncomputable def sX6_unheardWord_16 : List UInt8 := 3 :: sX6_unheardWord_17
noncomputable def sX6_unheardWord_15 : List UInt8 := 87 :: sX6_unheardWord_16
noncomputable def sX6_unheardWord_12 : List UInt8 := 182 :: 0 :: 177 :: sX6_unheardWord_15
noncomputable def sX6_unheardWord_9 : List UInt8 := 180 :: 0 :: 26 :: sX6_unheardWord_12
noncomputable def sX6_unheardWord_8 : List UInt8 := 42 :: sX6_unheardWord_9
noncomputable def sX6_unheardWord_5 : List UInt8 := 180 :: 0 :: 19 :: sX6_unheardWord_8
noncomputable def sX6_unheardWord_4 : List UInt8 := 42 :: sX6_unheardWord_5
noncomputable def sX6_unheardWord_1 : List UInt8 := 180 :: 0 :: 47 :: sX6_unheardWord_4
noncomputable def sX6_unheardWord_0 : List UInt8 := 42 :: sX6_unheardWord_1
set_option maxRecDepth 100000 in
theorem hX6_unheardWord_0 : cX6_unheardWord.data.toList.drop 0 = sX6_unheardWord_0 := by decide +kernel
theorem dX6_unheardWord_0 : decode cX6_unheardWord 0 = .ok (.aload_n 0, 1) := dk42 hX6_unheardWord_0
theorem hX6_unheardWord_1 : cX6_unheardWord.data.toList.drop 1 = sX6_unheardWord_1 := dn1 hX6_unheardWord_0
theorem dX6_unheardWord_1 : decode cX6_unheardWord 1 = .ok (.getfield 47, 3) := dk180 hX6_unheardWord_1 rfl
theorem hX6_unheardWord_4 : cX6_unheardWord.data.toList.drop 4 = sX6_unheardWord_4 := dn3 hX6_unheardWord_1
theorem dX6_unheardWord_4 : decode cX6_unheardWord 4 = .ok (.aload_n 0, 1) := dk42 hX6_unheardWord_4
theorem hX6_unheardWord_5 : cX6_unheardWord.data.toList.drop 5 = sX6_unheardWord_5 := dn1 hX6_unheardWord_4
theorem dX6_unheardWord_5 : decode cX6_unheardWord 5 = .ok (.getfield 19, 3) := dk180 hX6_unheardWord_5 rfl
theorem hX6_unheardWord_8 : cX6_unheardWord.data.toList.drop 8 = sX6_unheardWord_8 := dn3 hX6_unheardWord_5
theorem dX6_unheardWord_8 : decode cX6_unheardWord 8 = .ok (.aload_n 0, 1) := dk42 hX6_unheardWord_8
theorem hX6_unheardWord_9 : cX6_unheardWord.data.toList.drop 9 = sX6_unheardWord_9 := dn1 hX6_unheardWord_8
theorem dX6_unheardWord_9 : decode cX6_unheardWord 9 = .ok (.getfield 26, 3) := dk180 hX6_unheardWord_9 rfl
theorem hX6_unheardWord_12 : cX6_unheardWord.data.toList.drop 12 = sX6_unheardWord_12 := dn3 hX6_unheardWord_9
theorem dX6_unheardWord_12 : decode cX6_unheardWord 12 = .ok (.invokevirtual 177, 3) := dk182 hX6_unheardWord_12 rfl
theorem hX6_unheardWord_15 : cX6_unheardWord.data.toList.drop 15 = sX6_unheardWord_15 := dn3 hX6_unheardWord_12
theorem dX6_unheardWord_15 : decode cX6_unheardWord 15 = .ok (.pop, 1) := dk87 hX6_unheardWord_15
theorem hX6_unheardWord_16 : cX6_unheardWord.data.toList.drop 16 = sX6_unheardWord_16 := dn1 hX6_unheardWord_15
theorem dX6_unheardWord_16 : decode cX6_unheardWord 16 = .ok (.iconst 0, 1) := dk3 hX6_unheardWord_16
theorem hX6_unheardWord_17 : cX6_unheardWord.data.toList.drop 17 = sX6_unheardWord_17 := dn1 hX6_unheardWord_16
theorem dX6_unheardWord_17 : decode cX6_unheardWord 17 = .ok (.istore_n 2, 1) := dk61 hX6_unheardWord_17
theorem hX6_unheardWord_18 : cX6_unheardWord.data.toList.drop 18 = sX6_unheardWord_18 := dn1 hX6_unheardWord_17
theorem dX6_unheardWord_18 : decode cX6_unheardWord 18 = .ok (.iconst 0, 1) := dk3 hX6_unheardWord_18
theorem hX6_unheardWord_19 : cX6_unheardWord.data.toList.drop 19 = sX6_unheardWord_19 := dn1 hX6_unheardWord_18
theorem dX6_unheardWord_19 : decode cX6_unheardWord 19 = .ok (.istore_n 3, 1) := dk62 hX6_unheardWord_19
theorem hX6_unheardWord_20 : cX6_unheardWord.data.toList.drop 20 = sX6_unheardWord_20 := dn1 hX6_unheardWord_19
theorem dX6_unheardWord_20 : decode cX6_unheardWord 20 = .ok (.iload_n 3, 1) := dk29 hX6_unheardWord_20
theorem hX6_unheardWord_21 : cX6_unheardWord.data.toList.drop 21 = sX6_unheardWord_21 := dn1 hX6_unheardWord_20
theorem dX6_unheardWord_21 : decode cX6_unheardWord 21 = .ok (.aload_n 0, 1) := dk42 hX6_unheardWord_21
theorem hX6_unheardWord_22 : cX6_unheardWord.data.toList.drop 22 = sX6_unheardWord_22 := dn1 hX6_unheardWord_21
theorem dX6_unheardWord_22 : decode cX6_unheardWord 22 = .ok (.getfield 19, 3) := dk180 hX6_unheardWord_22 rfl
theorem hX6_unheardWord_25 : cX6_unheardWord.data.toList.drop 25 = sX6_unheardWord_25 := dn3 hX6_unheardWord_22
theorem dX6_unheardWord_25 : decode cX6_unheardWord 25 = .ok (.getfield 103, 3) := dk180 hX6_unheardWord_25 rfl
theorem hX6_unheardWord_28 : cX6_unheardWord.data.toList.drop 28 = sX6_unheardWord_28 := dn3 hX6_unheardWord_25
theorem dX6_unheardWord_28 : decode cX6_unheardWord 28 = .ok (.if_icmp .ge 45, 3) := dk162 hX6_unheardWord_28 (by decide)
theorem hX6_unheardWord_31 : cX6_unheardWord.data.toList.drop 31 = sX6_unheardWord_31 := dn3 hX6_unheardWord_28
theorem dX6_unheardWord_31 : decode cX6_unheardWord 31 = .ok (.aload_n 0, 1) := dk42 hX6_unheardWord_31
theorem hX6_unheardWord_32 : cX6_unheardWord.data.toList.drop 32 = sX6_unheardWord_32 := dn1 hX6_unheardWord_31
theorem dX6_unheardWord_32 : decode cX6_unheardWord 32 = .ok (.getfield 19, 3) := dk180 hX6_unheardWord_32 rfl
theorem hX6_unheardWord_35 : cX6_unheardWord.data.toList.drop 35 = sX6_unheardWord_35 := dn3 hX6_unheardWord_32
theorem dX6_unheardWord_35 : decode cX6_unheardWord 35 = .ok (.getfield 109, 3) := dk180 hX6_unheardWord_35 rfl
theorem hX6_unheardWord_38 : cX6_unheardWord.data.toList.drop 38 = sX6_unheardWord_38 := dn3 hX6_unheardWord_35
theorem dX6_unheardWord_38 : decode cX6_unheardWord 38 = .ok (.iload_n 3, 1) := dk29 hX6_unheardWord_38
theorem hX6_unheardWord_39 : cX6_unheardWord.data.toList.drop 39 = sX6_unheardWord_39 := dn1 hX6_unheardWord_38
theorem dX6_unheardWord_39 : decode cX6_unheardWord 39 = .ok (.iaload, 1) := dk46 hX6_unheardWord_39
theorem hX6_unheardWord_40 : cX6_unheardWord.data.toList.drop 40 = sX6_unheardWord_40 := dn1 hX6_unheardWord_39
theorem dX6_unheardWord_40 : decode cX6_unheardWord 40 = .ok (.ifCond .ne 27, 3) := dk154 hX6_unheardWord_40 (by decide)
theorem hX6_unheardWord_43 : cX6_unheardWord.data.toList.drop 43 = sX6_unheardWord_43 := dn3 hX6_unheardWord_40
theorem dX6_unheardWord_43 : decode cX6_unheardWord 43 = .ok (.aload_n 0, 1) := dk42 hX6_unheardWord_43
theorem hX6_unheardWord_44 : cX6_unheardWord.data.toList.drop 44 = sX6_unheardWord_44 := dn1 hX6_unheardWord_43
theorem dX6_unheardWord_44 : decode cX6_unheardWord 44 = .ok (.getfield 47, 3) := dk180 hX6_unheardWord_44 rfl
theorem hX6_unheardWord_47 : cX6_unheardWord.data.toList.drop 47 = sX6_unheardWord_47 := dn3 hX6_unheardWord_44
theorem dX6_unheardWord_47 : decode cX6_unheardWord 47 = .ok (.getfield 184, 3) := dk180 hX6_unheardWord_47 rfl
theorem hX6_unheardWord_50 : cX6_unheardWord.data.toList.drop 50 = sX6_unheardWord_50 := dn3 hX6_unheardWord_47
theorem dX6_unheardWord_50 : decode cX6_unheardWord 50 = .ok (.iload_n 3, 1) := dk29 hX6_unheardWord_50
theorem hX6_unheardWord_51 : cX6_unheardWord.data.toList.drop 51 = sX6_unheardWord_51 := dn1 hX6_unheardWord_50
theorem dX6_unheardWord_51 : decode cX6_unheardWord 51 = .ok (.ishr, 1) := dk122 hX6_unheardWord_51
theorem hX6_unheardWord_52 : cX6_unheardWord.data.toList.drop 52 = sX6_unheardWord_52 := dn1 hX6_unheardWord_51
theorem dX6_unheardWord_52 : decode cX6_unheardWord 52 = .ok (.iconst 1, 1) := dk4 hX6_unheardWord_52
theorem hX6_unheardWord_53 : cX6_unheardWord.data.toList.drop 53 = sX6_unheardWord_53 := dn1 hX6_unheardWord_52
theorem dX6_unheardWord_53 : decode cX6_unheardWord 53 = .ok (.iand, 1) := dk126 hX6_unheardWord_53
theorem hX6_unheardWord_54 : cX6_unheardWord.data.toList.drop 54 = sX6_unheardWord_54 := dn1 hX6_unheardWord_53
theorem dX6_unheardWord_54 : decode cX6_unheardWord 54 = .ok (.ifCond .ne 13, 3) := dk154 hX6_unheardWord_54 (by decide)
theorem hX6_unheardWord_57 : cX6_unheardWord.data.toList.drop 57 = sX6_unheardWord_57 := dn3 hX6_unheardWord_54
theorem dX6_unheardWord_57 : decode cX6_unheardWord 57 = .ok (.iload_n 2, 1) := dk28 hX6_unheardWord_57
theorem hX6_unheardWord_58 : cX6_unheardWord.data.toList.drop 58 = sX6_unheardWord_58 := dn1 hX6_unheardWord_57
theorem dX6_unheardWord_58 : decode cX6_unheardWord 58 = .ok (.iload_n 1, 1) := dk27 hX6_unheardWord_58
theorem hX6_unheardWord_59 : cX6_unheardWord.data.toList.drop 59 = sX6_unheardWord_59 := dn1 hX6_unheardWord_58
theorem dX6_unheardWord_59 : decode cX6_unheardWord 59 = .ok (.if_icmp .ne 5, 3) := dk160 hX6_unheardWord_59 (by decide)
theorem hX6_unheardWord_62 : cX6_unheardWord.data.toList.drop 62 = sX6_unheardWord_62 := dn3 hX6_unheardWord_59
theorem dX6_unheardWord_62 : decode cX6_unheardWord 62 = .ok (.iload_n 3, 1) := dk29 hX6_unheardWord_62
theorem hX6_unheardWord_63 : cX6_unheardWord.data.toList.drop 63 = sX6_unheardWord_63 := dn1 hX6_unheardWord_62
theorem dX6_unheardWord_63 : decode cX6_unheardWord 63 = .ok (.ireturn, 1) := dk172 hX6_unheardWord_63
theorem hX6_unheardWord_64 : cX6_unheardWord.data.toList.drop 64 = sX6_unheardWord_64 := dn1 hX6_unheardWord_63
theorem dX6_unheardWord_64 : decode cX6_unheardWord 64 = .ok (.iinc 2 1, 3) := dk132 hX6_unheardWord_64 rfl (by decide)
theorem hX6_unheardWord_67 : cX6_unheardWord.data.toList.drop 67 = sX6_unheardWord_67 := dn3 hX6_unheardWord_64
theorem dX6_unheardWord_67 : decode cX6_unheardWord 67 = .ok (.iinc 3 1, 3) := dk132 hX6_unheardWord_67 rfl (by decide)
theorem hX6_unheardWord_70 : cX6_unheardWord.data.toList.drop 70 = sX6_unheardWord_70 := dn3 hX6_unheardWord_67
theorem dX6_unheardWord_70 : decode cX6_unheardWord 70 = .ok (.goto (-50), 3) := dk167 hX6_unheardWord_70 (by decide)
theorem hX6_unheardWord_73 : cX6_unheardWord.data.toList.drop 73 = sX6_unheardWord_73 := dn3 hX6_unheardWord_70
theorem dX6_unheardWord_73 : decode cX6_unheardWord 73 = .ok (.iconst (-1), 1) := dk2 hX6_unheardWord_73
theorem hX6_unheardWord_74 : cX6_unheardWord.data.toList.drop 74 = sX6_unheardWord_74 := dn1 hX6_unheardWord_73
theorem dX6_unheardWord_74 : decode cX6_unheardWord 74 = .ok (.ireturn, 1) := dk172 hX6_unheardWord_74
noncomputable def sX6_unsureToAsk_55 : List UInt8 := 172 :: []
noncomputable def sX6_unsureToAsk_54 : List UInt8 := 28 :: sX6_unsureToAsk_55
noncomputable def sX6_unsureToAsk_51 : List UInt8 := 167 :: 255 :: 212 :: sX6_unsureToAsk_54
noncomputable def sX6_unsureToAsk_48 : List UInt8 := 132 :: 4 :: 1 :: sX6_unsureToAsk_51
noncomputable def sX6_unsureToAsk_47 : List UInt8 := 62 :: sX6_unsureToAsk_48
noncomputable def sX6_unsureToAsk_45 : List UInt8 := 21 :: 5 :: sX6_unsureToAsk_47
noncomputable def sX6_unsureToAsk_44 : List UInt8 := 61 :: sX6_unsureToAsk_45
noncomputable def sX6_unsureToAsk_42 : List UInt8 := 21 :: 4 :: sX6_unsureToAsk_44
noncomputable def sX6_unsureToAsk_39 : List UInt8 := 162 :: 0 :: 9 :: sX6_unsureToAsk_42
noncomputable def sX6_unsureToAsk_38 : List UInt8 := 29 :: sX6_unsureToAsk_39
noncomputable def sX6_unsureToAsk_36 : List UInt8 := 21 :: 5 :: sX6_unsureToAsk_38
noncomputable def sX6_unsureToAsk_33 : List UInt8 := 155 :: 0 :: 9 :: sX6_unsureToAsk_36
noncomputable def sX6_unsureToAsk_32 : List UInt8 := 28 :: sX6_unsureToAsk_33
noncomputable def sX6_unsureToAsk_30 : List UInt8 := 54 :: 5 :: sX6_unsureToAsk_32
noncomputable def sX6_unsureToAsk_27 : List UInt8 := 182 :: 1 :: 43 :: sX6_unsureToAsk_30
noncomputable def sX6_unsureToAsk_25 : List UInt8 := 21 :: 4 :: sX6_unsureToAsk_27
noncomputable def sX6_unsureToAsk_24 : List UInt8 := 27 :: sX6_unsureToAsk_25
noncomputable def sX6_unsureToAsk_23 : List UInt8 := 42 :: sX6_unsureToAsk_24
noncomputable def sX6_unsureToAsk_20 : List UInt8 := 162 :: 0 :: 34 :: sX6_unsureToAsk_23
noncomputable def sX6_unsureToAsk_17 : List UInt8 := 180 :: 1 :: 59 :: sX6_unsureToAsk_20
noncomputable def sX6_unsureToAsk_14 : List UInt8 := 180 :: 0 :: 19 :: sX6_unsureToAsk_17
noncomputable def sX6_unsureToAsk_13 : List UInt8 := 42 :: sX6_unsureToAsk_14
noncomputable def sX6_unsureToAsk_11 : List UInt8 := 21 :: 4 :: sX6_unsureToAsk_13
noncomputable def sX6_unsureToAsk_8 : List UInt8 := 153 :: 0 :: 46 :: sX6_unsureToAsk_11
noncomputable def sX6_unsureToAsk_7 : List UInt8 := 27 :: sX6_unsureToAsk_8
noncomputable def sX6_unsureToAsk_5 : List UInt8 := 54 :: 4 :: sX6_unsureToAsk_7
noncomputable def sX6_unsureToAsk_4 : List UInt8 := 3 :: sX6_unsureToAsk_5
noncomputable def sX6_unsureToAsk_3 : List UInt8 := 62 :: sX6_unsureToAsk_4
noncomputable def sX6_unsureToAsk_2 : List UInt8 := 3 :: sX6_unsureToAsk_3
noncomputable def sX6_unsureToAsk_1 : List UInt8 := 61 :: sX6_unsureToAsk_2
noncomputable def sX6_unsureToAsk_0 : List UInt8 := 2 :: sX6_unsureToAsk_1
set_option maxRecDepth 100000 in
theorem hX6_unsureToAsk_0 : cX6_unsureToAsk.data.toList.drop 0 = sX6_unsureToAsk_0 := by decide +kernel
theorem dX6_unsureToAsk_0 : decode cX6_unsureToAsk 0 = .ok (.iconst (-1), 1) := dk2 hX6_unsureToAsk_0
theorem hX6_unsureToAsk_1 : cX6_unsureToAsk.data.toList.drop 1 = sX6_unsureToAsk_1 := dn1 hX6_unsureToAsk_0
theorem dX6_unsureToAsk_1 : decode cX6_unsureToAsk 1 = .ok (.istore_n 2, 1) := dk61 hX6_unsureToAsk_1
theorem hX6_unsureToAsk_2 : cX6_unsureToAsk.data.toList.drop 2 = sX6_unsureToAsk_2 := dn1 hX6_unsureToAsk_1
theorem dX6_unsureToAsk_2 : decode cX6_unsureToAsk 2 = .ok (.iconst 0, 1) := dk3 hX6_unsureToAsk_2
theorem hX6_unsureToAsk_3 : cX6_unsureToAsk.data.toList.drop 3 = sX6_unsureToAsk_3 := dn1 hX6_unsureToAsk_2
theorem dX6_unsureToAsk_3 : decode cX6_unsureToAsk 3 = .ok (.istore_n 3, 1) := dk62 hX6_unsureToAsk_3
theorem hX6_unsureToAsk_4 : cX6_unsureToAsk.data.toList.drop 4 = sX6_unsureToAsk_4 := dn1 hX6_unsureToAsk_3
theorem dX6_unsureToAsk_4 : decode cX6_unsureToAsk 4 = .ok (.iconst 0, 1) := dk3 hX6_unsureToAsk_4
theorem hX6_unsureToAsk_5 : cX6_unsureToAsk.data.toList.drop 5 = sX6_unsureToAsk_5 := dn1 hX6_unsureToAsk_4
theorem dX6_unsureToAsk_5 : decode cX6_unsureToAsk 5 = .ok (.istore 4, 2) := dk54 hX6_unsureToAsk_5 rfl
theorem hX6_unsureToAsk_7 : cX6_unsureToAsk.data.toList.drop 7 = sX6_unsureToAsk_7 := dn2 hX6_unsureToAsk_5
theorem dX6_unsureToAsk_7 : decode cX6_unsureToAsk 7 = .ok (.iload_n 1, 1) := dk27 hX6_unsureToAsk_7
theorem hX6_unsureToAsk_8 : cX6_unsureToAsk.data.toList.drop 8 = sX6_unsureToAsk_8 := dn1 hX6_unsureToAsk_7
theorem dX6_unsureToAsk_8 : decode cX6_unsureToAsk 8 = .ok (.ifCond .eq 46, 3) := dk153 hX6_unsureToAsk_8 (by decide)
theorem hX6_unsureToAsk_11 : cX6_unsureToAsk.data.toList.drop 11 = sX6_unsureToAsk_11 := dn3 hX6_unsureToAsk_8
theorem dX6_unsureToAsk_11 : decode cX6_unsureToAsk 11 = .ok (.iload 4, 2) := dk21 hX6_unsureToAsk_11 rfl
theorem hX6_unsureToAsk_13 : cX6_unsureToAsk.data.toList.drop 13 = sX6_unsureToAsk_13 := dn2 hX6_unsureToAsk_11
theorem dX6_unsureToAsk_13 : decode cX6_unsureToAsk 13 = .ok (.aload_n 0, 1) := dk42 hX6_unsureToAsk_13
theorem hX6_unsureToAsk_14 : cX6_unsureToAsk.data.toList.drop 14 = sX6_unsureToAsk_14 := dn1 hX6_unsureToAsk_13
theorem dX6_unsureToAsk_14 : decode cX6_unsureToAsk 14 = .ok (.getfield 19, 3) := dk180 hX6_unsureToAsk_14 rfl
theorem hX6_unsureToAsk_17 : cX6_unsureToAsk.data.toList.drop 17 = sX6_unsureToAsk_17 := dn3 hX6_unsureToAsk_14
theorem dX6_unsureToAsk_17 : decode cX6_unsureToAsk 17 = .ok (.getfield 315, 3) := dk180 hX6_unsureToAsk_17 rfl
theorem hX6_unsureToAsk_20 : cX6_unsureToAsk.data.toList.drop 20 = sX6_unsureToAsk_20 := dn3 hX6_unsureToAsk_17
theorem dX6_unsureToAsk_20 : decode cX6_unsureToAsk 20 = .ok (.if_icmp .ge 34, 3) := dk162 hX6_unsureToAsk_20 (by decide)
theorem hX6_unsureToAsk_23 : cX6_unsureToAsk.data.toList.drop 23 = sX6_unsureToAsk_23 := dn3 hX6_unsureToAsk_20
theorem dX6_unsureToAsk_23 : decode cX6_unsureToAsk 23 = .ok (.aload_n 0, 1) := dk42 hX6_unsureToAsk_23
theorem hX6_unsureToAsk_24 : cX6_unsureToAsk.data.toList.drop 24 = sX6_unsureToAsk_24 := dn1 hX6_unsureToAsk_23
theorem dX6_unsureToAsk_24 : decode cX6_unsureToAsk 24 = .ok (.iload_n 1, 1) := dk27 hX6_unsureToAsk_24
theorem hX6_unsureToAsk_25 : cX6_unsureToAsk.data.toList.drop 25 = sX6_unsureToAsk_25 := dn1 hX6_unsureToAsk_24
theorem dX6_unsureToAsk_25 : decode cX6_unsureToAsk 25 = .ok (.iload 4, 2) := dk21 hX6_unsureToAsk_25 rfl
theorem hX6_unsureToAsk_27 : cX6_unsureToAsk.data.toList.drop 27 = sX6_unsureToAsk_27 := dn2 hX6_unsureToAsk_25
theorem dX6_unsureToAsk_27 : decode cX6_unsureToAsk 27 = .ok (.invokevirtual 299, 3) := dk182 hX6_unsureToAsk_27 rfl
theorem hX6_unsureToAsk_30 : cX6_unsureToAsk.data.toList.drop 30 = sX6_unsureToAsk_30 := dn3 hX6_unsureToAsk_27
theorem dX6_unsureToAsk_30 : decode cX6_unsureToAsk 30 = .ok (.istore 5, 2) := dk54 hX6_unsureToAsk_30 rfl
theorem hX6_unsureToAsk_32 : cX6_unsureToAsk.data.toList.drop 32 = sX6_unsureToAsk_32 := dn2 hX6_unsureToAsk_30
theorem dX6_unsureToAsk_32 : decode cX6_unsureToAsk 32 = .ok (.iload_n 2, 1) := dk28 hX6_unsureToAsk_32
theorem hX6_unsureToAsk_33 : cX6_unsureToAsk.data.toList.drop 33 = sX6_unsureToAsk_33 := dn1 hX6_unsureToAsk_32
theorem dX6_unsureToAsk_33 : decode cX6_unsureToAsk 33 = .ok (.ifCond .lt 9, 3) := dk155 hX6_unsureToAsk_33 (by decide)
theorem hX6_unsureToAsk_36 : cX6_unsureToAsk.data.toList.drop 36 = sX6_unsureToAsk_36 := dn3 hX6_unsureToAsk_33
theorem dX6_unsureToAsk_36 : decode cX6_unsureToAsk 36 = .ok (.iload 5, 2) := dk21 hX6_unsureToAsk_36 rfl
theorem hX6_unsureToAsk_38 : cX6_unsureToAsk.data.toList.drop 38 = sX6_unsureToAsk_38 := dn2 hX6_unsureToAsk_36
theorem dX6_unsureToAsk_38 : decode cX6_unsureToAsk 38 = .ok (.iload_n 3, 1) := dk29 hX6_unsureToAsk_38
theorem hX6_unsureToAsk_39 : cX6_unsureToAsk.data.toList.drop 39 = sX6_unsureToAsk_39 := dn1 hX6_unsureToAsk_38
theorem dX6_unsureToAsk_39 : decode cX6_unsureToAsk 39 = .ok (.if_icmp .ge 9, 3) := dk162 hX6_unsureToAsk_39 (by decide)
theorem hX6_unsureToAsk_42 : cX6_unsureToAsk.data.toList.drop 42 = sX6_unsureToAsk_42 := dn3 hX6_unsureToAsk_39
theorem dX6_unsureToAsk_42 : decode cX6_unsureToAsk 42 = .ok (.iload 4, 2) := dk21 hX6_unsureToAsk_42 rfl
theorem hX6_unsureToAsk_44 : cX6_unsureToAsk.data.toList.drop 44 = sX6_unsureToAsk_44 := dn2 hX6_unsureToAsk_42
theorem dX6_unsureToAsk_44 : decode cX6_unsureToAsk 44 = .ok (.istore_n 2, 1) := dk61 hX6_unsureToAsk_44
theorem hX6_unsureToAsk_45 : cX6_unsureToAsk.data.toList.drop 45 = sX6_unsureToAsk_45 := dn1 hX6_unsureToAsk_44
theorem dX6_unsureToAsk_45 : decode cX6_unsureToAsk 45 = .ok (.iload 5, 2) := dk21 hX6_unsureToAsk_45 rfl
theorem hX6_unsureToAsk_47 : cX6_unsureToAsk.data.toList.drop 47 = sX6_unsureToAsk_47 := dn2 hX6_unsureToAsk_45
theorem dX6_unsureToAsk_47 : decode cX6_unsureToAsk 47 = .ok (.istore_n 3, 1) := dk62 hX6_unsureToAsk_47
theorem hX6_unsureToAsk_48 : cX6_unsureToAsk.data.toList.drop 48 = sX6_unsureToAsk_48 := dn1 hX6_unsureToAsk_47
theorem dX6_unsureToAsk_48 : decode cX6_unsureToAsk 48 = .ok (.iinc 4 1, 3) := dk132 hX6_unsureToAsk_48 rfl (by decide)
theorem hX6_unsureToAsk_51 : cX6_unsureToAsk.data.toList.drop 51 = sX6_unsureToAsk_51 := dn3 hX6_unsureToAsk_48
theorem dX6_unsureToAsk_51 : decode cX6_unsureToAsk 51 = .ok (.goto (-44), 3) := dk167 hX6_unsureToAsk_51 (by decide)
theorem hX6_unsureToAsk_54 : cX6_unsureToAsk.data.toList.drop 54 = sX6_unsureToAsk_54 := dn3 hX6_unsureToAsk_51
theorem dX6_unsureToAsk_54 : decode cX6_unsureToAsk 54 = .ok (.iload_n 2, 1) := dk28 hX6_unsureToAsk_54
theorem hX6_unsureToAsk_55 : cX6_unsureToAsk.data.toList.drop 55 = sX6_unsureToAsk_55 := dn1 hX6_unsureToAsk_54
theorem dX6_unsureToAsk_55 : decode cX6_unsureToAsk 55 = .ok (.ireturn, 1) := dk172 hX6_unsureToAsk_55
noncomputable def sX6_weight_56 : List UInt8 := 172 :: []
noncomputable def sX6_weight_55 : List UInt8 := 46 :: sX6_weight_56
noncomputable def sX6_weight_54 : List UInt8 := 96 :: sX6_weight_55
noncomputable def sX6_weight_53 : List UInt8 := 29 :: sX6_weight_54
noncomputable def sX6_weight_52 : List UInt8 := 104 :: sX6_weight_53
noncomputable def sX6_weight_51 : List UInt8 := 7 :: sX6_weight_52
noncomputable def sX6_weight_50 : List UInt8 := 27 :: sX6_weight_51
noncomputable def sX6_weight_47 : List UInt8 := 180 :: 0 :: 137 :: sX6_weight_50
noncomputable def sX6_weight_44 : List UInt8 := 180 :: 0 :: 19 :: sX6_weight_47
noncomputable def sX6_weight_43 : List UInt8 := 42 :: sX6_weight_44
noncomputable def sX6_weight_42 : List UInt8 := 172 :: sX6_weight_43
noncomputable def sX6_weight_39 : List UInt8 := 182 :: 0 :: 66 :: sX6_weight_42
noncomputable def sX6_weight_38 : List UInt8 := 4 :: sX6_weight_39
noncomputable def sX6_weight_37 : List UInt8 := 42 :: sX6_weight_38
noncomputable def sX6_weight_34 : List UInt8 := 156 :: 0 :: 9 :: sX6_weight_37
noncomputable def sX6_weight_33 : List UInt8 := 29 :: sX6_weight_34
noncomputable def sX6_weight_30 : List UInt8 := 160 :: 0 :: 7 :: sX6_weight_33
noncomputable def sX6_weight_29 : List UInt8 := 6 :: sX6_weight_30
noncomputable def sX6_weight_28 : List UInt8 := 46 :: sX6_weight_29
noncomputable def sX6_weight_27 : List UInt8 := 27 :: sX6_weight_28
noncomputable def sX6_weight_24 : List UInt8 := 180 :: 0 :: 109 :: sX6_weight_27
noncomputable def sX6_weight_21 : List UInt8 := 180 :: 0 :: 19 :: sX6_weight_24
noncomputable def sX6_weight_20 : List UInt8 := 42 :: sX6_weight_21
noncomputable def sX6_weight_19 : List UInt8 := 62 :: sX6_weight_20
noncomputable def sX6_weight_16 : List UInt8 := 182 :: 0 :: 133 :: sX6_weight_19
noncomputable def sX6_weight_15 : List UInt8 := 28 :: sX6_weight_16
noncomputable def sX6_weight_14 : List UInt8 := 27 :: sX6_weight_15
noncomputable def sX6_weight_11 : List UInt8 := 180 :: 0 :: 19 :: sX6_weight_14
noncomputable def sX6_weight_10 : List UInt8 := 42 :: sX6_weight_11
noncomputable def sX6_weight_9 : List UInt8 := 172 :: sX6_weight_10
noncomputable def sX6_weight_8 : List UInt8 := 2 :: sX6_weight_9
noncomputable def sX6_weight_5 : List UInt8 := 153 :: 0 :: 5 :: sX6_weight_8
noncomputable def sX6_weight_2 : List UInt8 := 182 :: 0 :: 106 :: sX6_weight_5
noncomputable def sX6_weight_1 : List UInt8 := 27 :: sX6_weight_2
noncomputable def sX6_weight_0 : List UInt8 := 42 :: sX6_weight_1
set_option maxRecDepth 100000 in
theorem hX6_weight_0 : cX6_weight.data.toList.drop 0 = sX6_weight_0 := by decide +kernel
theorem dX6_weight_0 : decode cX6_weight 0 = .ok (.aload_n 0, 1) := dk42 hX6_weight_0
theorem hX6_weight_1 : cX6_weight.data.toList.drop 1 = sX6_weight_1 := dn1 hX6_weight_0
theorem dX6_weight_1 : decode cX6_weight 1 = .ok (.iload_n 1, 1) := dk27 hX6_weight_1
theorem hX6_weight_2 : cX6_weight.data.toList.drop 2 = sX6_weight_2 := dn1 hX6_weight_1
theorem dX6_weight_2 : decode cX6_weight 2 = .ok (.invokevirtual 106, 3) := dk182 hX6_weight_2 rfl
theorem hX6_weight_5 : cX6_weight.data.toList.drop 5 = sX6_weight_5 := dn3 hX6_weight_2
theorem dX6_weight_5 : decode cX6_weight 5 = .ok (.ifCond .eq 5, 3) := dk153 hX6_weight_5 (by decide)
theorem hX6_weight_8 : cX6_weight.data.toList.drop 8 = sX6_weight_8 := dn3 hX6_weight_5
theorem dX6_weight_8 : decode cX6_weight 8 = .ok (.iconst (-1), 1) := dk2 hX6_weight_8
theorem hX6_weight_9 : cX6_weight.data.toList.drop 9 = sX6_weight_9 := dn1 hX6_weight_8
theorem dX6_weight_9 : decode cX6_weight 9 = .ok (.ireturn, 1) := dk172 hX6_weight_9
theorem hX6_weight_10 : cX6_weight.data.toList.drop 10 = sX6_weight_10 := dn1 hX6_weight_9
theorem dX6_weight_10 : decode cX6_weight 10 = .ok (.aload_n 0, 1) := dk42 hX6_weight_10
theorem hX6_weight_11 : cX6_weight.data.toList.drop 11 = sX6_weight_11 := dn1 hX6_weight_10
theorem dX6_weight_11 : decode cX6_weight 11 = .ok (.getfield 19, 3) := dk180 hX6_weight_11 rfl
theorem hX6_weight_14 : cX6_weight.data.toList.drop 14 = sX6_weight_14 := dn3 hX6_weight_11
theorem dX6_weight_14 : decode cX6_weight 14 = .ok (.iload_n 1, 1) := dk27 hX6_weight_14
theorem hX6_weight_15 : cX6_weight.data.toList.drop 15 = sX6_weight_15 := dn1 hX6_weight_14
theorem dX6_weight_15 : decode cX6_weight 15 = .ok (.iload_n 2, 1) := dk28 hX6_weight_15
theorem hX6_weight_16 : cX6_weight.data.toList.drop 16 = sX6_weight_16 := dn1 hX6_weight_15
theorem dX6_weight_16 : decode cX6_weight 16 = .ok (.invokevirtual 133, 3) := dk182 hX6_weight_16 rfl
theorem hX6_weight_19 : cX6_weight.data.toList.drop 19 = sX6_weight_19 := dn3 hX6_weight_16
theorem dX6_weight_19 : decode cX6_weight 19 = .ok (.istore_n 3, 1) := dk62 hX6_weight_19
theorem hX6_weight_20 : cX6_weight.data.toList.drop 20 = sX6_weight_20 := dn1 hX6_weight_19
theorem dX6_weight_20 : decode cX6_weight 20 = .ok (.aload_n 0, 1) := dk42 hX6_weight_20
theorem hX6_weight_21 : cX6_weight.data.toList.drop 21 = sX6_weight_21 := dn1 hX6_weight_20
theorem dX6_weight_21 : decode cX6_weight 21 = .ok (.getfield 19, 3) := dk180 hX6_weight_21 rfl
theorem hX6_weight_24 : cX6_weight.data.toList.drop 24 = sX6_weight_24 := dn3 hX6_weight_21
theorem dX6_weight_24 : decode cX6_weight 24 = .ok (.getfield 109, 3) := dk180 hX6_weight_24 rfl
theorem hX6_weight_27 : cX6_weight.data.toList.drop 27 = sX6_weight_27 := dn3 hX6_weight_24
theorem dX6_weight_27 : decode cX6_weight 27 = .ok (.iload_n 1, 1) := dk27 hX6_weight_27
theorem hX6_weight_28 : cX6_weight.data.toList.drop 28 = sX6_weight_28 := dn1 hX6_weight_27
theorem dX6_weight_28 : decode cX6_weight 28 = .ok (.iaload, 1) := dk46 hX6_weight_28
theorem hX6_weight_29 : cX6_weight.data.toList.drop 29 = sX6_weight_29 := dn1 hX6_weight_28
theorem dX6_weight_29 : decode cX6_weight 29 = .ok (.iconst 3, 1) := dk6 hX6_weight_29
theorem hX6_weight_30 : cX6_weight.data.toList.drop 30 = sX6_weight_30 := dn1 hX6_weight_29
theorem dX6_weight_30 : decode cX6_weight 30 = .ok (.if_icmp .ne 7, 3) := dk160 hX6_weight_30 (by decide)
theorem hX6_weight_33 : cX6_weight.data.toList.drop 33 = sX6_weight_33 := dn3 hX6_weight_30
theorem dX6_weight_33 : decode cX6_weight 33 = .ok (.iload_n 3, 1) := dk29 hX6_weight_33
theorem hX6_weight_34 : cX6_weight.data.toList.drop 34 = sX6_weight_34 := dn1 hX6_weight_33
theorem dX6_weight_34 : decode cX6_weight 34 = .ok (.ifCond .ge 9, 3) := dk156 hX6_weight_34 (by decide)
theorem hX6_weight_37 : cX6_weight.data.toList.drop 37 = sX6_weight_37 := dn3 hX6_weight_34
theorem dX6_weight_37 : decode cX6_weight 37 = .ok (.aload_n 0, 1) := dk42 hX6_weight_37
theorem hX6_weight_38 : cX6_weight.data.toList.drop 38 = sX6_weight_38 := dn1 hX6_weight_37
theorem dX6_weight_38 : decode cX6_weight 38 = .ok (.iconst 1, 1) := dk4 hX6_weight_38
theorem hX6_weight_39 : cX6_weight.data.toList.drop 39 = sX6_weight_39 := dn1 hX6_weight_38
theorem dX6_weight_39 : decode cX6_weight 39 = .ok (.invokevirtual 66, 3) := dk182 hX6_weight_39 rfl
theorem hX6_weight_42 : cX6_weight.data.toList.drop 42 = sX6_weight_42 := dn3 hX6_weight_39
theorem dX6_weight_42 : decode cX6_weight 42 = .ok (.ireturn, 1) := dk172 hX6_weight_42
theorem hX6_weight_43 : cX6_weight.data.toList.drop 43 = sX6_weight_43 := dn1 hX6_weight_42
theorem dX6_weight_43 : decode cX6_weight 43 = .ok (.aload_n 0, 1) := dk42 hX6_weight_43
theorem hX6_weight_44 : cX6_weight.data.toList.drop 44 = sX6_weight_44 := dn1 hX6_weight_43
theorem dX6_weight_44 : decode cX6_weight 44 = .ok (.getfield 19, 3) := dk180 hX6_weight_44 rfl
theorem hX6_weight_47 : cX6_weight.data.toList.drop 47 = sX6_weight_47 := dn3 hX6_weight_44
theorem dX6_weight_47 : decode cX6_weight 47 = .ok (.getfield 137, 3) := dk180 hX6_weight_47 rfl
theorem hX6_weight_50 : cX6_weight.data.toList.drop 50 = sX6_weight_50 := dn3 hX6_weight_47
theorem dX6_weight_50 : decode cX6_weight 50 = .ok (.iload_n 1, 1) := dk27 hX6_weight_50
theorem hX6_weight_51 : cX6_weight.data.toList.drop 51 = sX6_weight_51 := dn1 hX6_weight_50
theorem dX6_weight_51 : decode cX6_weight 51 = .ok (.iconst 4, 1) := dk7 hX6_weight_51
theorem hX6_weight_52 : cX6_weight.data.toList.drop 52 = sX6_weight_52 := dn1 hX6_weight_51
theorem dX6_weight_52 : decode cX6_weight 52 = .ok (.imul, 1) := dk104 hX6_weight_52
theorem hX6_weight_53 : cX6_weight.data.toList.drop 53 = sX6_weight_53 := dn1 hX6_weight_52
theorem dX6_weight_53 : decode cX6_weight 53 = .ok (.iload_n 3, 1) := dk29 hX6_weight_53
theorem hX6_weight_54 : cX6_weight.data.toList.drop 54 = sX6_weight_54 := dn1 hX6_weight_53
theorem dX6_weight_54 : decode cX6_weight 54 = .ok (.iadd, 1) := dk96 hX6_weight_54
theorem hX6_weight_55 : cX6_weight.data.toList.drop 55 = sX6_weight_55 := dn1 hX6_weight_54
theorem dX6_weight_55 : decode cX6_weight 55 = .ok (.iaload, 1) := dk46 hX6_weight_55
theorem hX6_weight_56 : cX6_weight.data.toList.drop 56 = sX6_weight_56 := dn1 hX6_weight_55
theorem dX6_weight_56 : decode cX6_weight 56 = .ok (.ireturn, 1) := dk172 hX6_weight_56
noncomputable def sX6_where_16 : List UInt8 := 172 :: []
noncomputable def sX6_where_15 : List UInt8 := 2 :: sX6_where_16
noncomputable def sX6_where_12 : List UInt8 := 167 :: 0 :: 4 :: sX6_where_15
noncomputable def sX6_where_9 : List UInt8 := 180 :: 0 :: 83 :: sX6_where_12
noncomputable def sX6_where_8 : List UInt8 := 42 :: sX6_where_9
noncomputable def sX6_where_5 : List UInt8 := 160 :: 0 :: 10 :: sX6_where_8
noncomputable def sX6_where_4 : List UInt8 := 7 :: sX6_where_5
noncomputable def sX6_where_1 : List UInt8 := 180 :: 0 :: 100 :: sX6_where_4
noncomputable def sX6_where_0 : List UInt8 := 42 :: sX6_where_1
set_option maxRecDepth 100000 in
theorem hX6_where_0 : cX6_where.data.toList.drop 0 = sX6_where_0 := by decide +kernel
theorem dX6_where_0 : decode cX6_where 0 = .ok (.aload_n 0, 1) := dk42 hX6_where_0
theorem hX6_where_1 : cX6_where.data.toList.drop 1 = sX6_where_1 := dn1 hX6_where_0
theorem dX6_where_1 : decode cX6_where 1 = .ok (.getfield 100, 3) := dk180 hX6_where_1 rfl
theorem hX6_where_4 : cX6_where.data.toList.drop 4 = sX6_where_4 := dn3 hX6_where_1
theorem dX6_where_4 : decode cX6_where 4 = .ok (.iconst 4, 1) := dk7 hX6_where_4
theorem hX6_where_5 : cX6_where.data.toList.drop 5 = sX6_where_5 := dn1 hX6_where_4
theorem dX6_where_5 : decode cX6_where 5 = .ok (.if_icmp .ne 10, 3) := dk160 hX6_where_5 (by decide)
theorem hX6_where_8 : cX6_where.data.toList.drop 8 = sX6_where_8 := dn3 hX6_where_5
theorem dX6_where_8 : decode cX6_where 8 = .ok (.aload_n 0, 1) := dk42 hX6_where_8
theorem hX6_where_9 : cX6_where.data.toList.drop 9 = sX6_where_9 := dn1 hX6_where_8
theorem dX6_where_9 : decode cX6_where 9 = .ok (.getfield 83, 3) := dk180 hX6_where_9 rfl
theorem hX6_where_12 : cX6_where.data.toList.drop 12 = sX6_where_12 := dn3 hX6_where_9
theorem dX6_where_12 : decode cX6_where 12 = .ok (.goto 4, 3) := dk167 hX6_where_12 (by decide)
theorem hX6_where_15 : cX6_where.data.toList.drop 15 = sX6_where_15 := dn3 hX6_where_12
theorem dX6_where_15 : decode cX6_where 15 = .ok (.iconst (-1), 1) := dk2 hX6_where_15
theorem hX6_where_16 : cX6_where.data.toList.drop 16 = sX6_where_16 := dn1 hX6_where_15
theorem dX6_where_16 : decode cX6_where 16 = .ok (.ireturn, 1) := dk172 hX6_where_16
noncomputable def sX6_whole_22 : List UInt8 := 172 :: []
noncomputable def sX6_whole_19 : List UInt8 := 182 :: 0 :: 173 :: sX6_whole_22
noncomputable def sX6_whole_16 : List UInt8 := 180 :: 0 :: 19 :: sX6_whole_19
noncomputable def sX6_whole_15 : List UInt8 := 42 :: sX6_whole_16
noncomputable def sX6_whole_12 : List UInt8 := 180 :: 0 :: 54 :: sX6_whole_15
noncomputable def sX6_whole_11 : List UInt8 := 42 :: sX6_whole_12
noncomputable def sX6_whole_8 : List UInt8 := 167 :: 0 :: 14 :: sX6_whole_11
noncomputable def sX6_whole_7 : List UInt8 := 2 :: sX6_whole_8
noncomputable def sX6_whole_4 : List UInt8 := 153 :: 0 :: 7 :: sX6_whole_7
noncomputable def sX6_whole_1 : List UInt8 := 182 :: 0 :: 140 :: sX6_whole_4
noncomputable def sX6_whole_0 : List UInt8 := 42 :: sX6_whole_1
set_option maxRecDepth 100000 in
theorem hX6_whole_0 : cX6_whole.data.toList.drop 0 = sX6_whole_0 := by decide +kernel
theorem dX6_whole_0 : decode cX6_whole 0 = .ok (.aload_n 0, 1) := dk42 hX6_whole_0
theorem hX6_whole_1 : cX6_whole.data.toList.drop 1 = sX6_whole_1 := dn1 hX6_whole_0
theorem dX6_whole_1 : decode cX6_whole 1 = .ok (.invokevirtual 140, 3) := dk182 hX6_whole_1 rfl
theorem hX6_whole_4 : cX6_whole.data.toList.drop 4 = sX6_whole_4 := dn3 hX6_whole_1
theorem dX6_whole_4 : decode cX6_whole 4 = .ok (.ifCond .eq 7, 3) := dk153 hX6_whole_4 (by decide)
theorem hX6_whole_7 : cX6_whole.data.toList.drop 7 = sX6_whole_7 := dn3 hX6_whole_4
theorem dX6_whole_7 : decode cX6_whole 7 = .ok (.iconst (-1), 1) := dk2 hX6_whole_7
theorem hX6_whole_8 : cX6_whole.data.toList.drop 8 = sX6_whole_8 := dn1 hX6_whole_7
theorem dX6_whole_8 : decode cX6_whole 8 = .ok (.goto 14, 3) := dk167 hX6_whole_8 (by decide)
theorem hX6_whole_11 : cX6_whole.data.toList.drop 11 = sX6_whole_11 := dn3 hX6_whole_8
theorem dX6_whole_11 : decode cX6_whole 11 = .ok (.aload_n 0, 1) := dk42 hX6_whole_11
theorem hX6_whole_12 : cX6_whole.data.toList.drop 12 = sX6_whole_12 := dn1 hX6_whole_11
theorem dX6_whole_12 : decode cX6_whole 12 = .ok (.getfield 54, 3) := dk180 hX6_whole_12 rfl
theorem hX6_whole_15 : cX6_whole.data.toList.drop 15 = sX6_whole_15 := dn3 hX6_whole_12
theorem dX6_whole_15 : decode cX6_whole 15 = .ok (.aload_n 0, 1) := dk42 hX6_whole_15
theorem hX6_whole_16 : cX6_whole.data.toList.drop 16 = sX6_whole_16 := dn1 hX6_whole_15
theorem dX6_whole_16 : decode cX6_whole 16 = .ok (.getfield 19, 3) := dk180 hX6_whole_16 rfl
theorem hX6_whole_19 : cX6_whole.data.toList.drop 19 = sX6_whole_19 := dn3 hX6_whole_16
theorem dX6_whole_19 : decode cX6_whole 19 = .ok (.invokevirtual 173, 3) := dk182 hX6_whole_19 rfl
theorem hX6_whole_22 : cX6_whole.data.toList.drop 22 = sX6_whole_22 := dn3 hX6_whole_19
theorem dX6_whole_22 : decode cX6_whole 22 = .ok (.ireturn, 1) := dk172 hX6_whole_22
noncomputable def sX6_wholeOf_11 : List UInt8 := 172 :: []
noncomputable def sX6_wholeOf_10 : List UInt8 := 3 :: sX6_wholeOf_11
noncomputable def sX6_wholeOf_7 : List UInt8 := 167 :: 0 :: 4 :: sX6_wholeOf_10
noncomputable def sX6_wholeOf_6 : List UInt8 := 108 :: sX6_wholeOf_7
noncomputable def sX6_wholeOf_5 : List UInt8 := 27 :: sX6_wholeOf_6
noncomputable def sX6_wholeOf_4 : List UInt8 := 26 :: sX6_wholeOf_5
noncomputable def sX6_wholeOf_1 : List UInt8 := 158 :: 0 :: 9 :: sX6_wholeOf_4
noncomputable def sX6_wholeOf_0 : List UInt8 := 27 :: sX6_wholeOf_1
set_option maxRecDepth 100000 in
theorem hX6_wholeOf_0 : cX6_wholeOf.data.toList.drop 0 = sX6_wholeOf_0 := by decide +kernel
theorem dX6_wholeOf_0 : decode cX6_wholeOf 0 = .ok (.iload_n 1, 1) := dk27 hX6_wholeOf_0
theorem hX6_wholeOf_1 : cX6_wholeOf.data.toList.drop 1 = sX6_wholeOf_1 := dn1 hX6_wholeOf_0
theorem dX6_wholeOf_1 : decode cX6_wholeOf 1 = .ok (.ifCond .le 9, 3) := dk158 hX6_wholeOf_1 (by decide)
theorem hX6_wholeOf_4 : cX6_wholeOf.data.toList.drop 4 = sX6_wholeOf_4 := dn3 hX6_wholeOf_1
theorem dX6_wholeOf_4 : decode cX6_wholeOf 4 = .ok (.iload_n 0, 1) := dk26 hX6_wholeOf_4
theorem hX6_wholeOf_5 : cX6_wholeOf.data.toList.drop 5 = sX6_wholeOf_5 := dn1 hX6_wholeOf_4
theorem dX6_wholeOf_5 : decode cX6_wholeOf 5 = .ok (.iload_n 1, 1) := dk27 hX6_wholeOf_5
theorem hX6_wholeOf_6 : cX6_wholeOf.data.toList.drop 6 = sX6_wholeOf_6 := dn1 hX6_wholeOf_5
theorem dX6_wholeOf_6 : decode cX6_wholeOf 6 = .ok (.idiv, 1) := dk108 hX6_wholeOf_6
theorem hX6_wholeOf_7 : cX6_wholeOf.data.toList.drop 7 = sX6_wholeOf_7 := dn1 hX6_wholeOf_6
theorem dX6_wholeOf_7 : decode cX6_wholeOf 7 = .ok (.goto 4, 3) := dk167 hX6_wholeOf_7 (by decide)
theorem hX6_wholeOf_10 : cX6_wholeOf.data.toList.drop 10 = sX6_wholeOf_10 := dn3 hX6_wholeOf_7
theorem dX6_wholeOf_10 : decode cX6_wholeOf 10 = .ok (.iconst 0, 1) := dk3 hX6_wholeOf_10
theorem hX6_wholeOf_11 : cX6_wholeOf.data.toList.drop 11 = sX6_wholeOf_11 := dn1 hX6_wholeOf_10
theorem dX6_wholeOf_11 : decode cX6_wholeOf 11 = .ok (.ireturn, 1) := dk172 hX6_wholeOf_11
noncomputable def sX6_worth_53 : List UInt8 := 173 :: []
noncomputable def sX6_worth_50 : List UInt8 := 184 :: 0 :: 162 :: sX6_worth_53
noncomputable def sX6_worth_49 : List UInt8 := 28 :: sX6_worth_50
noncomputable def sX6_worth_48 : List UInt8 := 133 :: sX6_worth_49
noncomputable def sX6_worth_45 : List UInt8 := 180 :: 0 :: 159 :: sX6_worth_48
noncomputable def sX6_worth_42 : List UInt8 := 180 :: 0 :: 19 :: sX6_worth_45
noncomputable def sX6_worth_41 : List UInt8 := 42 :: sX6_worth_42
noncomputable def sX6_worth_40 : List UInt8 := 133 :: sX6_worth_41
noncomputable def sX6_worth_39 : List UInt8 := 46 :: sX6_worth_40
noncomputable def sX6_worth_38 : List UInt8 := 27 :: sX6_worth_39
noncomputable def sX6_worth_35 : List UInt8 := 180 :: 0 :: 156 :: sX6_worth_38
noncomputable def sX6_worth_32 : List UInt8 := 180 :: 0 :: 54 :: sX6_worth_35
noncomputable def sX6_worth_31 : List UInt8 := 42 :: sX6_worth_32
noncomputable def sX6_worth_30 : List UInt8 := 87 :: sX6_worth_31
noncomputable def sX6_worth_27 : List UInt8 := 182 :: 0 :: 152 :: sX6_worth_30
noncomputable def sX6_worth_24 : List UInt8 := 180 :: 0 :: 149 :: sX6_worth_27
noncomputable def sX6_worth_21 : List UInt8 := 180 :: 0 :: 26 :: sX6_worth_24
noncomputable def sX6_worth_20 : List UInt8 := 42 :: sX6_worth_21
noncomputable def sX6_worth_17 : List UInt8 := 180 :: 0 :: 19 :: sX6_worth_20
noncomputable def sX6_worth_16 : List UInt8 := 42 :: sX6_worth_17
noncomputable def sX6_worth_13 : List UInt8 := 180 :: 0 :: 54 :: sX6_worth_16
noncomputable def sX6_worth_12 : List UInt8 := 42 :: sX6_worth_13
noncomputable def sX6_worth_11 : List UInt8 := 173 :: sX6_worth_12
noncomputable def sX6_worth_8 : List UInt8 := 20 :: 0 :: 147 :: sX6_worth_11
noncomputable def sX6_worth_5 : List UInt8 := 153 :: 0 :: 7 :: sX6_worth_8
noncomputable def sX6_worth_2 : List UInt8 := 182 :: 0 :: 106 :: sX6_worth_5
noncomputable def sX6_worth_1 : List UInt8 := 27 :: sX6_worth_2
noncomputable def sX6_worth_0 : List UInt8 := 42 :: sX6_worth_1
set_option maxRecDepth 100000 in
theorem hX6_worth_0 : cX6_worth.data.toList.drop 0 = sX6_worth_0 := by decide +kernel
theorem dX6_worth_0 : decode cX6_worth 0 = .ok (.aload_n 0, 1) := dk42 hX6_worth_0
theorem hX6_worth_1 : cX6_worth.data.toList.drop 1 = sX6_worth_1 := dn1 hX6_worth_0
theorem dX6_worth_1 : decode cX6_worth 1 = .ok (.iload_n 1, 1) := dk27 hX6_worth_1
theorem hX6_worth_2 : cX6_worth.data.toList.drop 2 = sX6_worth_2 := dn1 hX6_worth_1
theorem dX6_worth_2 : decode cX6_worth 2 = .ok (.invokevirtual 106, 3) := dk182 hX6_worth_2 rfl
theorem hX6_worth_5 : cX6_worth.data.toList.drop 5 = sX6_worth_5 := dn3 hX6_worth_2
theorem dX6_worth_5 : decode cX6_worth 5 = .ok (.ifCond .eq 7, 3) := dk153 hX6_worth_5 (by decide)
theorem hX6_worth_8 : cX6_worth.data.toList.drop 8 = sX6_worth_8 := dn3 hX6_worth_5
theorem dX6_worth_8 : decode cX6_worth 8 = .ok (.ldc2_w 147, 3) := dk20 hX6_worth_8 rfl
theorem hX6_worth_11 : cX6_worth.data.toList.drop 11 = sX6_worth_11 := dn3 hX6_worth_8
theorem dX6_worth_11 : decode cX6_worth 11 = .ok (.lreturn, 1) := dk173 hX6_worth_11
theorem hX6_worth_12 : cX6_worth.data.toList.drop 12 = sX6_worth_12 := dn1 hX6_worth_11
theorem dX6_worth_12 : decode cX6_worth 12 = .ok (.aload_n 0, 1) := dk42 hX6_worth_12
theorem hX6_worth_13 : cX6_worth.data.toList.drop 13 = sX6_worth_13 := dn1 hX6_worth_12
theorem dX6_worth_13 : decode cX6_worth 13 = .ok (.getfield 54, 3) := dk180 hX6_worth_13 rfl
theorem hX6_worth_16 : cX6_worth.data.toList.drop 16 = sX6_worth_16 := dn3 hX6_worth_13
theorem dX6_worth_16 : decode cX6_worth 16 = .ok (.aload_n 0, 1) := dk42 hX6_worth_16
theorem hX6_worth_17 : cX6_worth.data.toList.drop 17 = sX6_worth_17 := dn1 hX6_worth_16
theorem dX6_worth_17 : decode cX6_worth 17 = .ok (.getfield 19, 3) := dk180 hX6_worth_17 rfl
theorem hX6_worth_20 : cX6_worth.data.toList.drop 20 = sX6_worth_20 := dn3 hX6_worth_17
theorem dX6_worth_20 : decode cX6_worth 20 = .ok (.aload_n 0, 1) := dk42 hX6_worth_20
theorem hX6_worth_21 : cX6_worth.data.toList.drop 21 = sX6_worth_21 := dn1 hX6_worth_20
theorem dX6_worth_21 : decode cX6_worth 21 = .ok (.getfield 26, 3) := dk180 hX6_worth_21 rfl
theorem hX6_worth_24 : cX6_worth.data.toList.drop 24 = sX6_worth_24 := dn3 hX6_worth_21
theorem dX6_worth_24 : decode cX6_worth 24 = .ok (.getfield 149, 3) := dk180 hX6_worth_24 rfl
theorem hX6_worth_27 : cX6_worth.data.toList.drop 27 = sX6_worth_27 := dn3 hX6_worth_24
theorem dX6_worth_27 : decode cX6_worth 27 = .ok (.invokevirtual 152, 3) := dk182 hX6_worth_27 rfl
theorem hX6_worth_30 : cX6_worth.data.toList.drop 30 = sX6_worth_30 := dn3 hX6_worth_27
theorem dX6_worth_30 : decode cX6_worth 30 = .ok (.pop, 1) := dk87 hX6_worth_30
theorem hX6_worth_31 : cX6_worth.data.toList.drop 31 = sX6_worth_31 := dn1 hX6_worth_30
theorem dX6_worth_31 : decode cX6_worth 31 = .ok (.aload_n 0, 1) := dk42 hX6_worth_31
theorem hX6_worth_32 : cX6_worth.data.toList.drop 32 = sX6_worth_32 := dn1 hX6_worth_31
theorem dX6_worth_32 : decode cX6_worth 32 = .ok (.getfield 54, 3) := dk180 hX6_worth_32 rfl
theorem hX6_worth_35 : cX6_worth.data.toList.drop 35 = sX6_worth_35 := dn3 hX6_worth_32
theorem dX6_worth_35 : decode cX6_worth 35 = .ok (.getfield 156, 3) := dk180 hX6_worth_35 rfl
theorem hX6_worth_38 : cX6_worth.data.toList.drop 38 = sX6_worth_38 := dn3 hX6_worth_35
theorem dX6_worth_38 : decode cX6_worth 38 = .ok (.iload_n 1, 1) := dk27 hX6_worth_38
theorem hX6_worth_39 : cX6_worth.data.toList.drop 39 = sX6_worth_39 := dn1 hX6_worth_38
theorem dX6_worth_39 : decode cX6_worth 39 = .ok (.iaload, 1) := dk46 hX6_worth_39
theorem hX6_worth_40 : cX6_worth.data.toList.drop 40 = sX6_worth_40 := dn1 hX6_worth_39
theorem dX6_worth_40 : decode cX6_worth 40 = .ok (.i2l, 1) := dk133 hX6_worth_40
theorem hX6_worth_41 : cX6_worth.data.toList.drop 41 = sX6_worth_41 := dn1 hX6_worth_40
theorem dX6_worth_41 : decode cX6_worth 41 = .ok (.aload_n 0, 1) := dk42 hX6_worth_41
theorem hX6_worth_42 : cX6_worth.data.toList.drop 42 = sX6_worth_42 := dn1 hX6_worth_41
theorem dX6_worth_42 : decode cX6_worth 42 = .ok (.getfield 19, 3) := dk180 hX6_worth_42 rfl
theorem hX6_worth_45 : cX6_worth.data.toList.drop 45 = sX6_worth_45 := dn3 hX6_worth_42
theorem dX6_worth_45 : decode cX6_worth 45 = .ok (.getfield 159, 3) := dk180 hX6_worth_45 rfl
theorem hX6_worth_48 : cX6_worth.data.toList.drop 48 = sX6_worth_48 := dn3 hX6_worth_45
theorem dX6_worth_48 : decode cX6_worth 48 = .ok (.i2l, 1) := dk133 hX6_worth_48
theorem hX6_worth_49 : cX6_worth.data.toList.drop 49 = sX6_worth_49 := dn1 hX6_worth_48
theorem dX6_worth_49 : decode cX6_worth 49 = .ok (.iload_n 2, 1) := dk28 hX6_worth_49
theorem hX6_worth_50 : cX6_worth.data.toList.drop 50 = sX6_worth_50 := dn1 hX6_worth_49
theorem dX6_worth_50 : decode cX6_worth 50 = .ok (.invokestatic 162, 3) := dk184 hX6_worth_50 rfl
theorem hX6_worth_53 : cX6_worth.data.toList.drop 53 = sX6_worth_53 := dn3 hX6_worth_50
theorem dX6_worth_53 : decode cX6_worth 53 = .ok (.lreturn, 1) := dk173 hX6_worth_53
