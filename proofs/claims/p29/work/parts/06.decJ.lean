noncomputable def sJ0_charAt_5068e_24 : List UInt8 := 172 :: []
noncomputable def sJ0_charAt_5068e_21 : List UInt8 := 184 :: 1 :: 242 :: sJ0_charAt_5068e_24
noncomputable def sJ0_charAt_5068e_20 : List UInt8 := 27 :: sJ0_charAt_5068e_21
noncomputable def sJ0_charAt_5068e_17 : List UInt8 := 180 :: 0 :: 9 :: sJ0_charAt_5068e_20
noncomputable def sJ0_charAt_5068e_16 : List UInt8 := 42 :: sJ0_charAt_5068e_17
noncomputable def sJ0_charAt_5068e_15 : List UInt8 := 172 :: sJ0_charAt_5068e_16
noncomputable def sJ0_charAt_5068e_12 : List UInt8 := 184 :: 1 :: 239 :: sJ0_charAt_5068e_15
noncomputable def sJ0_charAt_5068e_11 : List UInt8 := 27 :: sJ0_charAt_5068e_12
noncomputable def sJ0_charAt_5068e_8 : List UInt8 := 180 :: 0 :: 9 :: sJ0_charAt_5068e_11
noncomputable def sJ0_charAt_5068e_7 : List UInt8 := 42 :: sJ0_charAt_5068e_8
noncomputable def sJ0_charAt_5068e_4 : List UInt8 := 153 :: 0 :: 12 :: sJ0_charAt_5068e_7
noncomputable def sJ0_charAt_5068e_1 : List UInt8 := 182 :: 1 :: 236 :: sJ0_charAt_5068e_4
noncomputable def sJ0_charAt_5068e_0 : List UInt8 := 42 :: sJ0_charAt_5068e_1
set_option maxRecDepth 100000 in
theorem hJ0_charAt_5068e_0 : cJ0_charAt_5068e.data.toList.drop 0 = sJ0_charAt_5068e_0 := by decide +kernel
theorem dJ0_charAt_5068e_0 : decode cJ0_charAt_5068e 0 = .ok (.aload_n 0, 1) := dk42 hJ0_charAt_5068e_0
theorem hJ0_charAt_5068e_1 : cJ0_charAt_5068e.data.toList.drop 1 = sJ0_charAt_5068e_1 := dn1 hJ0_charAt_5068e_0
theorem dJ0_charAt_5068e_1 : decode cJ0_charAt_5068e 1 = .ok (.invokevirtual 492, 3) := dk182 hJ0_charAt_5068e_1 rfl
theorem hJ0_charAt_5068e_4 : cJ0_charAt_5068e.data.toList.drop 4 = sJ0_charAt_5068e_4 := dn3 hJ0_charAt_5068e_1
theorem dJ0_charAt_5068e_4 : decode cJ0_charAt_5068e 4 = .ok (.ifCond .eq 12, 3) := dk153 hJ0_charAt_5068e_4 (by decide)
theorem hJ0_charAt_5068e_7 : cJ0_charAt_5068e.data.toList.drop 7 = sJ0_charAt_5068e_7 := dn3 hJ0_charAt_5068e_4
theorem dJ0_charAt_5068e_7 : decode cJ0_charAt_5068e 7 = .ok (.aload_n 0, 1) := dk42 hJ0_charAt_5068e_7
theorem hJ0_charAt_5068e_8 : cJ0_charAt_5068e.data.toList.drop 8 = sJ0_charAt_5068e_8 := dn1 hJ0_charAt_5068e_7
theorem dJ0_charAt_5068e_8 : decode cJ0_charAt_5068e 8 = .ok (.getfield 9, 3) := dk180 hJ0_charAt_5068e_8 rfl
theorem hJ0_charAt_5068e_11 : cJ0_charAt_5068e.data.toList.drop 11 = sJ0_charAt_5068e_11 := dn3 hJ0_charAt_5068e_8
theorem dJ0_charAt_5068e_11 : decode cJ0_charAt_5068e 11 = .ok (.iload_n 1, 1) := dk27 hJ0_charAt_5068e_11
theorem hJ0_charAt_5068e_12 : cJ0_charAt_5068e.data.toList.drop 12 = sJ0_charAt_5068e_12 := dn1 hJ0_charAt_5068e_11
theorem dJ0_charAt_5068e_12 : decode cJ0_charAt_5068e 12 = .ok (.invokestatic 495, 3) := dk184 hJ0_charAt_5068e_12 rfl
theorem hJ0_charAt_5068e_15 : cJ0_charAt_5068e.data.toList.drop 15 = sJ0_charAt_5068e_15 := dn3 hJ0_charAt_5068e_12
theorem dJ0_charAt_5068e_15 : decode cJ0_charAt_5068e 15 = .ok (.ireturn, 1) := dk172 hJ0_charAt_5068e_15
theorem hJ0_charAt_5068e_16 : cJ0_charAt_5068e.data.toList.drop 16 = sJ0_charAt_5068e_16 := dn1 hJ0_charAt_5068e_15
theorem dJ0_charAt_5068e_16 : decode cJ0_charAt_5068e 16 = .ok (.aload_n 0, 1) := dk42 hJ0_charAt_5068e_16
theorem hJ0_charAt_5068e_17 : cJ0_charAt_5068e.data.toList.drop 17 = sJ0_charAt_5068e_17 := dn1 hJ0_charAt_5068e_16
theorem dJ0_charAt_5068e_17 : decode cJ0_charAt_5068e 17 = .ok (.getfield 9, 3) := dk180 hJ0_charAt_5068e_17 rfl
theorem hJ0_charAt_5068e_20 : cJ0_charAt_5068e.data.toList.drop 20 = sJ0_charAt_5068e_20 := dn3 hJ0_charAt_5068e_17
theorem dJ0_charAt_5068e_20 : decode cJ0_charAt_5068e 20 = .ok (.iload_n 1, 1) := dk27 hJ0_charAt_5068e_20
theorem hJ0_charAt_5068e_21 : cJ0_charAt_5068e.data.toList.drop 21 = sJ0_charAt_5068e_21 := dn1 hJ0_charAt_5068e_20
theorem dJ0_charAt_5068e_21 : decode cJ0_charAt_5068e 21 = .ok (.invokestatic 498, 3) := dk184 hJ0_charAt_5068e_21 rfl
theorem hJ0_charAt_5068e_24 : cJ0_charAt_5068e.data.toList.drop 24 = sJ0_charAt_5068e_24 := dn3 hJ0_charAt_5068e_21
theorem dJ0_charAt_5068e_24 : decode cJ0_charAt_5068e 24 = .ok (.ireturn, 1) := dk172 hJ0_charAt_5068e_24
noncomputable def sJ0_checkIndex_df160_9 : List UInt8 := 177 :: []
noncomputable def sJ0_checkIndex_df160_8 : List UInt8 := 87 :: sJ0_checkIndex_df160_9
noncomputable def sJ0_checkIndex_df160_5 : List UInt8 := 184 :: 4 :: 35 :: sJ0_checkIndex_df160_8
noncomputable def sJ0_checkIndex_df160_2 : List UInt8 := 178 :: 4 :: 29 :: sJ0_checkIndex_df160_5
noncomputable def sJ0_checkIndex_df160_1 : List UInt8 := 27 :: sJ0_checkIndex_df160_2
noncomputable def sJ0_checkIndex_df160_0 : List UInt8 := 26 :: sJ0_checkIndex_df160_1
set_option maxRecDepth 100000 in
theorem hJ0_checkIndex_df160_0 : cJ0_checkIndex_df160.data.toList.drop 0 = sJ0_checkIndex_df160_0 := by decide +kernel
theorem dJ0_checkIndex_df160_0 : decode cJ0_checkIndex_df160 0 = .ok (.iload_n 0, 1) := dk26 hJ0_checkIndex_df160_0
theorem hJ0_checkIndex_df160_1 : cJ0_checkIndex_df160.data.toList.drop 1 = sJ0_checkIndex_df160_1 := dn1 hJ0_checkIndex_df160_0
theorem dJ0_checkIndex_df160_1 : decode cJ0_checkIndex_df160 1 = .ok (.iload_n 1, 1) := dk27 hJ0_checkIndex_df160_1
theorem hJ0_checkIndex_df160_2 : cJ0_checkIndex_df160.data.toList.drop 2 = sJ0_checkIndex_df160_2 := dn1 hJ0_checkIndex_df160_1
theorem dJ0_checkIndex_df160_2 : decode cJ0_checkIndex_df160 2 = .ok (.getstatic 1053, 3) := dk178 hJ0_checkIndex_df160_2 rfl
theorem hJ0_checkIndex_df160_5 : cJ0_checkIndex_df160.data.toList.drop 5 = sJ0_checkIndex_df160_5 := dn3 hJ0_checkIndex_df160_2
theorem dJ0_checkIndex_df160_5 : decode cJ0_checkIndex_df160 5 = .ok (.invokestatic 1059, 3) := dk184 hJ0_checkIndex_df160_5 rfl
theorem hJ0_checkIndex_df160_8 : cJ0_checkIndex_df160.data.toList.drop 8 = sJ0_checkIndex_df160_8 := dn3 hJ0_checkIndex_df160_5
theorem dJ0_checkIndex_df160_8 : decode cJ0_checkIndex_df160 8 = .ok (.pop, 1) := dk87 hJ0_checkIndex_df160_8
theorem hJ0_checkIndex_df160_9 : cJ0_checkIndex_df160.data.toList.drop 9 = sJ0_checkIndex_df160_9 := dn1 hJ0_checkIndex_df160_8
theorem dJ0_checkIndex_df160_9 : decode cJ0_checkIndex_df160 9 = .ok (.return_, 1) := dk177 hJ0_checkIndex_df160_9
noncomputable def sJ0_coder_7d493_14 : List UInt8 := 172 :: []
noncomputable def sJ0_coder_7d493_13 : List UInt8 := 4 :: sJ0_coder_7d493_14
noncomputable def sJ0_coder_7d493_10 : List UInt8 := 167 :: 0 :: 4 :: sJ0_coder_7d493_13
noncomputable def sJ0_coder_7d493_7 : List UInt8 := 180 :: 0 :: 15 :: sJ0_coder_7d493_10
noncomputable def sJ0_coder_7d493_6 : List UInt8 := 42 :: sJ0_coder_7d493_7
noncomputable def sJ0_coder_7d493_3 : List UInt8 := 153 :: 0 :: 10 :: sJ0_coder_7d493_6
noncomputable def sJ0_coder_7d493_0 : List UInt8 := 178 :: 0 :: 38 :: sJ0_coder_7d493_3
set_option maxRecDepth 100000 in
theorem hJ0_coder_7d493_0 : cJ0_coder_7d493.data.toList.drop 0 = sJ0_coder_7d493_0 := by decide +kernel
theorem dJ0_coder_7d493_0 : decode cJ0_coder_7d493 0 = .ok (.getstatic 38, 3) := dk178 hJ0_coder_7d493_0 rfl
theorem hJ0_coder_7d493_3 : cJ0_coder_7d493.data.toList.drop 3 = sJ0_coder_7d493_3 := dn3 hJ0_coder_7d493_0
theorem dJ0_coder_7d493_3 : decode cJ0_coder_7d493 3 = .ok (.ifCond .eq 10, 3) := dk153 hJ0_coder_7d493_3 (by decide)
theorem hJ0_coder_7d493_6 : cJ0_coder_7d493.data.toList.drop 6 = sJ0_coder_7d493_6 := dn3 hJ0_coder_7d493_3
theorem dJ0_coder_7d493_6 : decode cJ0_coder_7d493 6 = .ok (.aload_n 0, 1) := dk42 hJ0_coder_7d493_6
theorem hJ0_coder_7d493_7 : cJ0_coder_7d493.data.toList.drop 7 = sJ0_coder_7d493_7 := dn1 hJ0_coder_7d493_6
theorem dJ0_coder_7d493_7 : decode cJ0_coder_7d493 7 = .ok (.getfield 15, 3) := dk180 hJ0_coder_7d493_7 rfl
theorem hJ0_coder_7d493_10 : cJ0_coder_7d493.data.toList.drop 10 = sJ0_coder_7d493_10 := dn3 hJ0_coder_7d493_7
theorem dJ0_coder_7d493_10 : decode cJ0_coder_7d493 10 = .ok (.goto 4, 3) := dk167 hJ0_coder_7d493_10 (by decide)
theorem hJ0_coder_7d493_13 : cJ0_coder_7d493.data.toList.drop 13 = sJ0_coder_7d493_13 := dn3 hJ0_coder_7d493_10
theorem dJ0_coder_7d493_13 : decode cJ0_coder_7d493 13 = .ok (.iconst 1, 1) := dk4 hJ0_coder_7d493_13
theorem hJ0_coder_7d493_14 : cJ0_coder_7d493.data.toList.drop 14 = sJ0_coder_7d493_14 := dn1 hJ0_coder_7d493_13
theorem dJ0_coder_7d493_14 : decode cJ0_coder_7d493 14 = .ok (.ireturn, 1) := dk172 hJ0_coder_7d493_14
noncomputable def sJ0_isLatin1_aae02_18 : List UInt8 := 172 :: []
noncomputable def sJ0_isLatin1_aae02_17 : List UInt8 := 3 :: sJ0_isLatin1_aae02_18
noncomputable def sJ0_isLatin1_aae02_14 : List UInt8 := 167 :: 0 :: 4 :: sJ0_isLatin1_aae02_17
noncomputable def sJ0_isLatin1_aae02_13 : List UInt8 := 4 :: sJ0_isLatin1_aae02_14
noncomputable def sJ0_isLatin1_aae02_10 : List UInt8 := 154 :: 0 :: 7 :: sJ0_isLatin1_aae02_13
noncomputable def sJ0_isLatin1_aae02_7 : List UInt8 := 180 :: 0 :: 15 :: sJ0_isLatin1_aae02_10
noncomputable def sJ0_isLatin1_aae02_6 : List UInt8 := 42 :: sJ0_isLatin1_aae02_7
noncomputable def sJ0_isLatin1_aae02_3 : List UInt8 := 153 :: 0 :: 14 :: sJ0_isLatin1_aae02_6
noncomputable def sJ0_isLatin1_aae02_0 : List UInt8 := 178 :: 0 :: 38 :: sJ0_isLatin1_aae02_3
set_option maxRecDepth 100000 in
theorem hJ0_isLatin1_aae02_0 : cJ0_isLatin1_aae02.data.toList.drop 0 = sJ0_isLatin1_aae02_0 := by decide +kernel
theorem dJ0_isLatin1_aae02_0 : decode cJ0_isLatin1_aae02 0 = .ok (.getstatic 38, 3) := dk178 hJ0_isLatin1_aae02_0 rfl
theorem hJ0_isLatin1_aae02_3 : cJ0_isLatin1_aae02.data.toList.drop 3 = sJ0_isLatin1_aae02_3 := dn3 hJ0_isLatin1_aae02_0
theorem dJ0_isLatin1_aae02_3 : decode cJ0_isLatin1_aae02 3 = .ok (.ifCond .eq 14, 3) := dk153 hJ0_isLatin1_aae02_3 (by decide)
theorem hJ0_isLatin1_aae02_6 : cJ0_isLatin1_aae02.data.toList.drop 6 = sJ0_isLatin1_aae02_6 := dn3 hJ0_isLatin1_aae02_3
theorem dJ0_isLatin1_aae02_6 : decode cJ0_isLatin1_aae02 6 = .ok (.aload_n 0, 1) := dk42 hJ0_isLatin1_aae02_6
theorem hJ0_isLatin1_aae02_7 : cJ0_isLatin1_aae02.data.toList.drop 7 = sJ0_isLatin1_aae02_7 := dn1 hJ0_isLatin1_aae02_6
theorem dJ0_isLatin1_aae02_7 : decode cJ0_isLatin1_aae02 7 = .ok (.getfield 15, 3) := dk180 hJ0_isLatin1_aae02_7 rfl
theorem hJ0_isLatin1_aae02_10 : cJ0_isLatin1_aae02.data.toList.drop 10 = sJ0_isLatin1_aae02_10 := dn3 hJ0_isLatin1_aae02_7
theorem dJ0_isLatin1_aae02_10 : decode cJ0_isLatin1_aae02 10 = .ok (.ifCond .ne 7, 3) := dk154 hJ0_isLatin1_aae02_10 (by decide)
theorem hJ0_isLatin1_aae02_13 : cJ0_isLatin1_aae02.data.toList.drop 13 = sJ0_isLatin1_aae02_13 := dn3 hJ0_isLatin1_aae02_10
theorem dJ0_isLatin1_aae02_13 : decode cJ0_isLatin1_aae02 13 = .ok (.iconst 1, 1) := dk4 hJ0_isLatin1_aae02_13
theorem hJ0_isLatin1_aae02_14 : cJ0_isLatin1_aae02.data.toList.drop 14 = sJ0_isLatin1_aae02_14 := dn1 hJ0_isLatin1_aae02_13
theorem dJ0_isLatin1_aae02_14 : decode cJ0_isLatin1_aae02 14 = .ok (.goto 4, 3) := dk167 hJ0_isLatin1_aae02_14 (by decide)
theorem hJ0_isLatin1_aae02_17 : cJ0_isLatin1_aae02.data.toList.drop 17 = sJ0_isLatin1_aae02_17 := dn3 hJ0_isLatin1_aae02_14
theorem dJ0_isLatin1_aae02_17 : decode cJ0_isLatin1_aae02 17 = .ok (.iconst 0, 1) := dk3 hJ0_isLatin1_aae02_17
theorem hJ0_isLatin1_aae02_18 : cJ0_isLatin1_aae02.data.toList.drop 18 = sJ0_isLatin1_aae02_18 := dn1 hJ0_isLatin1_aae02_17
theorem dJ0_isLatin1_aae02_18 : decode cJ0_isLatin1_aae02 18 = .ok (.ireturn, 1) := dk172 hJ0_isLatin1_aae02_18
noncomputable def sJ0_length_8abf5_10 : List UInt8 := 172 :: []
noncomputable def sJ0_length_8abf5_9 : List UInt8 := 122 :: sJ0_length_8abf5_10
noncomputable def sJ0_length_8abf5_6 : List UInt8 := 182 :: 1 :: 79 :: sJ0_length_8abf5_9
noncomputable def sJ0_length_8abf5_5 : List UInt8 := 42 :: sJ0_length_8abf5_6
noncomputable def sJ0_length_8abf5_4 : List UInt8 := 190 :: sJ0_length_8abf5_5
noncomputable def sJ0_length_8abf5_1 : List UInt8 := 180 :: 0 :: 9 :: sJ0_length_8abf5_4
noncomputable def sJ0_length_8abf5_0 : List UInt8 := 42 :: sJ0_length_8abf5_1
set_option maxRecDepth 100000 in
theorem hJ0_length_8abf5_0 : cJ0_length_8abf5.data.toList.drop 0 = sJ0_length_8abf5_0 := by decide +kernel
theorem dJ0_length_8abf5_0 : decode cJ0_length_8abf5 0 = .ok (.aload_n 0, 1) := dk42 hJ0_length_8abf5_0
theorem hJ0_length_8abf5_1 : cJ0_length_8abf5.data.toList.drop 1 = sJ0_length_8abf5_1 := dn1 hJ0_length_8abf5_0
theorem dJ0_length_8abf5_1 : decode cJ0_length_8abf5 1 = .ok (.getfield 9, 3) := dk180 hJ0_length_8abf5_1 rfl
theorem hJ0_length_8abf5_4 : cJ0_length_8abf5.data.toList.drop 4 = sJ0_length_8abf5_4 := dn3 hJ0_length_8abf5_1
theorem dJ0_length_8abf5_4 : decode cJ0_length_8abf5 4 = .ok (.arraylength, 1) := dk190 hJ0_length_8abf5_4
theorem hJ0_length_8abf5_5 : cJ0_length_8abf5.data.toList.drop 5 = sJ0_length_8abf5_5 := dn1 hJ0_length_8abf5_4
theorem dJ0_length_8abf5_5 : decode cJ0_length_8abf5 5 = .ok (.aload_n 0, 1) := dk42 hJ0_length_8abf5_5
theorem hJ0_length_8abf5_6 : cJ0_length_8abf5.data.toList.drop 6 = sJ0_length_8abf5_6 := dn1 hJ0_length_8abf5_5
theorem dJ0_length_8abf5_6 : decode cJ0_length_8abf5 6 = .ok (.invokevirtual 335, 3) := dk182 hJ0_length_8abf5_6 rfl
theorem hJ0_length_8abf5_9 : cJ0_length_8abf5.data.toList.drop 9 = sJ0_length_8abf5_9 := dn3 hJ0_length_8abf5_6
theorem dJ0_length_8abf5_9 : decode cJ0_length_8abf5 9 = .ok (.ishr, 1) := dk122 hJ0_length_8abf5_9
theorem hJ0_length_8abf5_10 : cJ0_length_8abf5.data.toList.drop 10 = sJ0_length_8abf5_10 := dn1 hJ0_length_8abf5_9
theorem dJ0_length_8abf5_10 : decode cJ0_length_8abf5 10 = .ok (.ireturn, 1) := dk172 hJ0_length_8abf5_10
noncomputable def sJ1_charAt_3b067_14 : List UInt8 := 172 :: []
noncomputable def sJ1_charAt_3b067_13 : List UInt8 := 146 :: sJ1_charAt_3b067_14
noncomputable def sJ1_charAt_3b067_12 : List UInt8 := 126 :: sJ1_charAt_3b067_13
noncomputable def sJ1_charAt_3b067_9 : List UInt8 := 17 :: 0 :: 255 :: sJ1_charAt_3b067_12
noncomputable def sJ1_charAt_3b067_8 : List UInt8 := 51 :: sJ1_charAt_3b067_9
noncomputable def sJ1_charAt_3b067_7 : List UInt8 := 27 :: sJ1_charAt_3b067_8
noncomputable def sJ1_charAt_3b067_6 : List UInt8 := 42 :: sJ1_charAt_3b067_7
noncomputable def sJ1_charAt_3b067_3 : List UInt8 := 184 :: 0 :: 9 :: sJ1_charAt_3b067_6
noncomputable def sJ1_charAt_3b067_2 : List UInt8 := 190 :: sJ1_charAt_3b067_3
noncomputable def sJ1_charAt_3b067_1 : List UInt8 := 42 :: sJ1_charAt_3b067_2
noncomputable def sJ1_charAt_3b067_0 : List UInt8 := 27 :: sJ1_charAt_3b067_1
set_option maxRecDepth 100000 in
theorem hJ1_charAt_3b067_0 : cJ1_charAt_3b067.data.toList.drop 0 = sJ1_charAt_3b067_0 := by decide +kernel
theorem dJ1_charAt_3b067_0 : decode cJ1_charAt_3b067 0 = .ok (.iload_n 1, 1) := dk27 hJ1_charAt_3b067_0
theorem hJ1_charAt_3b067_1 : cJ1_charAt_3b067.data.toList.drop 1 = sJ1_charAt_3b067_1 := dn1 hJ1_charAt_3b067_0
theorem dJ1_charAt_3b067_1 : decode cJ1_charAt_3b067 1 = .ok (.aload_n 0, 1) := dk42 hJ1_charAt_3b067_1
theorem hJ1_charAt_3b067_2 : cJ1_charAt_3b067.data.toList.drop 2 = sJ1_charAt_3b067_2 := dn1 hJ1_charAt_3b067_1
theorem dJ1_charAt_3b067_2 : decode cJ1_charAt_3b067 2 = .ok (.arraylength, 1) := dk190 hJ1_charAt_3b067_2
theorem hJ1_charAt_3b067_3 : cJ1_charAt_3b067.data.toList.drop 3 = sJ1_charAt_3b067_3 := dn1 hJ1_charAt_3b067_2
theorem dJ1_charAt_3b067_3 : decode cJ1_charAt_3b067 3 = .ok (.invokestatic 9, 3) := dk184 hJ1_charAt_3b067_3 rfl
theorem hJ1_charAt_3b067_6 : cJ1_charAt_3b067.data.toList.drop 6 = sJ1_charAt_3b067_6 := dn3 hJ1_charAt_3b067_3
theorem dJ1_charAt_3b067_6 : decode cJ1_charAt_3b067 6 = .ok (.aload_n 0, 1) := dk42 hJ1_charAt_3b067_6
theorem hJ1_charAt_3b067_7 : cJ1_charAt_3b067.data.toList.drop 7 = sJ1_charAt_3b067_7 := dn1 hJ1_charAt_3b067_6
theorem dJ1_charAt_3b067_7 : decode cJ1_charAt_3b067 7 = .ok (.iload_n 1, 1) := dk27 hJ1_charAt_3b067_7
theorem hJ1_charAt_3b067_8 : cJ1_charAt_3b067.data.toList.drop 8 = sJ1_charAt_3b067_8 := dn1 hJ1_charAt_3b067_7
theorem dJ1_charAt_3b067_8 : decode cJ1_charAt_3b067 8 = .ok (.baload, 1) := dk51 hJ1_charAt_3b067_8
theorem hJ1_charAt_3b067_9 : cJ1_charAt_3b067.data.toList.drop 9 = sJ1_charAt_3b067_9 := dn1 hJ1_charAt_3b067_8
theorem dJ1_charAt_3b067_9 : decode cJ1_charAt_3b067 9 = .ok (.sipush 255, 3) := dk17 hJ1_charAt_3b067_9 (by decide)
theorem hJ1_charAt_3b067_12 : cJ1_charAt_3b067.data.toList.drop 12 = sJ1_charAt_3b067_12 := dn3 hJ1_charAt_3b067_9
theorem dJ1_charAt_3b067_12 : decode cJ1_charAt_3b067 12 = .ok (.iand, 1) := dk126 hJ1_charAt_3b067_12
theorem hJ1_charAt_3b067_13 : cJ1_charAt_3b067.data.toList.drop 13 = sJ1_charAt_3b067_13 := dn1 hJ1_charAt_3b067_12
theorem dJ1_charAt_3b067_13 : decode cJ1_charAt_3b067 13 = .ok (.i2c, 1) := dk146 hJ1_charAt_3b067_13
theorem hJ1_charAt_3b067_14 : cJ1_charAt_3b067.data.toList.drop 14 = sJ1_charAt_3b067_14 := dn1 hJ1_charAt_3b067_13
theorem dJ1_charAt_3b067_14 : decode cJ1_charAt_3b067 14 = .ok (.ireturn, 1) := dk172 hJ1_charAt_3b067_14
noncomputable def sJ2_charAt_3b067_10 : List UInt8 := 172 :: []
noncomputable def sJ2_charAt_3b067_7 : List UInt8 := 184 :: 0 :: 71 :: sJ2_charAt_3b067_10
noncomputable def sJ2_charAt_3b067_6 : List UInt8 := 27 :: sJ2_charAt_3b067_7
noncomputable def sJ2_charAt_3b067_5 : List UInt8 := 42 :: sJ2_charAt_3b067_6
noncomputable def sJ2_charAt_3b067_2 : List UInt8 := 184 :: 0 :: 67 :: sJ2_charAt_3b067_5
noncomputable def sJ2_charAt_3b067_1 : List UInt8 := 42 :: sJ2_charAt_3b067_2
noncomputable def sJ2_charAt_3b067_0 : List UInt8 := 27 :: sJ2_charAt_3b067_1
set_option maxRecDepth 100000 in
theorem hJ2_charAt_3b067_0 : cJ2_charAt_3b067.data.toList.drop 0 = sJ2_charAt_3b067_0 := by decide +kernel
theorem dJ2_charAt_3b067_0 : decode cJ2_charAt_3b067 0 = .ok (.iload_n 1, 1) := dk27 hJ2_charAt_3b067_0
theorem hJ2_charAt_3b067_1 : cJ2_charAt_3b067.data.toList.drop 1 = sJ2_charAt_3b067_1 := dn1 hJ2_charAt_3b067_0
theorem dJ2_charAt_3b067_1 : decode cJ2_charAt_3b067 1 = .ok (.aload_n 0, 1) := dk42 hJ2_charAt_3b067_1
theorem hJ2_charAt_3b067_2 : cJ2_charAt_3b067.data.toList.drop 2 = sJ2_charAt_3b067_2 := dn1 hJ2_charAt_3b067_1
theorem dJ2_charAt_3b067_2 : decode cJ2_charAt_3b067 2 = .ok (.invokestatic 67, 3) := dk184 hJ2_charAt_3b067_2 rfl
theorem hJ2_charAt_3b067_5 : cJ2_charAt_3b067.data.toList.drop 5 = sJ2_charAt_3b067_5 := dn3 hJ2_charAt_3b067_2
theorem dJ2_charAt_3b067_5 : decode cJ2_charAt_3b067 5 = .ok (.aload_n 0, 1) := dk42 hJ2_charAt_3b067_5
theorem hJ2_charAt_3b067_6 : cJ2_charAt_3b067.data.toList.drop 6 = sJ2_charAt_3b067_6 := dn1 hJ2_charAt_3b067_5
theorem dJ2_charAt_3b067_6 : decode cJ2_charAt_3b067 6 = .ok (.iload_n 1, 1) := dk27 hJ2_charAt_3b067_6
theorem hJ2_charAt_3b067_7 : cJ2_charAt_3b067.data.toList.drop 7 = sJ2_charAt_3b067_7 := dn1 hJ2_charAt_3b067_6
theorem dJ2_charAt_3b067_7 : decode cJ2_charAt_3b067 7 = .ok (.invokestatic 71, 3) := dk184 hJ2_charAt_3b067_7 rfl
theorem hJ2_charAt_3b067_10 : cJ2_charAt_3b067.data.toList.drop 10 = sJ2_charAt_3b067_10 := dn3 hJ2_charAt_3b067_7
theorem dJ2_charAt_3b067_10 : decode cJ2_charAt_3b067 10 = .ok (.ireturn, 1) := dk172 hJ2_charAt_3b067_10
noncomputable def sJ2_checkIndex_2214a_8 : List UInt8 := 177 :: []
noncomputable def sJ2_checkIndex_2214a_5 : List UInt8 := 184 :: 1 :: 158 :: sJ2_checkIndex_2214a_8
noncomputable def sJ2_checkIndex_2214a_2 : List UInt8 := 184 :: 0 :: 48 :: sJ2_checkIndex_2214a_5
noncomputable def sJ2_checkIndex_2214a_1 : List UInt8 := 43 :: sJ2_checkIndex_2214a_2
noncomputable def sJ2_checkIndex_2214a_0 : List UInt8 := 26 :: sJ2_checkIndex_2214a_1
set_option maxRecDepth 100000 in
theorem hJ2_checkIndex_2214a_0 : cJ2_checkIndex_2214a.data.toList.drop 0 = sJ2_checkIndex_2214a_0 := by decide +kernel
theorem dJ2_checkIndex_2214a_0 : decode cJ2_checkIndex_2214a 0 = .ok (.iload_n 0, 1) := dk26 hJ2_checkIndex_2214a_0
theorem hJ2_checkIndex_2214a_1 : cJ2_checkIndex_2214a.data.toList.drop 1 = sJ2_checkIndex_2214a_1 := dn1 hJ2_checkIndex_2214a_0
theorem dJ2_checkIndex_2214a_1 : decode cJ2_checkIndex_2214a 1 = .ok (.aload_n 1, 1) := dk43 hJ2_checkIndex_2214a_1
theorem hJ2_checkIndex_2214a_2 : cJ2_checkIndex_2214a.data.toList.drop 2 = sJ2_checkIndex_2214a_2 := dn1 hJ2_checkIndex_2214a_1
theorem dJ2_checkIndex_2214a_2 : decode cJ2_checkIndex_2214a 2 = .ok (.invokestatic 48, 3) := dk184 hJ2_checkIndex_2214a_2 rfl
theorem hJ2_checkIndex_2214a_5 : cJ2_checkIndex_2214a.data.toList.drop 5 = sJ2_checkIndex_2214a_5 := dn3 hJ2_checkIndex_2214a_2
theorem dJ2_checkIndex_2214a_5 : decode cJ2_checkIndex_2214a 5 = .ok (.invokestatic 414, 3) := dk184 hJ2_checkIndex_2214a_5 rfl
theorem hJ2_checkIndex_2214a_8 : cJ2_checkIndex_2214a.data.toList.drop 8 = sJ2_checkIndex_2214a_8 := dn3 hJ2_checkIndex_2214a_5
theorem dJ2_checkIndex_2214a_8 : decode cJ2_checkIndex_2214a 8 = .ok (.return_, 1) := dk177 hJ2_checkIndex_2214a_8
noncomputable def sJ2_getChar_3b067_59 : List UInt8 := 172 :: []
noncomputable def sJ2_getChar_3b067_58 : List UInt8 := 146 :: sJ2_getChar_3b067_59
noncomputable def sJ2_getChar_3b067_57 : List UInt8 := 128 :: sJ2_getChar_3b067_58
noncomputable def sJ2_getChar_3b067_56 : List UInt8 := 120 :: sJ2_getChar_3b067_57
noncomputable def sJ2_getChar_3b067_53 : List UInt8 := 178 :: 0 :: 63 :: sJ2_getChar_3b067_56
noncomputable def sJ2_getChar_3b067_52 : List UInt8 := 126 :: sJ2_getChar_3b067_53
noncomputable def sJ2_getChar_3b067_49 : List UInt8 := 17 :: 0 :: 255 :: sJ2_getChar_3b067_52
noncomputable def sJ2_getChar_3b067_48 : List UInt8 := 51 :: sJ2_getChar_3b067_49
noncomputable def sJ2_getChar_3b067_47 : List UInt8 := 27 :: sJ2_getChar_3b067_48
noncomputable def sJ2_getChar_3b067_46 : List UInt8 := 42 :: sJ2_getChar_3b067_47
noncomputable def sJ2_getChar_3b067_45 : List UInt8 := 120 :: sJ2_getChar_3b067_46
noncomputable def sJ2_getChar_3b067_42 : List UInt8 := 178 :: 0 :: 59 :: sJ2_getChar_3b067_45
noncomputable def sJ2_getChar_3b067_41 : List UInt8 := 126 :: sJ2_getChar_3b067_42
noncomputable def sJ2_getChar_3b067_38 : List UInt8 := 17 :: 0 :: 255 :: sJ2_getChar_3b067_41
noncomputable def sJ2_getChar_3b067_37 : List UInt8 := 51 :: sJ2_getChar_3b067_38
noncomputable def sJ2_getChar_3b067_34 : List UInt8 := 132 :: 1 :: 1 :: sJ2_getChar_3b067_37
noncomputable def sJ2_getChar_3b067_33 : List UInt8 := 27 :: sJ2_getChar_3b067_34
noncomputable def sJ2_getChar_3b067_32 : List UInt8 := 42 :: sJ2_getChar_3b067_33
noncomputable def sJ2_getChar_3b067_31 : List UInt8 := 60 :: sJ2_getChar_3b067_32
noncomputable def sJ2_getChar_3b067_30 : List UInt8 := 120 :: sJ2_getChar_3b067_31
noncomputable def sJ2_getChar_3b067_29 : List UInt8 := 4 :: sJ2_getChar_3b067_30
noncomputable def sJ2_getChar_3b067_28 : List UInt8 := 27 :: sJ2_getChar_3b067_29
noncomputable def sJ2_getChar_3b067_27 : List UInt8 := 191 :: sJ2_getChar_3b067_28
noncomputable def sJ2_getChar_3b067_24 : List UInt8 := 183 :: 0 :: 56 :: sJ2_getChar_3b067_27
noncomputable def sJ2_getChar_3b067_22 : List UInt8 := 18 :: 54 :: sJ2_getChar_3b067_24
noncomputable def sJ2_getChar_3b067_21 : List UInt8 := 89 :: sJ2_getChar_3b067_22
noncomputable def sJ2_getChar_3b067_18 : List UInt8 := 187 :: 0 :: 52 :: sJ2_getChar_3b067_21
noncomputable def sJ2_getChar_3b067_15 : List UInt8 := 161 :: 0 :: 13 :: sJ2_getChar_3b067_18
noncomputable def sJ2_getChar_3b067_12 : List UInt8 := 184 :: 0 :: 48 :: sJ2_getChar_3b067_15
noncomputable def sJ2_getChar_3b067_11 : List UInt8 := 42 :: sJ2_getChar_3b067_12
noncomputable def sJ2_getChar_3b067_10 : List UInt8 := 27 :: sJ2_getChar_3b067_11
noncomputable def sJ2_getChar_3b067_7 : List UInt8 := 155 :: 0 :: 11 :: sJ2_getChar_3b067_10
noncomputable def sJ2_getChar_3b067_6 : List UInt8 := 27 :: sJ2_getChar_3b067_7
noncomputable def sJ2_getChar_3b067_3 : List UInt8 := 154 :: 0 :: 25 :: sJ2_getChar_3b067_6
noncomputable def sJ2_getChar_3b067_0 : List UInt8 := 178 :: 0 :: 44 :: sJ2_getChar_3b067_3
set_option maxRecDepth 100000 in
theorem hJ2_getChar_3b067_0 : cJ2_getChar_3b067.data.toList.drop 0 = sJ2_getChar_3b067_0 := by decide +kernel
theorem dJ2_getChar_3b067_0 : decode cJ2_getChar_3b067 0 = .ok (.getstatic 44, 3) := dk178 hJ2_getChar_3b067_0 rfl
theorem hJ2_getChar_3b067_3 : cJ2_getChar_3b067.data.toList.drop 3 = sJ2_getChar_3b067_3 := dn3 hJ2_getChar_3b067_0
theorem dJ2_getChar_3b067_3 : decode cJ2_getChar_3b067 3 = .ok (.ifCond .ne 25, 3) := dk154 hJ2_getChar_3b067_3 (by decide)
theorem hJ2_getChar_3b067_6 : cJ2_getChar_3b067.data.toList.drop 6 = sJ2_getChar_3b067_6 := dn3 hJ2_getChar_3b067_3
theorem dJ2_getChar_3b067_6 : decode cJ2_getChar_3b067 6 = .ok (.iload_n 1, 1) := dk27 hJ2_getChar_3b067_6
theorem hJ2_getChar_3b067_7 : cJ2_getChar_3b067.data.toList.drop 7 = sJ2_getChar_3b067_7 := dn1 hJ2_getChar_3b067_6
theorem dJ2_getChar_3b067_7 : decode cJ2_getChar_3b067 7 = .ok (.ifCond .lt 11, 3) := dk155 hJ2_getChar_3b067_7 (by decide)
theorem hJ2_getChar_3b067_10 : cJ2_getChar_3b067.data.toList.drop 10 = sJ2_getChar_3b067_10 := dn3 hJ2_getChar_3b067_7
theorem dJ2_getChar_3b067_10 : decode cJ2_getChar_3b067 10 = .ok (.iload_n 1, 1) := dk27 hJ2_getChar_3b067_10
theorem hJ2_getChar_3b067_11 : cJ2_getChar_3b067.data.toList.drop 11 = sJ2_getChar_3b067_11 := dn1 hJ2_getChar_3b067_10
theorem dJ2_getChar_3b067_11 : decode cJ2_getChar_3b067 11 = .ok (.aload_n 0, 1) := dk42 hJ2_getChar_3b067_11
theorem hJ2_getChar_3b067_12 : cJ2_getChar_3b067.data.toList.drop 12 = sJ2_getChar_3b067_12 := dn1 hJ2_getChar_3b067_11
theorem dJ2_getChar_3b067_12 : decode cJ2_getChar_3b067 12 = .ok (.invokestatic 48, 3) := dk184 hJ2_getChar_3b067_12 rfl
theorem hJ2_getChar_3b067_15 : cJ2_getChar_3b067.data.toList.drop 15 = sJ2_getChar_3b067_15 := dn3 hJ2_getChar_3b067_12
theorem dJ2_getChar_3b067_15 : decode cJ2_getChar_3b067 15 = .ok (.if_icmp .lt 13, 3) := dk161 hJ2_getChar_3b067_15 (by decide)
theorem hJ2_getChar_3b067_18 : cJ2_getChar_3b067.data.toList.drop 18 = sJ2_getChar_3b067_18 := dn3 hJ2_getChar_3b067_15
theorem dJ2_getChar_3b067_18 : decode cJ2_getChar_3b067 18 = .ok (.new 52, 3) := dk187 hJ2_getChar_3b067_18 rfl
theorem hJ2_getChar_3b067_21 : cJ2_getChar_3b067.data.toList.drop 21 = sJ2_getChar_3b067_21 := dn3 hJ2_getChar_3b067_18
theorem dJ2_getChar_3b067_21 : decode cJ2_getChar_3b067 21 = .ok (.dup, 1) := dk89 hJ2_getChar_3b067_21
theorem hJ2_getChar_3b067_22 : cJ2_getChar_3b067.data.toList.drop 22 = sJ2_getChar_3b067_22 := dn1 hJ2_getChar_3b067_21
theorem dJ2_getChar_3b067_22 : decode cJ2_getChar_3b067 22 = .ok (.ldc 54, 2) := dk18 hJ2_getChar_3b067_22 rfl
theorem hJ2_getChar_3b067_24 : cJ2_getChar_3b067.data.toList.drop 24 = sJ2_getChar_3b067_24 := dn2 hJ2_getChar_3b067_22
theorem dJ2_getChar_3b067_24 : decode cJ2_getChar_3b067 24 = .ok (.invokespecial 56, 3) := dk183 hJ2_getChar_3b067_24 rfl
theorem hJ2_getChar_3b067_27 : cJ2_getChar_3b067.data.toList.drop 27 = sJ2_getChar_3b067_27 := dn3 hJ2_getChar_3b067_24
theorem dJ2_getChar_3b067_27 : decode cJ2_getChar_3b067 27 = .ok (.athrow, 1) := dk191 hJ2_getChar_3b067_27
theorem hJ2_getChar_3b067_28 : cJ2_getChar_3b067.data.toList.drop 28 = sJ2_getChar_3b067_28 := dn1 hJ2_getChar_3b067_27
theorem dJ2_getChar_3b067_28 : decode cJ2_getChar_3b067 28 = .ok (.iload_n 1, 1) := dk27 hJ2_getChar_3b067_28
theorem hJ2_getChar_3b067_29 : cJ2_getChar_3b067.data.toList.drop 29 = sJ2_getChar_3b067_29 := dn1 hJ2_getChar_3b067_28
theorem dJ2_getChar_3b067_29 : decode cJ2_getChar_3b067 29 = .ok (.iconst 1, 1) := dk4 hJ2_getChar_3b067_29
theorem hJ2_getChar_3b067_30 : cJ2_getChar_3b067.data.toList.drop 30 = sJ2_getChar_3b067_30 := dn1 hJ2_getChar_3b067_29
theorem dJ2_getChar_3b067_30 : decode cJ2_getChar_3b067 30 = .ok (.ishl, 1) := dk120 hJ2_getChar_3b067_30
theorem hJ2_getChar_3b067_31 : cJ2_getChar_3b067.data.toList.drop 31 = sJ2_getChar_3b067_31 := dn1 hJ2_getChar_3b067_30
theorem dJ2_getChar_3b067_31 : decode cJ2_getChar_3b067 31 = .ok (.istore_n 1, 1) := dk60 hJ2_getChar_3b067_31
theorem hJ2_getChar_3b067_32 : cJ2_getChar_3b067.data.toList.drop 32 = sJ2_getChar_3b067_32 := dn1 hJ2_getChar_3b067_31
theorem dJ2_getChar_3b067_32 : decode cJ2_getChar_3b067 32 = .ok (.aload_n 0, 1) := dk42 hJ2_getChar_3b067_32
theorem hJ2_getChar_3b067_33 : cJ2_getChar_3b067.data.toList.drop 33 = sJ2_getChar_3b067_33 := dn1 hJ2_getChar_3b067_32
theorem dJ2_getChar_3b067_33 : decode cJ2_getChar_3b067 33 = .ok (.iload_n 1, 1) := dk27 hJ2_getChar_3b067_33
theorem hJ2_getChar_3b067_34 : cJ2_getChar_3b067.data.toList.drop 34 = sJ2_getChar_3b067_34 := dn1 hJ2_getChar_3b067_33
theorem dJ2_getChar_3b067_34 : decode cJ2_getChar_3b067 34 = .ok (.iinc 1 1, 3) := dk132 hJ2_getChar_3b067_34 rfl (by decide)
theorem hJ2_getChar_3b067_37 : cJ2_getChar_3b067.data.toList.drop 37 = sJ2_getChar_3b067_37 := dn3 hJ2_getChar_3b067_34
theorem dJ2_getChar_3b067_37 : decode cJ2_getChar_3b067 37 = .ok (.baload, 1) := dk51 hJ2_getChar_3b067_37
theorem hJ2_getChar_3b067_38 : cJ2_getChar_3b067.data.toList.drop 38 = sJ2_getChar_3b067_38 := dn1 hJ2_getChar_3b067_37
theorem dJ2_getChar_3b067_38 : decode cJ2_getChar_3b067 38 = .ok (.sipush 255, 3) := dk17 hJ2_getChar_3b067_38 (by decide)
theorem hJ2_getChar_3b067_41 : cJ2_getChar_3b067.data.toList.drop 41 = sJ2_getChar_3b067_41 := dn3 hJ2_getChar_3b067_38
theorem dJ2_getChar_3b067_41 : decode cJ2_getChar_3b067 41 = .ok (.iand, 1) := dk126 hJ2_getChar_3b067_41
theorem hJ2_getChar_3b067_42 : cJ2_getChar_3b067.data.toList.drop 42 = sJ2_getChar_3b067_42 := dn1 hJ2_getChar_3b067_41
theorem dJ2_getChar_3b067_42 : decode cJ2_getChar_3b067 42 = .ok (.getstatic 59, 3) := dk178 hJ2_getChar_3b067_42 rfl
theorem hJ2_getChar_3b067_45 : cJ2_getChar_3b067.data.toList.drop 45 = sJ2_getChar_3b067_45 := dn3 hJ2_getChar_3b067_42
theorem dJ2_getChar_3b067_45 : decode cJ2_getChar_3b067 45 = .ok (.ishl, 1) := dk120 hJ2_getChar_3b067_45
theorem hJ2_getChar_3b067_46 : cJ2_getChar_3b067.data.toList.drop 46 = sJ2_getChar_3b067_46 := dn1 hJ2_getChar_3b067_45
theorem dJ2_getChar_3b067_46 : decode cJ2_getChar_3b067 46 = .ok (.aload_n 0, 1) := dk42 hJ2_getChar_3b067_46
theorem hJ2_getChar_3b067_47 : cJ2_getChar_3b067.data.toList.drop 47 = sJ2_getChar_3b067_47 := dn1 hJ2_getChar_3b067_46
theorem dJ2_getChar_3b067_47 : decode cJ2_getChar_3b067 47 = .ok (.iload_n 1, 1) := dk27 hJ2_getChar_3b067_47
theorem hJ2_getChar_3b067_48 : cJ2_getChar_3b067.data.toList.drop 48 = sJ2_getChar_3b067_48 := dn1 hJ2_getChar_3b067_47
theorem dJ2_getChar_3b067_48 : decode cJ2_getChar_3b067 48 = .ok (.baload, 1) := dk51 hJ2_getChar_3b067_48
theorem hJ2_getChar_3b067_49 : cJ2_getChar_3b067.data.toList.drop 49 = sJ2_getChar_3b067_49 := dn1 hJ2_getChar_3b067_48
theorem dJ2_getChar_3b067_49 : decode cJ2_getChar_3b067 49 = .ok (.sipush 255, 3) := dk17 hJ2_getChar_3b067_49 (by decide)
theorem hJ2_getChar_3b067_52 : cJ2_getChar_3b067.data.toList.drop 52 = sJ2_getChar_3b067_52 := dn3 hJ2_getChar_3b067_49
theorem dJ2_getChar_3b067_52 : decode cJ2_getChar_3b067 52 = .ok (.iand, 1) := dk126 hJ2_getChar_3b067_52
theorem hJ2_getChar_3b067_53 : cJ2_getChar_3b067.data.toList.drop 53 = sJ2_getChar_3b067_53 := dn1 hJ2_getChar_3b067_52
theorem dJ2_getChar_3b067_53 : decode cJ2_getChar_3b067 53 = .ok (.getstatic 63, 3) := dk178 hJ2_getChar_3b067_53 rfl
theorem hJ2_getChar_3b067_56 : cJ2_getChar_3b067.data.toList.drop 56 = sJ2_getChar_3b067_56 := dn3 hJ2_getChar_3b067_53
theorem dJ2_getChar_3b067_56 : decode cJ2_getChar_3b067 56 = .ok (.ishl, 1) := dk120 hJ2_getChar_3b067_56
theorem hJ2_getChar_3b067_57 : cJ2_getChar_3b067.data.toList.drop 57 = sJ2_getChar_3b067_57 := dn1 hJ2_getChar_3b067_56
theorem dJ2_getChar_3b067_57 : decode cJ2_getChar_3b067 57 = .ok (.ior, 1) := dk128 hJ2_getChar_3b067_57
theorem hJ2_getChar_3b067_58 : cJ2_getChar_3b067.data.toList.drop 58 = sJ2_getChar_3b067_58 := dn1 hJ2_getChar_3b067_57
theorem dJ2_getChar_3b067_58 : decode cJ2_getChar_3b067 58 = .ok (.i2c, 1) := dk146 hJ2_getChar_3b067_58
theorem hJ2_getChar_3b067_59 : cJ2_getChar_3b067.data.toList.drop 59 = sJ2_getChar_3b067_59 := dn1 hJ2_getChar_3b067_58
theorem dJ2_getChar_3b067_59 : decode cJ2_getChar_3b067 59 = .ok (.ireturn, 1) := dk172 hJ2_getChar_3b067_59
noncomputable def sJ2_length_9d52b_4 : List UInt8 := 172 :: []
noncomputable def sJ2_length_9d52b_3 : List UInt8 := 122 :: sJ2_length_9d52b_4
noncomputable def sJ2_length_9d52b_2 : List UInt8 := 4 :: sJ2_length_9d52b_3
noncomputable def sJ2_length_9d52b_1 : List UInt8 := 190 :: sJ2_length_9d52b_2
noncomputable def sJ2_length_9d52b_0 : List UInt8 := 42 :: sJ2_length_9d52b_1
set_option maxRecDepth 100000 in
theorem hJ2_length_9d52b_0 : cJ2_length_9d52b.data.toList.drop 0 = sJ2_length_9d52b_0 := by decide +kernel
theorem dJ2_length_9d52b_0 : decode cJ2_length_9d52b 0 = .ok (.aload_n 0, 1) := dk42 hJ2_length_9d52b_0
theorem hJ2_length_9d52b_1 : cJ2_length_9d52b.data.toList.drop 1 = sJ2_length_9d52b_1 := dn1 hJ2_length_9d52b_0
theorem dJ2_length_9d52b_1 : decode cJ2_length_9d52b 1 = .ok (.arraylength, 1) := dk190 hJ2_length_9d52b_1
theorem hJ2_length_9d52b_2 : cJ2_length_9d52b.data.toList.drop 2 = sJ2_length_9d52b_2 := dn1 hJ2_length_9d52b_1
theorem dJ2_length_9d52b_2 : decode cJ2_length_9d52b 2 = .ok (.iconst 1, 1) := dk4 hJ2_length_9d52b_2
theorem hJ2_length_9d52b_3 : cJ2_length_9d52b.data.toList.drop 3 = sJ2_length_9d52b_3 := dn1 hJ2_length_9d52b_2
theorem dJ2_length_9d52b_3 : decode cJ2_length_9d52b 3 = .ok (.ishr, 1) := dk122 hJ2_length_9d52b_3
theorem hJ2_length_9d52b_4 : cJ2_length_9d52b.data.toList.drop 4 = sJ2_length_9d52b_4 := dn1 hJ2_length_9d52b_3
theorem dJ2_length_9d52b_4 : decode cJ2_length_9d52b 4 = .ok (.ireturn, 1) := dk172 hJ2_length_9d52b_4
noncomputable def sJ3_checkIndex_8e157_17 : List UInt8 := 172 :: []
noncomputable def sJ3_checkIndex_8e157_16 : List UInt8 := 26 :: sJ3_checkIndex_8e157_17
noncomputable def sJ3_checkIndex_8e157_15 : List UInt8 := 191 :: sJ3_checkIndex_8e157_16
noncomputable def sJ3_checkIndex_8e157_12 : List UInt8 := 184 :: 0 :: 95 :: sJ3_checkIndex_8e157_15
noncomputable def sJ3_checkIndex_8e157_11 : List UInt8 := 27 :: sJ3_checkIndex_8e157_12
noncomputable def sJ3_checkIndex_8e157_10 : List UInt8 := 26 :: sJ3_checkIndex_8e157_11
noncomputable def sJ3_checkIndex_8e157_9 : List UInt8 := 44 :: sJ3_checkIndex_8e157_10
noncomputable def sJ3_checkIndex_8e157_6 : List UInt8 := 161 :: 0 :: 10 :: sJ3_checkIndex_8e157_9
noncomputable def sJ3_checkIndex_8e157_5 : List UInt8 := 27 :: sJ3_checkIndex_8e157_6
noncomputable def sJ3_checkIndex_8e157_4 : List UInt8 := 26 :: sJ3_checkIndex_8e157_5
noncomputable def sJ3_checkIndex_8e157_1 : List UInt8 := 155 :: 0 :: 8 :: sJ3_checkIndex_8e157_4
noncomputable def sJ3_checkIndex_8e157_0 : List UInt8 := 26 :: sJ3_checkIndex_8e157_1
set_option maxRecDepth 100000 in
theorem hJ3_checkIndex_8e157_0 : cJ3_checkIndex_8e157.data.toList.drop 0 = sJ3_checkIndex_8e157_0 := by decide +kernel
theorem dJ3_checkIndex_8e157_0 : decode cJ3_checkIndex_8e157 0 = .ok (.iload_n 0, 1) := dk26 hJ3_checkIndex_8e157_0
theorem hJ3_checkIndex_8e157_1 : cJ3_checkIndex_8e157.data.toList.drop 1 = sJ3_checkIndex_8e157_1 := dn1 hJ3_checkIndex_8e157_0
theorem dJ3_checkIndex_8e157_1 : decode cJ3_checkIndex_8e157 1 = .ok (.ifCond .lt 8, 3) := dk155 hJ3_checkIndex_8e157_1 (by decide)
theorem hJ3_checkIndex_8e157_4 : cJ3_checkIndex_8e157.data.toList.drop 4 = sJ3_checkIndex_8e157_4 := dn3 hJ3_checkIndex_8e157_1
theorem dJ3_checkIndex_8e157_4 : decode cJ3_checkIndex_8e157 4 = .ok (.iload_n 0, 1) := dk26 hJ3_checkIndex_8e157_4
theorem hJ3_checkIndex_8e157_5 : cJ3_checkIndex_8e157.data.toList.drop 5 = sJ3_checkIndex_8e157_5 := dn1 hJ3_checkIndex_8e157_4
theorem dJ3_checkIndex_8e157_5 : decode cJ3_checkIndex_8e157 5 = .ok (.iload_n 1, 1) := dk27 hJ3_checkIndex_8e157_5
theorem hJ3_checkIndex_8e157_6 : cJ3_checkIndex_8e157.data.toList.drop 6 = sJ3_checkIndex_8e157_6 := dn1 hJ3_checkIndex_8e157_5
theorem dJ3_checkIndex_8e157_6 : decode cJ3_checkIndex_8e157 6 = .ok (.if_icmp .lt 10, 3) := dk161 hJ3_checkIndex_8e157_6 (by decide)
theorem hJ3_checkIndex_8e157_9 : cJ3_checkIndex_8e157.data.toList.drop 9 = sJ3_checkIndex_8e157_9 := dn3 hJ3_checkIndex_8e157_6
theorem dJ3_checkIndex_8e157_9 : decode cJ3_checkIndex_8e157 9 = .ok (.aload_n 2, 1) := dk44 hJ3_checkIndex_8e157_9
theorem hJ3_checkIndex_8e157_10 : cJ3_checkIndex_8e157.data.toList.drop 10 = sJ3_checkIndex_8e157_10 := dn1 hJ3_checkIndex_8e157_9
theorem dJ3_checkIndex_8e157_10 : decode cJ3_checkIndex_8e157 10 = .ok (.iload_n 0, 1) := dk26 hJ3_checkIndex_8e157_10
theorem hJ3_checkIndex_8e157_11 : cJ3_checkIndex_8e157.data.toList.drop 11 = sJ3_checkIndex_8e157_11 := dn1 hJ3_checkIndex_8e157_10
theorem dJ3_checkIndex_8e157_11 : decode cJ3_checkIndex_8e157 11 = .ok (.iload_n 1, 1) := dk27 hJ3_checkIndex_8e157_11
theorem hJ3_checkIndex_8e157_12 : cJ3_checkIndex_8e157.data.toList.drop 12 = sJ3_checkIndex_8e157_12 := dn1 hJ3_checkIndex_8e157_11
theorem dJ3_checkIndex_8e157_12 : decode cJ3_checkIndex_8e157 12 = .ok (.invokestatic 95, 3) := dk184 hJ3_checkIndex_8e157_12 rfl
theorem hJ3_checkIndex_8e157_15 : cJ3_checkIndex_8e157.data.toList.drop 15 = sJ3_checkIndex_8e157_15 := dn3 hJ3_checkIndex_8e157_12
theorem dJ3_checkIndex_8e157_15 : decode cJ3_checkIndex_8e157 15 = .ok (.athrow, 1) := dk191 hJ3_checkIndex_8e157_15
theorem hJ3_checkIndex_8e157_16 : cJ3_checkIndex_8e157.data.toList.drop 16 = sJ3_checkIndex_8e157_16 := dn1 hJ3_checkIndex_8e157_15
theorem dJ3_checkIndex_8e157_16 : decode cJ3_checkIndex_8e157 16 = .ok (.iload_n 0, 1) := dk26 hJ3_checkIndex_8e157_16
theorem hJ3_checkIndex_8e157_17 : cJ3_checkIndex_8e157.data.toList.drop 17 = sJ3_checkIndex_8e157_17 := dn1 hJ3_checkIndex_8e157_16
theorem dJ3_checkIndex_8e157_17 : decode cJ3_checkIndex_8e157 17 = .ok (.ireturn, 1) := dk172 hJ3_checkIndex_8e157_17
noncomputable def sJ6_bitCount_0f7a4_52 : List UInt8 := 172 :: []
noncomputable def sJ6_bitCount_0f7a4_51 : List UInt8 := 126 :: sJ6_bitCount_0f7a4_52
noncomputable def sJ6_bitCount_0f7a4_49 : List UInt8 := 16 :: 63 :: sJ6_bitCount_0f7a4_51
noncomputable def sJ6_bitCount_0f7a4_48 : List UInt8 := 26 :: sJ6_bitCount_0f7a4_49
noncomputable def sJ6_bitCount_0f7a4_47 : List UInt8 := 59 :: sJ6_bitCount_0f7a4_48
noncomputable def sJ6_bitCount_0f7a4_46 : List UInt8 := 96 :: sJ6_bitCount_0f7a4_47
noncomputable def sJ6_bitCount_0f7a4_45 : List UInt8 := 124 :: sJ6_bitCount_0f7a4_46
noncomputable def sJ6_bitCount_0f7a4_43 : List UInt8 := 16 :: 16 :: sJ6_bitCount_0f7a4_45
noncomputable def sJ6_bitCount_0f7a4_42 : List UInt8 := 26 :: sJ6_bitCount_0f7a4_43
noncomputable def sJ6_bitCount_0f7a4_41 : List UInt8 := 26 :: sJ6_bitCount_0f7a4_42
noncomputable def sJ6_bitCount_0f7a4_40 : List UInt8 := 59 :: sJ6_bitCount_0f7a4_41
noncomputable def sJ6_bitCount_0f7a4_39 : List UInt8 := 96 :: sJ6_bitCount_0f7a4_40
noncomputable def sJ6_bitCount_0f7a4_38 : List UInt8 := 124 :: sJ6_bitCount_0f7a4_39
noncomputable def sJ6_bitCount_0f7a4_36 : List UInt8 := 16 :: 8 :: sJ6_bitCount_0f7a4_38
noncomputable def sJ6_bitCount_0f7a4_35 : List UInt8 := 26 :: sJ6_bitCount_0f7a4_36
noncomputable def sJ6_bitCount_0f7a4_34 : List UInt8 := 26 :: sJ6_bitCount_0f7a4_35
noncomputable def sJ6_bitCount_0f7a4_33 : List UInt8 := 59 :: sJ6_bitCount_0f7a4_34
noncomputable def sJ6_bitCount_0f7a4_32 : List UInt8 := 126 :: sJ6_bitCount_0f7a4_33
noncomputable def sJ6_bitCount_0f7a4_29 : List UInt8 := 19 :: 1 :: 11 :: sJ6_bitCount_0f7a4_32
noncomputable def sJ6_bitCount_0f7a4_28 : List UInt8 := 96 :: sJ6_bitCount_0f7a4_29
noncomputable def sJ6_bitCount_0f7a4_27 : List UInt8 := 124 :: sJ6_bitCount_0f7a4_28
noncomputable def sJ6_bitCount_0f7a4_26 : List UInt8 := 7 :: sJ6_bitCount_0f7a4_27
noncomputable def sJ6_bitCount_0f7a4_25 : List UInt8 := 26 :: sJ6_bitCount_0f7a4_26
noncomputable def sJ6_bitCount_0f7a4_24 : List UInt8 := 26 :: sJ6_bitCount_0f7a4_25
noncomputable def sJ6_bitCount_0f7a4_23 : List UInt8 := 59 :: sJ6_bitCount_0f7a4_24
noncomputable def sJ6_bitCount_0f7a4_22 : List UInt8 := 96 :: sJ6_bitCount_0f7a4_23
noncomputable def sJ6_bitCount_0f7a4_21 : List UInt8 := 126 :: sJ6_bitCount_0f7a4_22
noncomputable def sJ6_bitCount_0f7a4_18 : List UInt8 := 19 :: 1 :: 10 :: sJ6_bitCount_0f7a4_21
noncomputable def sJ6_bitCount_0f7a4_17 : List UInt8 := 124 :: sJ6_bitCount_0f7a4_18
noncomputable def sJ6_bitCount_0f7a4_16 : List UInt8 := 5 :: sJ6_bitCount_0f7a4_17
noncomputable def sJ6_bitCount_0f7a4_15 : List UInt8 := 26 :: sJ6_bitCount_0f7a4_16
noncomputable def sJ6_bitCount_0f7a4_14 : List UInt8 := 126 :: sJ6_bitCount_0f7a4_15
noncomputable def sJ6_bitCount_0f7a4_11 : List UInt8 := 19 :: 1 :: 10 :: sJ6_bitCount_0f7a4_14
noncomputable def sJ6_bitCount_0f7a4_10 : List UInt8 := 26 :: sJ6_bitCount_0f7a4_11
noncomputable def sJ6_bitCount_0f7a4_9 : List UInt8 := 59 :: sJ6_bitCount_0f7a4_10
noncomputable def sJ6_bitCount_0f7a4_8 : List UInt8 := 100 :: sJ6_bitCount_0f7a4_9
noncomputable def sJ6_bitCount_0f7a4_7 : List UInt8 := 126 :: sJ6_bitCount_0f7a4_8
noncomputable def sJ6_bitCount_0f7a4_4 : List UInt8 := 19 :: 1 :: 9 :: sJ6_bitCount_0f7a4_7
noncomputable def sJ6_bitCount_0f7a4_3 : List UInt8 := 124 :: sJ6_bitCount_0f7a4_4
noncomputable def sJ6_bitCount_0f7a4_2 : List UInt8 := 4 :: sJ6_bitCount_0f7a4_3
noncomputable def sJ6_bitCount_0f7a4_1 : List UInt8 := 26 :: sJ6_bitCount_0f7a4_2
noncomputable def sJ6_bitCount_0f7a4_0 : List UInt8 := 26 :: sJ6_bitCount_0f7a4_1
set_option maxRecDepth 100000 in
theorem hJ6_bitCount_0f7a4_0 : cJ6_bitCount_0f7a4.data.toList.drop 0 = sJ6_bitCount_0f7a4_0 := by decide +kernel
theorem dJ6_bitCount_0f7a4_0 : decode cJ6_bitCount_0f7a4 0 = .ok (.iload_n 0, 1) := dk26 hJ6_bitCount_0f7a4_0
theorem hJ6_bitCount_0f7a4_1 : cJ6_bitCount_0f7a4.data.toList.drop 1 = sJ6_bitCount_0f7a4_1 := dn1 hJ6_bitCount_0f7a4_0
theorem dJ6_bitCount_0f7a4_1 : decode cJ6_bitCount_0f7a4 1 = .ok (.iload_n 0, 1) := dk26 hJ6_bitCount_0f7a4_1
theorem hJ6_bitCount_0f7a4_2 : cJ6_bitCount_0f7a4.data.toList.drop 2 = sJ6_bitCount_0f7a4_2 := dn1 hJ6_bitCount_0f7a4_1
theorem dJ6_bitCount_0f7a4_2 : decode cJ6_bitCount_0f7a4 2 = .ok (.iconst 1, 1) := dk4 hJ6_bitCount_0f7a4_2
theorem hJ6_bitCount_0f7a4_3 : cJ6_bitCount_0f7a4.data.toList.drop 3 = sJ6_bitCount_0f7a4_3 := dn1 hJ6_bitCount_0f7a4_2
theorem dJ6_bitCount_0f7a4_3 : decode cJ6_bitCount_0f7a4 3 = .ok (.iushr, 1) := dk124 hJ6_bitCount_0f7a4_3
theorem hJ6_bitCount_0f7a4_4 : cJ6_bitCount_0f7a4.data.toList.drop 4 = sJ6_bitCount_0f7a4_4 := dn1 hJ6_bitCount_0f7a4_3
theorem dJ6_bitCount_0f7a4_4 : decode cJ6_bitCount_0f7a4 4 = .ok (.ldc_w 265, 3) := dk19 hJ6_bitCount_0f7a4_4 rfl
theorem hJ6_bitCount_0f7a4_7 : cJ6_bitCount_0f7a4.data.toList.drop 7 = sJ6_bitCount_0f7a4_7 := dn3 hJ6_bitCount_0f7a4_4
theorem dJ6_bitCount_0f7a4_7 : decode cJ6_bitCount_0f7a4 7 = .ok (.iand, 1) := dk126 hJ6_bitCount_0f7a4_7
theorem hJ6_bitCount_0f7a4_8 : cJ6_bitCount_0f7a4.data.toList.drop 8 = sJ6_bitCount_0f7a4_8 := dn1 hJ6_bitCount_0f7a4_7
theorem dJ6_bitCount_0f7a4_8 : decode cJ6_bitCount_0f7a4 8 = .ok (.isub, 1) := dk100 hJ6_bitCount_0f7a4_8
theorem hJ6_bitCount_0f7a4_9 : cJ6_bitCount_0f7a4.data.toList.drop 9 = sJ6_bitCount_0f7a4_9 := dn1 hJ6_bitCount_0f7a4_8
theorem dJ6_bitCount_0f7a4_9 : decode cJ6_bitCount_0f7a4 9 = .ok (.istore_n 0, 1) := dk59 hJ6_bitCount_0f7a4_9
theorem hJ6_bitCount_0f7a4_10 : cJ6_bitCount_0f7a4.data.toList.drop 10 = sJ6_bitCount_0f7a4_10 := dn1 hJ6_bitCount_0f7a4_9
theorem dJ6_bitCount_0f7a4_10 : decode cJ6_bitCount_0f7a4 10 = .ok (.iload_n 0, 1) := dk26 hJ6_bitCount_0f7a4_10
theorem hJ6_bitCount_0f7a4_11 : cJ6_bitCount_0f7a4.data.toList.drop 11 = sJ6_bitCount_0f7a4_11 := dn1 hJ6_bitCount_0f7a4_10
theorem dJ6_bitCount_0f7a4_11 : decode cJ6_bitCount_0f7a4 11 = .ok (.ldc_w 266, 3) := dk19 hJ6_bitCount_0f7a4_11 rfl
theorem hJ6_bitCount_0f7a4_14 : cJ6_bitCount_0f7a4.data.toList.drop 14 = sJ6_bitCount_0f7a4_14 := dn3 hJ6_bitCount_0f7a4_11
theorem dJ6_bitCount_0f7a4_14 : decode cJ6_bitCount_0f7a4 14 = .ok (.iand, 1) := dk126 hJ6_bitCount_0f7a4_14
theorem hJ6_bitCount_0f7a4_15 : cJ6_bitCount_0f7a4.data.toList.drop 15 = sJ6_bitCount_0f7a4_15 := dn1 hJ6_bitCount_0f7a4_14
theorem dJ6_bitCount_0f7a4_15 : decode cJ6_bitCount_0f7a4 15 = .ok (.iload_n 0, 1) := dk26 hJ6_bitCount_0f7a4_15
theorem hJ6_bitCount_0f7a4_16 : cJ6_bitCount_0f7a4.data.toList.drop 16 = sJ6_bitCount_0f7a4_16 := dn1 hJ6_bitCount_0f7a4_15
theorem dJ6_bitCount_0f7a4_16 : decode cJ6_bitCount_0f7a4 16 = .ok (.iconst 2, 1) := dk5 hJ6_bitCount_0f7a4_16
theorem hJ6_bitCount_0f7a4_17 : cJ6_bitCount_0f7a4.data.toList.drop 17 = sJ6_bitCount_0f7a4_17 := dn1 hJ6_bitCount_0f7a4_16
theorem dJ6_bitCount_0f7a4_17 : decode cJ6_bitCount_0f7a4 17 = .ok (.iushr, 1) := dk124 hJ6_bitCount_0f7a4_17
theorem hJ6_bitCount_0f7a4_18 : cJ6_bitCount_0f7a4.data.toList.drop 18 = sJ6_bitCount_0f7a4_18 := dn1 hJ6_bitCount_0f7a4_17
theorem dJ6_bitCount_0f7a4_18 : decode cJ6_bitCount_0f7a4 18 = .ok (.ldc_w 266, 3) := dk19 hJ6_bitCount_0f7a4_18 rfl
theorem hJ6_bitCount_0f7a4_21 : cJ6_bitCount_0f7a4.data.toList.drop 21 = sJ6_bitCount_0f7a4_21 := dn3 hJ6_bitCount_0f7a4_18
theorem dJ6_bitCount_0f7a4_21 : decode cJ6_bitCount_0f7a4 21 = .ok (.iand, 1) := dk126 hJ6_bitCount_0f7a4_21
theorem hJ6_bitCount_0f7a4_22 : cJ6_bitCount_0f7a4.data.toList.drop 22 = sJ6_bitCount_0f7a4_22 := dn1 hJ6_bitCount_0f7a4_21
theorem dJ6_bitCount_0f7a4_22 : decode cJ6_bitCount_0f7a4 22 = .ok (.iadd, 1) := dk96 hJ6_bitCount_0f7a4_22
theorem hJ6_bitCount_0f7a4_23 : cJ6_bitCount_0f7a4.data.toList.drop 23 = sJ6_bitCount_0f7a4_23 := dn1 hJ6_bitCount_0f7a4_22
theorem dJ6_bitCount_0f7a4_23 : decode cJ6_bitCount_0f7a4 23 = .ok (.istore_n 0, 1) := dk59 hJ6_bitCount_0f7a4_23
theorem hJ6_bitCount_0f7a4_24 : cJ6_bitCount_0f7a4.data.toList.drop 24 = sJ6_bitCount_0f7a4_24 := dn1 hJ6_bitCount_0f7a4_23
theorem dJ6_bitCount_0f7a4_24 : decode cJ6_bitCount_0f7a4 24 = .ok (.iload_n 0, 1) := dk26 hJ6_bitCount_0f7a4_24
theorem hJ6_bitCount_0f7a4_25 : cJ6_bitCount_0f7a4.data.toList.drop 25 = sJ6_bitCount_0f7a4_25 := dn1 hJ6_bitCount_0f7a4_24
theorem dJ6_bitCount_0f7a4_25 : decode cJ6_bitCount_0f7a4 25 = .ok (.iload_n 0, 1) := dk26 hJ6_bitCount_0f7a4_25
theorem hJ6_bitCount_0f7a4_26 : cJ6_bitCount_0f7a4.data.toList.drop 26 = sJ6_bitCount_0f7a4_26 := dn1 hJ6_bitCount_0f7a4_25
theorem dJ6_bitCount_0f7a4_26 : decode cJ6_bitCount_0f7a4 26 = .ok (.iconst 4, 1) := dk7 hJ6_bitCount_0f7a4_26
theorem hJ6_bitCount_0f7a4_27 : cJ6_bitCount_0f7a4.data.toList.drop 27 = sJ6_bitCount_0f7a4_27 := dn1 hJ6_bitCount_0f7a4_26
theorem dJ6_bitCount_0f7a4_27 : decode cJ6_bitCount_0f7a4 27 = .ok (.iushr, 1) := dk124 hJ6_bitCount_0f7a4_27
theorem hJ6_bitCount_0f7a4_28 : cJ6_bitCount_0f7a4.data.toList.drop 28 = sJ6_bitCount_0f7a4_28 := dn1 hJ6_bitCount_0f7a4_27
theorem dJ6_bitCount_0f7a4_28 : decode cJ6_bitCount_0f7a4 28 = .ok (.iadd, 1) := dk96 hJ6_bitCount_0f7a4_28
theorem hJ6_bitCount_0f7a4_29 : cJ6_bitCount_0f7a4.data.toList.drop 29 = sJ6_bitCount_0f7a4_29 := dn1 hJ6_bitCount_0f7a4_28
theorem dJ6_bitCount_0f7a4_29 : decode cJ6_bitCount_0f7a4 29 = .ok (.ldc_w 267, 3) := dk19 hJ6_bitCount_0f7a4_29 rfl
theorem hJ6_bitCount_0f7a4_32 : cJ6_bitCount_0f7a4.data.toList.drop 32 = sJ6_bitCount_0f7a4_32 := dn3 hJ6_bitCount_0f7a4_29
theorem dJ6_bitCount_0f7a4_32 : decode cJ6_bitCount_0f7a4 32 = .ok (.iand, 1) := dk126 hJ6_bitCount_0f7a4_32
theorem hJ6_bitCount_0f7a4_33 : cJ6_bitCount_0f7a4.data.toList.drop 33 = sJ6_bitCount_0f7a4_33 := dn1 hJ6_bitCount_0f7a4_32
theorem dJ6_bitCount_0f7a4_33 : decode cJ6_bitCount_0f7a4 33 = .ok (.istore_n 0, 1) := dk59 hJ6_bitCount_0f7a4_33
theorem hJ6_bitCount_0f7a4_34 : cJ6_bitCount_0f7a4.data.toList.drop 34 = sJ6_bitCount_0f7a4_34 := dn1 hJ6_bitCount_0f7a4_33
theorem dJ6_bitCount_0f7a4_34 : decode cJ6_bitCount_0f7a4 34 = .ok (.iload_n 0, 1) := dk26 hJ6_bitCount_0f7a4_34
theorem hJ6_bitCount_0f7a4_35 : cJ6_bitCount_0f7a4.data.toList.drop 35 = sJ6_bitCount_0f7a4_35 := dn1 hJ6_bitCount_0f7a4_34
theorem dJ6_bitCount_0f7a4_35 : decode cJ6_bitCount_0f7a4 35 = .ok (.iload_n 0, 1) := dk26 hJ6_bitCount_0f7a4_35
theorem hJ6_bitCount_0f7a4_36 : cJ6_bitCount_0f7a4.data.toList.drop 36 = sJ6_bitCount_0f7a4_36 := dn1 hJ6_bitCount_0f7a4_35
theorem dJ6_bitCount_0f7a4_36 : decode cJ6_bitCount_0f7a4 36 = .ok (.bipush 8, 2) := dk16 hJ6_bitCount_0f7a4_36 (by decide)
theorem hJ6_bitCount_0f7a4_38 : cJ6_bitCount_0f7a4.data.toList.drop 38 = sJ6_bitCount_0f7a4_38 := dn2 hJ6_bitCount_0f7a4_36
theorem dJ6_bitCount_0f7a4_38 : decode cJ6_bitCount_0f7a4 38 = .ok (.iushr, 1) := dk124 hJ6_bitCount_0f7a4_38
theorem hJ6_bitCount_0f7a4_39 : cJ6_bitCount_0f7a4.data.toList.drop 39 = sJ6_bitCount_0f7a4_39 := dn1 hJ6_bitCount_0f7a4_38
theorem dJ6_bitCount_0f7a4_39 : decode cJ6_bitCount_0f7a4 39 = .ok (.iadd, 1) := dk96 hJ6_bitCount_0f7a4_39
theorem hJ6_bitCount_0f7a4_40 : cJ6_bitCount_0f7a4.data.toList.drop 40 = sJ6_bitCount_0f7a4_40 := dn1 hJ6_bitCount_0f7a4_39
theorem dJ6_bitCount_0f7a4_40 : decode cJ6_bitCount_0f7a4 40 = .ok (.istore_n 0, 1) := dk59 hJ6_bitCount_0f7a4_40
theorem hJ6_bitCount_0f7a4_41 : cJ6_bitCount_0f7a4.data.toList.drop 41 = sJ6_bitCount_0f7a4_41 := dn1 hJ6_bitCount_0f7a4_40
theorem dJ6_bitCount_0f7a4_41 : decode cJ6_bitCount_0f7a4 41 = .ok (.iload_n 0, 1) := dk26 hJ6_bitCount_0f7a4_41
theorem hJ6_bitCount_0f7a4_42 : cJ6_bitCount_0f7a4.data.toList.drop 42 = sJ6_bitCount_0f7a4_42 := dn1 hJ6_bitCount_0f7a4_41
theorem dJ6_bitCount_0f7a4_42 : decode cJ6_bitCount_0f7a4 42 = .ok (.iload_n 0, 1) := dk26 hJ6_bitCount_0f7a4_42
theorem hJ6_bitCount_0f7a4_43 : cJ6_bitCount_0f7a4.data.toList.drop 43 = sJ6_bitCount_0f7a4_43 := dn1 hJ6_bitCount_0f7a4_42
theorem dJ6_bitCount_0f7a4_43 : decode cJ6_bitCount_0f7a4 43 = .ok (.bipush 16, 2) := dk16 hJ6_bitCount_0f7a4_43 (by decide)
theorem hJ6_bitCount_0f7a4_45 : cJ6_bitCount_0f7a4.data.toList.drop 45 = sJ6_bitCount_0f7a4_45 := dn2 hJ6_bitCount_0f7a4_43
theorem dJ6_bitCount_0f7a4_45 : decode cJ6_bitCount_0f7a4 45 = .ok (.iushr, 1) := dk124 hJ6_bitCount_0f7a4_45
theorem hJ6_bitCount_0f7a4_46 : cJ6_bitCount_0f7a4.data.toList.drop 46 = sJ6_bitCount_0f7a4_46 := dn1 hJ6_bitCount_0f7a4_45
theorem dJ6_bitCount_0f7a4_46 : decode cJ6_bitCount_0f7a4 46 = .ok (.iadd, 1) := dk96 hJ6_bitCount_0f7a4_46
theorem hJ6_bitCount_0f7a4_47 : cJ6_bitCount_0f7a4.data.toList.drop 47 = sJ6_bitCount_0f7a4_47 := dn1 hJ6_bitCount_0f7a4_46
theorem dJ6_bitCount_0f7a4_47 : decode cJ6_bitCount_0f7a4 47 = .ok (.istore_n 0, 1) := dk59 hJ6_bitCount_0f7a4_47
theorem hJ6_bitCount_0f7a4_48 : cJ6_bitCount_0f7a4.data.toList.drop 48 = sJ6_bitCount_0f7a4_48 := dn1 hJ6_bitCount_0f7a4_47
theorem dJ6_bitCount_0f7a4_48 : decode cJ6_bitCount_0f7a4 48 = .ok (.iload_n 0, 1) := dk26 hJ6_bitCount_0f7a4_48
theorem hJ6_bitCount_0f7a4_49 : cJ6_bitCount_0f7a4.data.toList.drop 49 = sJ6_bitCount_0f7a4_49 := dn1 hJ6_bitCount_0f7a4_48
theorem dJ6_bitCount_0f7a4_49 : decode cJ6_bitCount_0f7a4 49 = .ok (.bipush 63, 2) := dk16 hJ6_bitCount_0f7a4_49 (by decide)
theorem hJ6_bitCount_0f7a4_51 : cJ6_bitCount_0f7a4.data.toList.drop 51 = sJ6_bitCount_0f7a4_51 := dn2 hJ6_bitCount_0f7a4_49
theorem dJ6_bitCount_0f7a4_51 : decode cJ6_bitCount_0f7a4 51 = .ok (.iand, 1) := dk126 hJ6_bitCount_0f7a4_51
theorem hJ6_bitCount_0f7a4_52 : cJ6_bitCount_0f7a4.data.toList.drop 52 = sJ6_bitCount_0f7a4_52 := dn1 hJ6_bitCount_0f7a4_51
theorem dJ6_bitCount_0f7a4_52 : decode cJ6_bitCount_0f7a4 52 = .ok (.ireturn, 1) := dk172 hJ6_bitCount_0f7a4_52
