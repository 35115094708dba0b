set_option maxRecDepth 20000 in
theorem wGg_0 : ∀ w ∈ wG_0, goodWord w = true := fun w h => List.all_eq_true.mp (show wG_0.all goodWord = true by decide +kernel) w h
set_option maxRecDepth 20000 in
theorem wGg_1 : ∀ w ∈ wG_1, goodWord w = true := fun w h => List.all_eq_true.mp (show wG_1.all goodWord = true by decide +kernel) w h
set_option maxRecDepth 20000 in
theorem wGg_2 : ∀ w ∈ wG_2, goodWord w = true := fun w h => List.all_eq_true.mp (show wG_2.all goodWord = true by decide +kernel) w h
set_option maxRecDepth 20000 in
theorem wGg_3 : ∀ w ∈ wG_3, goodWord w = true := fun w h => List.all_eq_true.mp (show wG_3.all goodWord = true by decide +kernel) w h
set_option maxRecDepth 20000 in
theorem wGg_4 : ∀ w ∈ wG_4, goodWord w = true := fun w h => List.all_eq_true.mp (show wG_4.all goodWord = true by decide +kernel) w h
set_option maxRecDepth 20000 in
theorem wGg_5 : ∀ w ∈ wG_5, goodWord w = true := fun w h => List.all_eq_true.mp (show wG_5.all goodWord = true by decide +kernel) w h
set_option maxRecDepth 20000 in
theorem wGg_6 : ∀ w ∈ wG_6, goodWord w = true := fun w h => List.all_eq_true.mp (show wG_6.all goodWord = true by decide +kernel) w h
set_option maxRecDepth 20000 in
theorem wGg_7 : ∀ w ∈ wG_7, goodWord w = true := fun w h => List.all_eq_true.mp (show wG_7.all goodWord = true by decide +kernel) w h
set_option maxRecDepth 20000 in
theorem wGg_8 : ∀ w ∈ wG_8, goodWord w = true := fun w h => List.all_eq_true.mp (show wG_8.all goodWord = true by decide +kernel) w h
set_option maxRecDepth 20000 in
theorem wGg_9 : ∀ w ∈ wG_9, goodWord w = true := fun w h => List.all_eq_true.mp (show wG_9.all goodWord = true by decide +kernel) w h
set_option maxRecDepth 20000 in
theorem wGg_10 : ∀ w ∈ wG_10, goodWord w = true := fun w h => List.all_eq_true.mp (show wG_10.all goodWord = true by decide +kernel) w h
set_option maxRecDepth 20000 in
theorem wGg_11 : ∀ w ∈ wG_11, goodWord w = true := fun w h => List.all_eq_true.mp (show wG_11.all goodWord = true by decide +kernel) w h
set_option maxRecDepth 20000 in
theorem wGg_12 : ∀ w ∈ wG_12, goodWord w = true := fun w h => List.all_eq_true.mp (show wG_12.all goodWord = true by decide +kernel) w h
set_option maxRecDepth 20000 in
theorem wGg_13 : ∀ w ∈ wG_13, goodWord w = true := fun w h => List.all_eq_true.mp (show wG_13.all goodWord = true by decide +kernel) w h
set_option maxRecDepth 20000 in
theorem wGg_14 : ∀ w ∈ wG_14, goodWord w = true := fun w h => List.all_eq_true.mp (show wG_14.all goodWord = true by decide +kernel) w h
set_option maxRecDepth 20000 in
theorem wGg_15 : ∀ w ∈ wG_15, goodWord w = true := fun w h => List.all_eq_true.mp (show wG_15.all goodWord = true by decide +kernel) w h
set_option maxRecDepth 20000 in
theorem wGg_16 : ∀ w ∈ wG_16, goodWord w = true := fun w h => List.all_eq_true.mp (show wG_16.all goodWord = true by decide +kernel) w h
set_option maxRecDepth 20000 in
theorem wGg_17 : ∀ w ∈ wG_17, goodWord w = true := fun w h => List.all_eq_true.mp (show wG_17.all goodWord = true by decide +kernel) w h
set_option maxRecDepth 20000 in
theorem wGg_18 : ∀ w ∈ wG_18, goodWord w = true := fun w h => List.all_eq_true.mp (show wG_18.all goodWord = true by decide +kernel) w h
set_option maxRecDepth 20000 in
theorem wGg_19 : ∀ w ∈ wG_19, goodWord w = true := fun w h => List.all_eq_true.mp (show wG_19.all goodWord = true by decide +kernel) w h
set_option maxRecDepth 20000 in
theorem wGg_20 : ∀ w ∈ wG_20, goodWord w = true := fun w h => List.all_eq_true.mp (show wG_20.all goodWord = true by decide +kernel) w h
set_option maxRecDepth 20000 in
theorem wGg_21 : ∀ w ∈ wG_21, goodWord w = true := fun w h => List.all_eq_true.mp (show wG_21.all goodWord = true by decide +kernel) w h
set_option maxRecDepth 20000 in
theorem wGg_22 : ∀ w ∈ wG_22, goodWord w = true := fun w h => List.all_eq_true.mp (show wG_22.all goodWord = true by decide +kernel) w h
set_option maxRecDepth 20000 in
theorem wGg_23 : ∀ w ∈ wG_23, goodWord w = true := fun w h => List.all_eq_true.mp (show wG_23.all goodWord = true by decide +kernel) w h
set_option maxRecDepth 20000 in
theorem wGg_24 : ∀ w ∈ wG_24, goodWord w = true := fun w h => List.all_eq_true.mp (show wG_24.all goodWord = true by decide +kernel) w h
set_option maxRecDepth 20000 in
theorem wGg_25 : ∀ w ∈ wG_25, goodWord w = true := fun w h => List.all_eq_true.mp (show wG_25.all goodWord = true by decide +kernel) w h
set_option maxRecDepth 20000 in
theorem wGg_26 : ∀ w ∈ wG_26, goodWord w = true := fun w h => List.all_eq_true.mp (show wG_26.all goodWord = true by decide +kernel) w h
set_option maxRecDepth 20000 in
theorem wGg_27 : ∀ w ∈ wG_27, goodWord w = true := fun w h => List.all_eq_true.mp (show wG_27.all goodWord = true by decide +kernel) w h
set_option maxRecDepth 20000 in
theorem wGg_28 : ∀ w ∈ wG_28, goodWord w = true := fun w h => List.all_eq_true.mp (show wG_28.all goodWord = true by decide +kernel) w h
set_option maxRecDepth 20000 in
theorem wGg_29 : ∀ w ∈ wG_29, goodWord w = true := fun w h => List.all_eq_true.mp (show wG_29.all goodWord = true by decide +kernel) w h
set_option maxRecDepth 20000 in
theorem wGg_30 : ∀ w ∈ wG_30, goodWord w = true := fun w h => List.all_eq_true.mp (show wG_30.all goodWord = true by decide +kernel) w h
set_option maxRecDepth 20000 in
theorem wGg_31 : ∀ w ∈ wG_31, goodWord w = true := fun w h => List.all_eq_true.mp (show wG_31.all goodWord = true by decide +kernel) w h
set_option maxRecDepth 20000 in
theorem wGg_32 : ∀ w ∈ wG_32, goodWord w = true := fun w h => List.all_eq_true.mp (show wG_32.all goodWord = true by decide +kernel) w h
set_option maxRecDepth 20000 in
theorem wGg_33 : ∀ w ∈ wG_33, goodWord w = true := fun w h => List.all_eq_true.mp (show wG_33.all goodWord = true by decide +kernel) w h
set_option maxRecDepth 20000 in
theorem wGg_34 : ∀ w ∈ wG_34, goodWord w = true := fun w h => List.all_eq_true.mp (show wG_34.all goodWord = true by decide +kernel) w h
set_option maxRecDepth 20000 in
theorem wGg_35 : ∀ w ∈ wG_35, goodWord w = true := fun w h => List.all_eq_true.mp (show wG_35.all goodWord = true by decide +kernel) w h
set_option maxRecDepth 20000 in
theorem wGg_36 : ∀ w ∈ wG_36, goodWord w = true := fun w h => List.all_eq_true.mp (show wG_36.all goodWord = true by decide +kernel) w h
set_option maxRecDepth 20000 in
theorem wGg_X0 : ∀ w ∈ wsX00, goodWord w = true := fun w h => List.all_eq_true.mp (show wsX00.all goodWord = true by decide +kernel) w h
set_option maxRecDepth 20000 in
theorem wGg_X1 : ∀ w ∈ wsX10, goodWord w = true := fun w h => List.all_eq_true.mp (show wsX10.all goodWord = true by decide +kernel) w h
set_option maxRecDepth 20000 in
theorem wGg_X2 : ∀ w ∈ wsX20, goodWord w = true := fun w h => List.all_eq_true.mp (show wsX20.all goodWord = true by decide +kernel) w h
set_option maxRecDepth 20000 in
theorem wGg_X3 : ∀ w ∈ wsX30, goodWord w = true := fun w h => List.all_eq_true.mp (show wsX30.all goodWord = true by decide +kernel) w h
set_option maxRecDepth 20000 in
theorem wGg_X4 : ∀ w ∈ wsX40, goodWord w = true := fun w h => List.all_eq_true.mp (show wsX40.all goodWord = true by decide +kernel) w h
set_option maxRecDepth 20000 in
theorem wGg_X5 : ∀ w ∈ wsX50, goodWord w = true := fun w h => List.all_eq_true.mp (show wsX50.all goodWord = true by decide +kernel) w h
set_option maxRecDepth 20000 in
theorem wGg_X6 : ∀ w ∈ wsX60, goodWord w = true := fun w h => List.all_eq_true.mp (show wsX60.all goodWord = true by decide +kernel) w h
set_option maxRecDepth 20000 in
theorem wGg_X7 : ∀ w ∈ wsX70, goodWord w = true := fun w h => List.all_eq_true.mp (show wsX70.all goodWord = true by decide +kernel) w h
theorem wG_in : ∀ w ∈ wG, w ∈ lw_tbl := List.forall_mem_append.mpr ⟨wGi_0, List.forall_mem_append.mpr ⟨wGi_1, List.forall_mem_append.mpr ⟨wGi_2, List.forall_mem_append.mpr ⟨wGi_3, List.forall_mem_append.mpr ⟨wGi_4, List.forall_mem_append.mpr ⟨wGi_5, List.forall_mem_append.mpr ⟨wGi_6, List.forall_mem_append.mpr ⟨wGi_7, List.forall_mem_append.mpr ⟨wGi_8, List.forall_mem_append.mpr ⟨wGi_9, List.forall_mem_append.mpr ⟨wGi_10, List.forall_mem_append.mpr ⟨wGi_11, List.forall_mem_append.mpr ⟨wGi_12, List.forall_mem_append.mpr ⟨wGi_13, List.forall_mem_append.mpr ⟨wGi_14, List.forall_mem_append.mpr ⟨wGi_15, List.forall_mem_append.mpr ⟨wGi_16, List.forall_mem_append.mpr ⟨wGi_17, List.forall_mem_append.mpr ⟨wGi_18, List.forall_mem_append.mpr ⟨wGi_19, List.forall_mem_append.mpr ⟨wGi_20, List.forall_mem_append.mpr ⟨wGi_21, List.forall_mem_append.mpr ⟨wGi_22, List.forall_mem_append.mpr ⟨wGi_23, List.forall_mem_append.mpr ⟨wGi_24, List.forall_mem_append.mpr ⟨wGi_25, List.forall_mem_append.mpr ⟨wGi_26, List.forall_mem_append.mpr ⟨wGi_27, List.forall_mem_append.mpr ⟨wGi_28, List.forall_mem_append.mpr ⟨wGi_29, List.forall_mem_append.mpr ⟨wGi_30, List.forall_mem_append.mpr ⟨wGi_31, List.forall_mem_append.mpr ⟨wGi_32, List.forall_mem_append.mpr ⟨wGi_33, List.forall_mem_append.mpr ⟨wGi_34, List.forall_mem_append.mpr ⟨wGi_35, List.forall_mem_append.mpr ⟨wGi_36, List.forall_mem_append.mpr ⟨wGi_X0, List.forall_mem_append.mpr ⟨wGi_X1, List.forall_mem_append.mpr ⟨wGi_X2, List.forall_mem_append.mpr ⟨wGi_X3, List.forall_mem_append.mpr ⟨wGi_X4, List.forall_mem_append.mpr ⟨wGi_X5, List.forall_mem_append.mpr ⟨wGi_X6, wGi_X7⟩⟩⟩⟩⟩⟩⟩⟩⟩⟩⟩⟩⟩⟩⟩⟩⟩⟩⟩⟩⟩⟩⟩⟩⟩⟩⟩⟩⟩⟩⟩⟩⟩⟩⟩⟩⟩⟩⟩⟩⟩⟩⟩⟩
theorem wG_good : ∀ w ∈ wG, goodWord w = true := List.forall_mem_append.mpr ⟨wGg_0, List.forall_mem_append.mpr ⟨wGg_1, List.forall_mem_append.mpr ⟨wGg_2, List.forall_mem_append.mpr ⟨wGg_3, List.forall_mem_append.mpr ⟨wGg_4, List.forall_mem_append.mpr ⟨wGg_5, List.forall_mem_append.mpr ⟨wGg_6, List.forall_mem_append.mpr ⟨wGg_7, List.forall_mem_append.mpr ⟨wGg_8, List.forall_mem_append.mpr ⟨wGg_9, List.forall_mem_append.mpr ⟨wGg_10, List.forall_mem_append.mpr ⟨wGg_11, List.forall_mem_append.mpr ⟨wGg_12, List.forall_mem_append.mpr ⟨wGg_13, List.forall_mem_append.mpr ⟨wGg_14, List.forall_mem_append.mpr ⟨wGg_15, List.forall_mem_append.mpr ⟨wGg_16, List.forall_mem_append.mpr ⟨wGg_17, List.forall_mem_append.mpr ⟨wGg_18, List.forall_mem_append.mpr ⟨wGg_19, List.forall_mem_append.mpr ⟨wGg_20, List.forall_mem_append.mpr ⟨wGg_21, List.forall_mem_append.mpr ⟨wGg_22, List.forall_mem_append.mpr ⟨wGg_23, List.forall_mem_append.mpr ⟨wGg_24, List.forall_mem_append.mpr ⟨wGg_25, List.forall_mem_append.mpr ⟨wGg_26, List.forall_mem_append.mpr ⟨wGg_27, List.forall_mem_append.mpr ⟨wGg_28, List.forall_mem_append.mpr ⟨wGg_29, List.forall_mem_append.mpr ⟨wGg_30, List.forall_mem_append.mpr ⟨wGg_31, List.forall_mem_append.mpr ⟨wGg_32, List.forall_mem_append.mpr ⟨wGg_33, List.forall_mem_append.mpr ⟨wGg_34, List.forall_mem_append.mpr ⟨wGg_35, List.forall_mem_append.mpr ⟨wGg_36, List.forall_mem_append.mpr ⟨wGg_X0, List.forall_mem_append.mpr ⟨wGg_X1, List.forall_mem_append.mpr ⟨wGg_X2, List.forall_mem_append.mpr ⟨wGg_X3, List.forall_mem_append.mpr ⟨wGg_X4, List.forall_mem_append.mpr ⟨wGg_X5, List.forall_mem_append.mpr ⟨wGg_X6, wGg_X7⟩⟩⟩⟩⟩⟩⟩⟩⟩⟩⟩⟩⟩⟩⟩⟩⟩⟩⟩⟩⟩⟩⟩⟩⟩⟩⟩⟩⟩⟩⟩⟩⟩⟩⟩⟩⟩⟩⟩⟩⟩⟩⟩⟩
