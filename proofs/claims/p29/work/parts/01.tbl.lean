-- ===== PART A: goes FIRST, ahead of the names: the tables' words, and 'selects' of the private methods out of them =====
/-- a private method of a class that the tables say can be made, by its rows of tables_1 -/
def lw_okq (q : MethodName × Nat) : Prop := (q.1.cls ≠ "java/lang/invoke/MethodHandle" ∧ q.1.cls ≠ "java/lang/invoke/VarHandle") ∧ Cond.instantiable q.1.cls q.2 ∈ tables_1 ∧ Cond.privateMethod q.1 ∈ tables_1 ∧ Cond.instanceMethod q.1 ∈ tables_1
theorem tq_1 : ∀ w ∈ tables_1_1, w ∈ tables_1 := fun w h => List.mem_append_left _ (h)
theorem tq_2 : ∀ w ∈ tables_1_2, w ∈ tables_1 := fun w h => List.mem_append_right _ (List.mem_append_left _ (h))
theorem tq_3 : ∀ w ∈ tables_1_3, w ∈ tables_1 := fun w h => List.mem_append_right _ (List.mem_append_right _ (List.mem_append_left _ (h)))
theorem tq_4 : ∀ w ∈ tables_1_4, w ∈ tables_1 := fun w h => List.mem_append_right _ (List.mem_append_right _ (List.mem_append_right _ (List.mem_append_left _ (h))))
theorem tq_5 : ∀ w ∈ tables_1_5, w ∈ tables_1 := fun w h => List.mem_append_right _ (List.mem_append_right _ (List.mem_append_right _ (List.mem_append_right _ (List.mem_append_left _ (h)))))
theorem tq_6 : ∀ w ∈ tables_1_6, w ∈ tables_1 := fun w h => List.mem_append_right _ (List.mem_append_right _ (List.mem_append_right _ (List.mem_append_right _ (List.mem_append_right _ (List.mem_append_left _ (h))))))
theorem tq_7 : ∀ w ∈ tables_1_7, w ∈ tables_1 := fun w h => List.mem_append_right _ (List.mem_append_right _ (List.mem_append_right _ (List.mem_append_right _ (List.mem_append_right _ (List.mem_append_right _ (List.mem_append_left _ (h)))))))
theorem tq_8 : ∀ w ∈ tables_1_8, w ∈ tables_1 := fun w h => List.mem_append_right _ (List.mem_append_right _ (List.mem_append_right _ (List.mem_append_right _ (List.mem_append_right _ (List.mem_append_right _ (List.mem_append_right _ (h)))))))
theorem cq_0 : ("KingHears" : String) ≠ "java/lang/invoke/MethodHandle" ∧ ("KingHears" : String) ≠ "java/lang/invoke/VarHandle" := by decide +kernel
theorem cq_1 : ("KingHears$Acts" : String) ≠ "java/lang/invoke/MethodHandle" ∧ ("KingHears$Acts" : String) ≠ "java/lang/invoke/VarHandle" := by decide +kernel
theorem cq_2 : ("KingHears$Hearing" : String) ≠ "java/lang/invoke/MethodHandle" ∧ ("KingHears$Hearing" : String) ≠ "java/lang/invoke/VarHandle" := by decide +kernel
theorem cq_3 : ("KingHears$Reader" : String) ≠ "java/lang/invoke/MethodHandle" ∧ ("KingHears$Reader" : String) ≠ "java/lang/invoke/VarHandle" := by decide +kernel
theorem cq_4 : ("KingHears$Scale" : String) ≠ "java/lang/invoke/MethodHandle" ∧ ("KingHears$Scale" : String) ≠ "java/lang/invoke/VarHandle" := by decide +kernel
theorem cq_5 : ("KingHearsModel" : String) ≠ "java/lang/invoke/MethodHandle" ∧ ("KingHearsModel" : String) ≠ "java/lang/invoke/VarHandle" := by decide +kernel
theorem cq_6 : ("java/lang/Throwable" : String) ≠ "java/lang/invoke/MethodHandle" ∧ ("java/lang/Throwable" : String) ≠ "java/lang/invoke/VarHandle" := by decide +kernel
set_option maxRecDepth 20000 in
theorem lw_p0 : lw_okq (⟨"KingHears", "refuse", "(I)I"⟩, 12) := ⟨cq_0, tq_1 _ (List.mem_of_getElem? (i := 21) rfl), tq_2 _ (List.mem_of_getElem? (i := 156) rfl), tq_2 _ (List.mem_of_getElem? (i := 157) rfl)⟩
set_option maxRecDepth 20000 in
theorem lw_p1 : lw_okq (⟨"KingHears$Reader", "nextToken", "()V"⟩, 15) := ⟨cq_3, tq_1 _ (List.mem_of_getElem? (i := 29) rfl), tq_2 _ (List.mem_of_getElem? (i := 168) rfl), tq_2 _ (List.mem_of_getElem? (i := 169) rfl)⟩
set_option maxRecDepth 20000 in
theorem lw_p2 : lw_okq (⟨"KingHears$Reader", "byteAt", "(I)I"⟩, 15) := ⟨cq_3, tq_1 _ (List.mem_of_getElem? (i := 29) rfl), tq_2 _ (List.mem_of_getElem? (i := 172) rfl), tq_2 _ (List.mem_of_getElem? (i := 173) rfl)⟩
set_option maxRecDepth 20000 in
theorem lw_p3 : lw_okq (⟨"KingHears$Reader", "takeLetters", "()V"⟩, 15) := ⟨cq_3, tq_1 _ (List.mem_of_getElem? (i := 29) rfl), tq_2 _ (List.mem_of_getElem? (i := 179) rfl), tq_2 _ (List.mem_of_getElem? (i := 180) rfl)⟩
set_option maxRecDepth 20000 in
theorem lw_p4 : lw_okq (⟨"KingHears$Reader", "takeDigits", "()V"⟩, 15) := ⟨cq_3, tq_1 _ (List.mem_of_getElem? (i := 29) rfl), tq_2 _ (List.mem_of_getElem? (i := 186) rfl), tq_2 _ (List.mem_of_getElem? (i := 187) rfl)⟩
set_option maxRecDepth 20000 in
theorem lw_p5 : lw_okq (⟨"KingHears$Reader", "readLine", "()Z"⟩, 15) := ⟨cq_3, tq_1 _ (List.mem_of_getElem? (i := 29) rfl), tq_2 _ (List.mem_of_getElem? (i := 190) rfl), tq_2 _ (List.mem_of_getElem? (i := 191) rfl)⟩
set_option maxRecDepth 20000 in
theorem lw_p6 : lw_okq (⟨"KingHears$Reader", "isLineKey", "()Z"⟩, 15) := ⟨cq_3, tq_1 _ (List.mem_of_getElem? (i := 29) rfl), tq_2 _ (List.mem_of_getElem? (i := 194) rfl), tq_2 _ (List.mem_of_getElem? (i := 195) rfl)⟩
set_option maxRecDepth 20000 in
theorem lw_p7 : lw_okq (⟨"KingHears$Reader", "faulty", "(I)Z"⟩, 15) := ⟨cq_3, tq_1 _ (List.mem_of_getElem? (i := 29) rfl), tq_2 _ (List.mem_of_getElem? (i := 198) rfl), tq_2 _ (List.mem_of_getElem? (i := 199) rfl)⟩
set_option maxRecDepth 20000 in
theorem lw_p8 : lw_okq (⟨"KingHears$Reader", "readCourt", "()Z"⟩, 15) := ⟨cq_3, tq_1 _ (List.mem_of_getElem? (i := 29) rfl), tq_2 _ (List.mem_of_getElem? (i := 202) rfl), tq_2 _ (List.mem_of_getElem? (i := 203) rfl)⟩
set_option maxRecDepth 20000 in
theorem lw_p9 : lw_okq (⟨"KingHears$Reader", "isWholeWithin", "(II)Z"⟩, 15) := ⟨cq_3, tq_1 _ (List.mem_of_getElem? (i := 29) rfl), tq_2 _ (List.mem_of_getElem? (i := 206) rfl), tq_2 _ (List.mem_of_getElem? (i := 207) rfl)⟩
set_option maxRecDepth 20000 in
theorem lw_p10 : lw_okq (⟨"KingHears$Reader", "readWord", "()Z"⟩, 15) := ⟨cq_3, tq_1 _ (List.mem_of_getElem? (i := 29) rfl), tq_2 _ (List.mem_of_getElem? (i := 210) rfl), tq_2 _ (List.mem_of_getElem? (i := 211) rfl)⟩
set_option maxRecDepth 20000 in
theorem lw_p11 : lw_okq (⟨"KingHears$Reader", "isNewName", "()Z"⟩, 15) := ⟨cq_3, tq_1 _ (List.mem_of_getElem? (i := 29) rfl), tq_2 _ (List.mem_of_getElem? (i := 222) rfl), tq_2 _ (List.mem_of_getElem? (i := 223) rfl)⟩
set_option maxRecDepth 20000 in
theorem lw_p12 : lw_okq (⟨"KingHears$Reader", "toldNode", "()I"⟩, 15) := ⟨cq_3, tq_1 _ (List.mem_of_getElem? (i := 29) rfl), tq_2 _ (List.mem_of_getElem? (i := 226) rfl), tq_2 _ (List.mem_of_getElem? (i := 227) rfl)⟩
set_option maxRecDepth 20000 in
theorem lw_p13 : lw_okq (⟨"KingHears$Reader", "endNode", "(JI)V"⟩, 15) := ⟨cq_3, tq_1 _ (List.mem_of_getElem? (i := 29) rfl), tq_2 _ (List.mem_of_getElem? (i := 230) rfl), tq_2 _ (List.mem_of_getElem? (i := 231) rfl)⟩
set_option maxRecDepth 20000 in
theorem lw_p14 : lw_okq (⟨"KingHears$Reader", "readRuler", "(I)Z"⟩, 15) := ⟨cq_3, tq_1 _ (List.mem_of_getElem? (i := 29) rfl), tq_2 _ (List.mem_of_getElem? (i := 238) rfl), tq_2 _ (List.mem_of_getElem? (i := 239) rfl)⟩
set_option maxRecDepth 20000 in
theorem lw_p15 : lw_okq (⟨"KingHears$Reader", "readPart", "(I)Z"⟩, 15) := ⟨cq_3, tq_1 _ (List.mem_of_getElem? (i := 29) rfl), tq_3 _ (List.mem_of_getElem? (i := 2) rfl), tq_3 _ (List.mem_of_getElem? (i := 3) rfl)⟩
def lw_privs_1 : List (MethodName × Nat) := [(⟨"KingHears", "refuse", "(I)I"⟩, 12), (⟨"KingHears$Reader", "nextToken", "()V"⟩, 15), (⟨"KingHears$Reader", "byteAt", "(I)I"⟩, 15), (⟨"KingHears$Reader", "takeLetters", "()V"⟩, 15), (⟨"KingHears$Reader", "takeDigits", "()V"⟩, 15), (⟨"KingHears$Reader", "readLine", "()Z"⟩, 15), (⟨"KingHears$Reader", "isLineKey", "()Z"⟩, 15), (⟨"KingHears$Reader", "faulty", "(I)Z"⟩, 15), (⟨"KingHears$Reader", "readCourt", "()Z"⟩, 15), (⟨"KingHears$Reader", "isWholeWithin", "(II)Z"⟩, 15), (⟨"KingHears$Reader", "readWord", "()Z"⟩, 15), (⟨"KingHears$Reader", "isNewName", "()Z"⟩, 15), (⟨"KingHears$Reader", "toldNode", "()I"⟩, 15), (⟨"KingHears$Reader", "endNode", "(JI)V"⟩, 15), (⟨"KingHears$Reader", "readRuler", "(I)Z"⟩, 15), (⟨"KingHears$Reader", "readPart", "(I)Z"⟩, 15)]
theorem lw_r1 : ∀ q ∈ lw_privs_1, lw_okq q := List.forall_mem_cons.mpr ⟨lw_p0, List.forall_mem_cons.mpr ⟨lw_p1, List.forall_mem_cons.mpr ⟨lw_p2, List.forall_mem_cons.mpr ⟨lw_p3, List.forall_mem_cons.mpr ⟨lw_p4, List.forall_mem_cons.mpr ⟨lw_p5, List.forall_mem_cons.mpr ⟨lw_p6, List.forall_mem_cons.mpr ⟨lw_p7, List.forall_mem_cons.mpr ⟨lw_p8, List.forall_mem_cons.mpr ⟨lw_p9, List.forall_mem_cons.mpr ⟨lw_p10, List.forall_mem_cons.mpr ⟨lw_p11, List.forall_mem_cons.mpr ⟨lw_p12, List.forall_mem_cons.mpr ⟨lw_p13, List.forall_mem_cons.mpr ⟨lw_p14, List.forall_mem_cons.mpr ⟨lw_p15, fun _ h => absurd h List.not_mem_nil⟩⟩⟩⟩⟩⟩⟩⟩⟩⟩⟩⟩⟩⟩⟩⟩
set_option maxRecDepth 20000 in
theorem lw_p16 : lw_okq (⟨"KingHears$Reader", "isToldName", "()Z"⟩, 15) := ⟨cq_3, tq_1 _ (List.mem_of_getElem? (i := 29) rfl), tq_3 _ (List.mem_of_getElem? (i := 6) rfl), tq_3 _ (List.mem_of_getElem? (i := 7) rfl)⟩
set_option maxRecDepth 20000 in
theorem lw_p17 : lw_okq (⟨"KingHears$Reader", "readThrone", "()Z"⟩, 15) := ⟨cq_3, tq_1 _ (List.mem_of_getElem? (i := 29) rfl), tq_3 _ (List.mem_of_getElem? (i := 30) rfl), tq_3 _ (List.mem_of_getElem? (i := 31) rfl)⟩
set_option maxRecDepth 20000 in
theorem lw_p18 : lw_okq (⟨"KingHears$Reader", "readUnsure", "()Z"⟩, 15) := ⟨cq_3, tq_1 _ (List.mem_of_getElem? (i := 29) rfl), tq_3 _ (List.mem_of_getElem? (i := 34) rfl), tq_3 _ (List.mem_of_getElem? (i := 35) rfl)⟩
set_option maxRecDepth 20000 in
theorem lw_p19 : lw_okq (⟨"KingHears$Reader", "readSaid", "()Z"⟩, 15) := ⟨cq_3, tq_1 _ (List.mem_of_getElem? (i := 29) rfl), tq_3 _ (List.mem_of_getElem? (i := 50) rfl), tq_3 _ (List.mem_of_getElem? (i := 51) rfl)⟩
set_option maxRecDepth 20000 in
theorem lw_p20 : lw_okq (⟨"KingHears$Reader", "readEnd", "()Z"⟩, 15) := ⟨cq_3, tq_1 _ (List.mem_of_getElem? (i := 29) rfl), tq_3 _ (List.mem_of_getElem? (i := 54) rfl), tq_3 _ (List.mem_of_getElem? (i := 55) rfl)⟩
set_option maxRecDepth 20000 in
theorem lw_p21 : lw_okq (⟨"KingHears", "lacksNode", "(I)Z"⟩, 12) := ⟨cq_0, tq_1 _ (List.mem_of_getElem? (i := 21) rfl), tq_3 _ (List.mem_of_getElem? (i := 82) rfl), tq_3 _ (List.mem_of_getElem? (i := 83) rfl)⟩
set_option maxRecDepth 20000 in
theorem lw_p22 : lw_okq (⟨"KingHears", "lacksPart", "(II)Z"⟩, 12) := ⟨cq_0, tq_1 _ (List.mem_of_getElem? (i := 21) rfl), tq_3 _ (List.mem_of_getElem? (i := 91) rfl), tq_3 _ (List.mem_of_getElem? (i := 92) rfl)⟩
set_option maxRecDepth 20000 in
theorem lw_p23 : lw_okq (⟨"KingHears", "lacksCourt", "()Z"⟩, 12) := ⟨cq_0, tq_1 _ (List.mem_of_getElem? (i := 21) rfl), tq_3 _ (List.mem_of_getElem? (i := 108) rfl), tq_3 _ (List.mem_of_getElem? (i := 109) rfl)⟩
set_option maxRecDepth 20000 in
theorem lw_p24 : lw_okq (⟨"KingHears$Scale", "joined", "(LKingHears$Court;I)I"⟩, 2) := ⟨cq_4, tq_2 _ (List.mem_of_getElem? (i := 93) rfl), tq_3 _ (List.mem_of_getElem? (i := 121) rfl), tq_3 _ (List.mem_of_getElem? (i := 122) rfl)⟩
set_option maxRecDepth 20000 in
theorem lw_p25 : lw_okq (⟨"KingHears$Scale", "throneValue", "(LKingHears$Court;)I"⟩, 2) := ⟨cq_4, tq_2 _ (List.mem_of_getElem? (i := 93) rfl), tq_3 _ (List.mem_of_getElem? (i := 128) rfl), tq_3 _ (List.mem_of_getElem? (i := 129) rfl)⟩
set_option maxRecDepth 20000 in
theorem lw_p26 : lw_okq (⟨"KingHears", "bestPart", "(I)I"⟩, 12) := ⟨cq_0, tq_1 _ (List.mem_of_getElem? (i := 21) rfl), tq_3 _ (List.mem_of_getElem? (i := 143) rfl), tq_3 _ (List.mem_of_getElem? (i := 144) rfl)⟩
set_option maxRecDepth 20000 in
theorem lw_p27 : lw_okq (⟨"KingHears", "lineLength", "()I"⟩, 12) := ⟨cq_0, tq_1 _ (List.mem_of_getElem? (i := 21) rfl), tq_3 _ (List.mem_of_getElem? (i := 151) rfl), tq_3 _ (List.mem_of_getElem? (i := 152) rfl)⟩
set_option maxRecDepth 20000 in
theorem lw_p28 : lw_okq (⟨"KingHears$Hearing", "begin", "()V"⟩, 7) := ⟨cq_2, tq_2 _ (List.mem_of_getElem? (i := 60) rfl), tq_3 _ (List.mem_of_getElem? (i := 175) rfl), tq_3 _ (List.mem_of_getElem? (i := 176) rfl)⟩
set_option maxRecDepth 20000 in
theorem lw_p29 : lw_okq (⟨"KingHears$Hearing", "listen", "(LKingHears$Court;LKingHears$Stand;IIII)I"⟩, 7) := ⟨cq_2, tq_2 _ (List.mem_of_getElem? (i := 60) rfl), tq_3 _ (List.mem_of_getElem? (i := 182) rfl), tq_3 _ (List.mem_of_getElem? (i := 183) rfl)⟩
set_option maxRecDepth 20000 in
theorem lw_p30 : lw_okq (⟨"KingHears$Hearing", "noteWord", "(I)V"⟩, 7) := ⟨cq_2, tq_2 _ (List.mem_of_getElem? (i := 60) rfl), tq_3 _ (List.mem_of_getElem? (i := 187) rfl), tq_3 _ (List.mem_of_getElem? (i := 188) rfl)⟩
set_option maxRecDepth 20000 in
theorem lw_p31 : lw_okq (⟨"KingHears$Hearing", "listenToChance", "(LKingHears$Court;LKingHears$Stand;II)I"⟩, 7) := ⟨cq_2, tq_2 _ (List.mem_of_getElem? (i := 60) rfl), tq_3 _ (List.mem_of_getElem? (i := 191) rfl), tq_3 _ (List.mem_of_getElem? (i := 192) rfl)⟩
def lw_privs_2 : List (MethodName × Nat) := [(⟨"KingHears$Reader", "isToldName", "()Z"⟩, 15), (⟨"KingHears$Reader", "readThrone", "()Z"⟩, 15), (⟨"KingHears$Reader", "readUnsure", "()Z"⟩, 15), (⟨"KingHears$Reader", "readSaid", "()Z"⟩, 15), (⟨"KingHears$Reader", "readEnd", "()Z"⟩, 15), (⟨"KingHears", "lacksNode", "(I)Z"⟩, 12), (⟨"KingHears", "lacksPart", "(II)Z"⟩, 12), (⟨"KingHears", "lacksCourt", "()Z"⟩, 12), (⟨"KingHears$Scale", "joined", "(LKingHears$Court;I)I"⟩, 2), (⟨"KingHears$Scale", "throneValue", "(LKingHears$Court;)I"⟩, 2), (⟨"KingHears", "bestPart", "(I)I"⟩, 12), (⟨"KingHears", "lineLength", "()I"⟩, 12), (⟨"KingHears$Hearing", "begin", "()V"⟩, 7), (⟨"KingHears$Hearing", "listen", "(LKingHears$Court;LKingHears$Stand;IIII)I"⟩, 7), (⟨"KingHears$Hearing", "noteWord", "(I)V"⟩, 7), (⟨"KingHears$Hearing", "listenToChance", "(LKingHears$Court;LKingHears$Stand;II)I"⟩, 7)]
theorem lw_r2 : ∀ q ∈ lw_privs_2, lw_okq q := List.forall_mem_cons.mpr ⟨lw_p16, List.forall_mem_cons.mpr ⟨lw_p17, List.forall_mem_cons.mpr ⟨lw_p18, List.forall_mem_cons.mpr ⟨lw_p19, List.forall_mem_cons.mpr ⟨lw_p20, List.forall_mem_cons.mpr ⟨lw_p21, List.forall_mem_cons.mpr ⟨lw_p22, List.forall_mem_cons.mpr ⟨lw_p23, List.forall_mem_cons.mpr ⟨lw_p24, List.forall_mem_cons.mpr ⟨lw_p25, List.forall_mem_cons.mpr ⟨lw_p26, List.forall_mem_cons.mpr ⟨lw_p27, List.forall_mem_cons.mpr ⟨lw_p28, List.forall_mem_cons.mpr ⟨lw_p29, List.forall_mem_cons.mpr ⟨lw_p30, List.forall_mem_cons.mpr ⟨lw_p31, fun _ h => absurd h List.not_mem_nil⟩⟩⟩⟩⟩⟩⟩⟩⟩⟩⟩⟩⟩⟩⟩⟩
set_option maxRecDepth 20000 in
theorem lw_p32 : lw_okq (⟨"KingHears$Hearing", "listenToRuler", "(LKingHears$Court;LKingHears$Stand;IIII)I"⟩, 7) := ⟨cq_2, tq_2 _ (List.mem_of_getElem? (i := 60) rfl), tq_3 _ (List.mem_of_getElem? (i := 201) rfl), tq_3 _ (List.mem_of_getElem? (i := 202) rfl)⟩
set_option maxRecDepth 20000 in
theorem lw_p33 : lw_okq (⟨"KingHears$Hearing", "noteCuts", "(LKingHears$Court;LKingHears$Stand;II)V"⟩, 7) := ⟨cq_2, tq_2 _ (List.mem_of_getElem? (i := 60) rfl), tq_3 _ (List.mem_of_getElem? (i := 205) rfl), tq_3 _ (List.mem_of_getElem? (i := 206) rfl)⟩
set_option maxRecDepth 20000 in
theorem lw_p34 : lw_okq (⟨"KingHears", "lacksBounds", "(II)Z"⟩, 12) := ⟨cq_0, tq_1 _ (List.mem_of_getElem? (i := 21) rfl), tq_4 _ (List.mem_of_getElem? (i := 1) rfl), tq_4 _ (List.mem_of_getElem? (i := 2) rfl)⟩
set_option maxRecDepth 20000 in
theorem lw_p35 : lw_okq (⟨"KingHears", "lacksNumber", "(III)Z"⟩, 12) := ⟨cq_0, tq_1 _ (List.mem_of_getElem? (i := 21) rfl), tq_4 _ (List.mem_of_getElem? (i := 17) rfl), tq_4 _ (List.mem_of_getElem? (i := 18) rfl)⟩
set_option maxRecDepth 20000 in
theorem lw_p36 : lw_okq (⟨"KingHears$Hearing", "isSoMuch", "(LKingHears$Court;LKingHears$Stand;III)Z"⟩, 7) := ⟨cq_2, tq_2 _ (List.mem_of_getElem? (i := 60) rfl), tq_4 _ (List.mem_of_getElem? (i := 25) rfl), tq_4 _ (List.mem_of_getElem? (i := 26) rfl)⟩
set_option maxRecDepth 20000 in
theorem lw_p37 : lw_okq (⟨"KingHears", "fewestWords", "(II)I"⟩, 12) := ⟨cq_0, tq_1 _ (List.mem_of_getElem? (i := 21) rfl), tq_4 _ (List.mem_of_getElem? (i := 50) rfl), tq_4 _ (List.mem_of_getElem? (i := 51) rfl)⟩
set_option maxRecDepth 20000 in
theorem lw_p38 : lw_okq (⟨"KingHears", "shows", "(III)Z"⟩, 12) := ⟨cq_0, tq_1 _ (List.mem_of_getElem? (i := 21) rfl), tq_4 _ (List.mem_of_getElem? (i := 54) rfl), tq_4 _ (List.mem_of_getElem? (i := 55) rfl)⟩
set_option maxRecDepth 20000 in
theorem lw_p39 : lw_okq (⟨"KingHears", "placeOfFirst", "(I)I"⟩, 12) := ⟨cq_0, tq_1 _ (List.mem_of_getElem? (i := 21) rfl), tq_4 _ (List.mem_of_getElem? (i := 81) rfl), tq_4 _ (List.mem_of_getElem? (i := 82) rfl)⟩
set_option maxRecDepth 20000 in
theorem lw_p40 : lw_okq (⟨"KingHears", "breathsWithFirst", "(II)I"⟩, 12) := ⟨cq_0, tq_1 _ (List.mem_of_getElem? (i := 21) rfl), tq_4 _ (List.mem_of_getElem? (i := 85) rfl), tq_4 _ (List.mem_of_getElem? (i := 86) rfl)⟩
set_option maxRecDepth 20000 in
theorem lw_p41 : lw_okq (⟨"KingHears", "ordersOf", "(I)I"⟩, 12) := ⟨cq_0, tq_1 _ (List.mem_of_getElem? (i := 21) rfl), tq_4 _ (List.mem_of_getElem? (i := 108) rfl), tq_4 _ (List.mem_of_getElem? (i := 109) rfl)⟩
set_option maxRecDepth 20000 in
theorem lw_p42 : lw_okq (⟨"KingHears", "breathsInOrder", "(II)I"⟩, 12) := ⟨cq_0, tq_1 _ (List.mem_of_getElem? (i := 21) rfl), tq_4 _ (List.mem_of_getElem? (i := 112) rfl), tq_4 _ (List.mem_of_getElem? (i := 113) rfl)⟩
set_option maxRecDepth 20000 in
theorem lw_p43 : lw_okq (⟨"KingHears", "lacksWord", "(I)Z"⟩, 12) := ⟨cq_0, tq_1 _ (List.mem_of_getElem? (i := 21) rfl), tq_4 _ (List.mem_of_getElem? (i := 145) rfl), tq_4 _ (List.mem_of_getElem? (i := 146) rfl)⟩
set_option maxRecDepth 20000 in
theorem lw_p44 : lw_okq (⟨"KingHears", "leastTurn", "(I)I"⟩, 12) := ⟨cq_0, tq_1 _ (List.mem_of_getElem? (i := 21) rfl), tq_4 _ (List.mem_of_getElem? (i := 150) rfl), tq_4 _ (List.mem_of_getElem? (i := 151) rfl)⟩
set_option maxRecDepth 20000 in
theorem lw_p45 : lw_okq (⟨"KingHears", "leastTurnTowards", "(IIII)I"⟩, 12) := ⟨cq_0, tq_1 _ (List.mem_of_getElem? (i := 21) rfl), tq_4 _ (List.mem_of_getElem? (i := 154) rfl), tq_4 _ (List.mem_of_getElem? (i := 155) rfl)⟩
set_option maxRecDepth 20000 in
theorem lw_p46 : lw_okq (⟨"KingHears", "fittingSets", "()I"⟩, 12) := ⟨cq_0, tq_1 _ (List.mem_of_getElem? (i := 21) rfl), tq_4 _ (List.mem_of_getElem? (i := 172) rfl), tq_4 _ (List.mem_of_getElem? (i := 173) rfl)⟩
set_option maxRecDepth 20000 in
theorem lw_p47 : lw_okq (⟨"KingHears", "unsureToAsk", "(I)I"⟩, 12) := ⟨cq_0, tq_1 _ (List.mem_of_getElem? (i := 21) rfl), tq_4 _ (List.mem_of_getElem? (i := 201) rfl), tq_4 _ (List.mem_of_getElem? (i := 202) rfl)⟩
def lw_privs_3 : List (MethodName × Nat) := [(⟨"KingHears$Hearing", "listenToRuler", "(LKingHears$Court;LKingHears$Stand;IIII)I"⟩, 7), (⟨"KingHears$Hearing", "noteCuts", "(LKingHears$Court;LKingHears$Stand;II)V"⟩, 7), (⟨"KingHears", "lacksBounds", "(II)Z"⟩, 12), (⟨"KingHears", "lacksNumber", "(III)Z"⟩, 12), (⟨"KingHears$Hearing", "isSoMuch", "(LKingHears$Court;LKingHears$Stand;III)Z"⟩, 7), (⟨"KingHears", "fewestWords", "(II)I"⟩, 12), (⟨"KingHears", "shows", "(III)Z"⟩, 12), (⟨"KingHears", "placeOfFirst", "(I)I"⟩, 12), (⟨"KingHears", "breathsWithFirst", "(II)I"⟩, 12), (⟨"KingHears", "ordersOf", "(I)I"⟩, 12), (⟨"KingHears", "breathsInOrder", "(II)I"⟩, 12), (⟨"KingHears", "lacksWord", "(I)Z"⟩, 12), (⟨"KingHears", "leastTurn", "(I)I"⟩, 12), (⟨"KingHears", "leastTurnTowards", "(IIII)I"⟩, 12), (⟨"KingHears", "fittingSets", "()I"⟩, 12), (⟨"KingHears", "unsureToAsk", "(I)I"⟩, 12)]
theorem lw_r3 : ∀ q ∈ lw_privs_3, lw_okq q := List.forall_mem_cons.mpr ⟨lw_p32, List.forall_mem_cons.mpr ⟨lw_p33, List.forall_mem_cons.mpr ⟨lw_p34, List.forall_mem_cons.mpr ⟨lw_p35, List.forall_mem_cons.mpr ⟨lw_p36, List.forall_mem_cons.mpr ⟨lw_p37, List.forall_mem_cons.mpr ⟨lw_p38, List.forall_mem_cons.mpr ⟨lw_p39, List.forall_mem_cons.mpr ⟨lw_p40, List.forall_mem_cons.mpr ⟨lw_p41, List.forall_mem_cons.mpr ⟨lw_p42, List.forall_mem_cons.mpr ⟨lw_p43, List.forall_mem_cons.mpr ⟨lw_p44, List.forall_mem_cons.mpr ⟨lw_p45, List.forall_mem_cons.mpr ⟨lw_p46, List.forall_mem_cons.mpr ⟨lw_p47, fun _ h => absurd h List.not_mem_nil⟩⟩⟩⟩⟩⟩⟩⟩⟩⟩⟩⟩⟩⟩⟩⟩
set_option maxRecDepth 20000 in
theorem lw_p48 : lw_okq (⟨"KingHears", "leftAtMost", "(II)I"⟩, 12) := ⟨cq_0, tq_1 _ (List.mem_of_getElem? (i := 21) rfl), tq_4 _ (List.mem_of_getElem? (i := 205) rfl), tq_4 _ (List.mem_of_getElem? (i := 206) rfl)⟩
set_option maxRecDepth 20000 in
theorem lw_p49 : lw_okq (⟨"KingHears", "lacksDraws", "(II)Z"⟩, 12) := ⟨cq_0, tq_1 _ (List.mem_of_getElem? (i := 21) rfl), tq_5 _ (List.mem_of_getElem? (i := 12) rfl), tq_5 _ (List.mem_of_getElem? (i := 13) rfl)⟩
set_option maxRecDepth 20000 in
theorem lw_p50 : lw_okq (⟨"KingHears", "drawOrders", "(I)I"⟩, 12) := ⟨cq_0, tq_1 _ (List.mem_of_getElem? (i := 21) rfl), tq_5 _ (List.mem_of_getElem? (i := 17) rfl), tq_5 _ (List.mem_of_getElem? (i := 18) rfl)⟩
set_option maxRecDepth 20000 in
theorem lw_p51 : lw_okq (⟨"KingHears$Acts", "dropOldest", "()V"⟩, 4) := ⟨cq_1, tq_2 _ (List.mem_of_getElem? (i := 39) rfl), tq_5 _ (List.mem_of_getElem? (i := 38) rfl), tq_5 _ (List.mem_of_getElem? (i := 39) rfl)⟩
set_option maxRecDepth 20000 in
theorem lw_p52 : lw_okq (⟨"KingHears", "unheardWord", "(I)I"⟩, 12) := ⟨cq_0, tq_1 _ (List.mem_of_getElem? (i := 21) rfl), tq_5 _ (List.mem_of_getElem? (i := 82) rfl), tq_5 _ (List.mem_of_getElem? (i := 83) rfl)⟩
set_option maxRecDepth 20000 in
theorem lw_p53 : lw_okq (⟨"java/lang/Throwable", "fillInStackTrace", "(I)Ljava/lang/Throwable;"⟩, 6) := ⟨cq_6, tq_5 _ (List.mem_of_getElem? (i := 122) rfl), tq_5 _ (List.mem_of_getElem? (i := 120) rfl), tq_5 _ (List.mem_of_getElem? (i := 121) rfl)⟩
set_option maxRecDepth 20000 in
theorem lw_p54 : lw_okq (⟨"KingHearsModel", "good", "()V"⟩, 48) := ⟨cq_5, tq_5 _ (List.mem_of_getElem? (i := 151) rfl), tq_6 _ (List.mem_of_getElem? (i := 70) rfl), tq_6 _ (List.mem_of_getElem? (i := 71) rfl)⟩
set_option maxRecDepth 20000 in
theorem lw_p55 : lw_okq (⟨"KingHearsModel", "no", "(I)I"⟩, 48) := ⟨cq_5, tq_5 _ (List.mem_of_getElem? (i := 151) rfl), tq_6 _ (List.mem_of_getElem? (i := 77) rfl), tq_6 _ (List.mem_of_getElem? (i := 78) rfl)⟩
set_option maxRecDepth 20000 in
theorem lw_p56 : lw_okq (⟨"KingHearsModel", "next", "()V"⟩, 48) := ⟨cq_5, tq_5 _ (List.mem_of_getElem? (i := 151) rfl), tq_6 _ (List.mem_of_getElem? (i := 81) rfl), tq_6 _ (List.mem_of_getElem? (i := 82) rfl)⟩
set_option maxRecDepth 20000 in
theorem lw_p57 : lw_okq (⟨"KingHearsModel", "see", "(I)I"⟩, 48) := ⟨cq_5, tq_5 _ (List.mem_of_getElem? (i := 151) rfl), tq_6 _ (List.mem_of_getElem? (i := 85) rfl), tq_6 _ (List.mem_of_getElem? (i := 86) rfl)⟩
set_option maxRecDepth 20000 in
theorem lw_p58 : lw_okq (⟨"KingHearsModel", "readLine", "()V"⟩, 48) := ⟨cq_5, tq_5 _ (List.mem_of_getElem? (i := 151) rfl), tq_6 _ (List.mem_of_getElem? (i := 95) rfl), tq_6 _ (List.mem_of_getElem? (i := 96) rfl)⟩
set_option maxRecDepth 20000 in
theorem lw_p59 : lw_okq (⟨"KingHearsModel", "isWord", "(Ljava/lang/String;)Z"⟩, 48) := ⟨cq_5, tq_5 _ (List.mem_of_getElem? (i := 151) rfl), tq_6 _ (List.mem_of_getElem? (i := 100) rfl), tq_6 _ (List.mem_of_getElem? (i := 101) rfl)⟩
set_option maxRecDepth 20000 in
theorem lw_p60 : lw_okq (⟨"KingHearsModel", "courtLine", "()V"⟩, 48) := ⟨cq_5, tq_5 _ (List.mem_of_getElem? (i := 151) rfl), tq_6 _ (List.mem_of_getElem? (i := 106) rfl), tq_6 _ (List.mem_of_getElem? (i := 107) rfl)⟩
set_option maxRecDepth 20000 in
theorem lw_p61 : lw_okq (⟨"KingHearsModel", "wrong", "(II)V"⟩, 48) := ⟨cq_5, tq_5 _ (List.mem_of_getElem? (i := 151) rfl), tq_6 _ (List.mem_of_getElem? (i := 110) rfl), tq_6 _ (List.mem_of_getElem? (i := 111) rfl)⟩
set_option maxRecDepth 20000 in
theorem lw_p62 : lw_okq (⟨"KingHearsModel", "after", "(Ljava/lang/String;II)I"⟩, 48) := ⟨cq_5, tq_5 _ (List.mem_of_getElem? (i := 151) rfl), tq_6 _ (List.mem_of_getElem? (i := 115) rfl), tq_6 _ (List.mem_of_getElem? (i := 116) rfl)⟩
set_option maxRecDepth 20000 in
theorem lw_p63 : lw_okq (⟨"KingHearsModel", "must", "(Ljava/lang/String;)V"⟩, 48) := ⟨cq_5, tq_5 _ (List.mem_of_getElem? (i := 151) rfl), tq_6 _ (List.mem_of_getElem? (i := 119) rfl), tq_6 _ (List.mem_of_getElem? (i := 120) rfl)⟩
def lw_privs_4 : List (MethodName × Nat) := [(⟨"KingHears", "leftAtMost", "(II)I"⟩, 12), (⟨"KingHears", "lacksDraws", "(II)Z"⟩, 12), (⟨"KingHears", "drawOrders", "(I)I"⟩, 12), (⟨"KingHears$Acts", "dropOldest", "()V"⟩, 4), (⟨"KingHears", "unheardWord", "(I)I"⟩, 12), (⟨"java/lang/Throwable", "fillInStackTrace", "(I)Ljava/lang/Throwable;"⟩, 6), (⟨"KingHearsModel", "good", "()V"⟩, 48), (⟨"KingHearsModel", "no", "(I)I"⟩, 48), (⟨"KingHearsModel", "next", "()V"⟩, 48), (⟨"KingHearsModel", "see", "(I)I"⟩, 48), (⟨"KingHearsModel", "readLine", "()V"⟩, 48), (⟨"KingHearsModel", "isWord", "(Ljava/lang/String;)Z"⟩, 48), (⟨"KingHearsModel", "courtLine", "()V"⟩, 48), (⟨"KingHearsModel", "wrong", "(II)V"⟩, 48), (⟨"KingHearsModel", "after", "(Ljava/lang/String;II)I"⟩, 48), (⟨"KingHearsModel", "must", "(Ljava/lang/String;)V"⟩, 48)]
theorem lw_r4 : ∀ q ∈ lw_privs_4, lw_okq q := List.forall_mem_cons.mpr ⟨lw_p48, List.forall_mem_cons.mpr ⟨lw_p49, List.forall_mem_cons.mpr ⟨lw_p50, List.forall_mem_cons.mpr ⟨lw_p51, List.forall_mem_cons.mpr ⟨lw_p52, List.forall_mem_cons.mpr ⟨lw_p53, List.forall_mem_cons.mpr ⟨lw_p54, List.forall_mem_cons.mpr ⟨lw_p55, List.forall_mem_cons.mpr ⟨lw_p56, List.forall_mem_cons.mpr ⟨lw_p57, List.forall_mem_cons.mpr ⟨lw_p58, List.forall_mem_cons.mpr ⟨lw_p59, List.forall_mem_cons.mpr ⟨lw_p60, List.forall_mem_cons.mpr ⟨lw_p61, List.forall_mem_cons.mpr ⟨lw_p62, List.forall_mem_cons.mpr ⟨lw_p63, fun _ h => absurd h List.not_mem_nil⟩⟩⟩⟩⟩⟩⟩⟩⟩⟩⟩⟩⟩⟩⟩⟩
set_option maxRecDepth 20000 in
theorem lw_p64 : lw_okq (⟨"KingHearsModel", "takesWord", "(Ljava/lang/String;)Z"⟩, 48) := ⟨cq_5, tq_5 _ (List.mem_of_getElem? (i := 151) rfl), tq_6 _ (List.mem_of_getElem? (i := 123) rfl), tq_6 _ (List.mem_of_getElem? (i := 124) rfl)⟩
set_option maxRecDepth 20000 in
theorem lw_p65 : lw_okq (⟨"KingHearsModel", "number", "(II)I"⟩, 48) := ⟨cq_5, tq_5 _ (List.mem_of_getElem? (i := 151) rfl), tq_6 _ (List.mem_of_getElem? (i := 127) rfl), tq_6 _ (List.mem_of_getElem? (i := 128) rfl)⟩
set_option maxRecDepth 20000 in
theorem lw_p66 : lw_okq (⟨"KingHearsModel", "begins", "(Ljava/lang/String;Z)Z"⟩, 48) := ⟨cq_5, tq_5 _ (List.mem_of_getElem? (i := 151) rfl), tq_6 _ (List.mem_of_getElem? (i := 132) rfl), tq_6 _ (List.mem_of_getElem? (i := 133) rfl)⟩
set_option maxRecDepth 20000 in
theorem lw_p67 : lw_okq (⟨"KingHearsModel", "pass", "()V"⟩, 48) := ⟨cq_5, tq_5 _ (List.mem_of_getElem? (i := 151) rfl), tq_6 _ (List.mem_of_getElem? (i := 136) rfl), tq_6 _ (List.mem_of_getElem? (i := 137) rfl)⟩
set_option maxRecDepth 20000 in
theorem lw_p68 : lw_okq (⟨"KingHearsModel", "wordLine", "()V"⟩, 48) := ⟨cq_5, tq_5 _ (List.mem_of_getElem? (i := 151) rfl), tq_6 _ (List.mem_of_getElem? (i := 140) rfl), tq_6 _ (List.mem_of_getElem? (i := 141) rfl)⟩
set_option maxRecDepth 20000 in
theorem lw_p69 : lw_okq (⟨"KingHearsModel", "newName", "()V"⟩, 48) := ⟨cq_5, tq_5 _ (List.mem_of_getElem? (i := 151) rfl), tq_6 _ (List.mem_of_getElem? (i := 144) rfl), tq_6 _ (List.mem_of_getElem? (i := 145) rfl)⟩
set_option maxRecDepth 20000 in
theorem lw_p70 : lw_okq (⟨"KingHearsModel", "mustName", "()V"⟩, 48) := ⟨cq_5, tq_5 _ (List.mem_of_getElem? (i := 151) rfl), tq_6 _ (List.mem_of_getElem? (i := 148) rfl), tq_6 _ (List.mem_of_getElem? (i := 149) rfl)⟩
set_option maxRecDepth 20000 in
theorem lw_p71 : lw_okq (⟨"KingHearsModel", "find", "()I"⟩, 48) := ⟨cq_5, tq_5 _ (List.mem_of_getElem? (i := 151) rfl), tq_6 _ (List.mem_of_getElem? (i := 158) rfl), tq_6 _ (List.mem_of_getElem? (i := 159) rfl)⟩
set_option maxRecDepth 20000 in
theorem lw_p72 : lw_okq (⟨"KingHearsModel", "lay", "(I)V"⟩, 48) := ⟨cq_5, tq_5 _ (List.mem_of_getElem? (i := 151) rfl), tq_6 _ (List.mem_of_getElem? (i := 166) rfl), tq_6 _ (List.mem_of_getElem? (i := 167) rfl)⟩
set_option maxRecDepth 20000 in
theorem lw_p73 : lw_okq (⟨"KingHearsModel", "innerLine", "(I)V"⟩, 48) := ⟨cq_5, tq_5 _ (List.mem_of_getElem? (i := 151) rfl), tq_6 _ (List.mem_of_getElem? (i := 170) rfl), tq_6 _ (List.mem_of_getElem? (i := 171) rfl)⟩
set_option maxRecDepth 20000 in
theorem lw_p74 : lw_okq (⟨"KingHearsModel", "nodeHere", "()I"⟩, 48) := ⟨cq_5, tq_5 _ (List.mem_of_getElem? (i := 151) rfl), tq_6 _ (List.mem_of_getElem? (i := 174) rfl), tq_6 _ (List.mem_of_getElem? (i := 175) rfl)⟩
set_option maxRecDepth 20000 in
theorem lw_p75 : lw_okq (⟨"KingHearsModel", "throneLine", "()V"⟩, 48) := ⟨cq_5, tq_5 _ (List.mem_of_getElem? (i := 151) rfl), tq_6 _ (List.mem_of_getElem? (i := 178) rfl), tq_6 _ (List.mem_of_getElem? (i := 179) rfl)⟩
set_option maxRecDepth 20000 in
theorem lw_p76 : lw_okq (⟨"KingHearsModel", "unsureLine", "()V"⟩, 48) := ⟨cq_5, tq_5 _ (List.mem_of_getElem? (i := 151) rfl), tq_6 _ (List.mem_of_getElem? (i := 182) rfl), tq_6 _ (List.mem_of_getElem? (i := 183) rfl)⟩
set_option maxRecDepth 20000 in
theorem lw_p77 : lw_okq (⟨"KingHearsModel", "saidLine", "()V"⟩, 48) := ⟨cq_5, tq_5 _ (List.mem_of_getElem? (i := 151) rfl), tq_6 _ (List.mem_of_getElem? (i := 186) rfl), tq_6 _ (List.mem_of_getElem? (i := 187) rfl)⟩
set_option maxRecDepth 20000 in
theorem lw_p78 : lw_okq (⟨"KingHearsModel", "layScale", "()V"⟩, 48) := ⟨cq_5, tq_5 _ (List.mem_of_getElem? (i := 151) rfl), tq_6 _ (List.mem_of_getElem? (i := 190) rfl), tq_6 _ (List.mem_of_getElem? (i := 191) rfl)⟩
set_option maxRecDepth 20000 in
theorem lw_p79 : lw_okq (⟨"KingHearsModel", "weightsOf", "(I)I"⟩, 48) := ⟨cq_5, tq_5 _ (List.mem_of_getElem? (i := 151) rfl), tq_6 _ (List.mem_of_getElem? (i := 194) rfl), tq_6 _ (List.mem_of_getElem? (i := 195) rfl)⟩
def lw_privs_5 : List (MethodName × Nat) := [(⟨"KingHearsModel", "takesWord", "(Ljava/lang/String;)Z"⟩, 48), (⟨"KingHearsModel", "number", "(II)I"⟩, 48), (⟨"KingHearsModel", "begins", "(Ljava/lang/String;Z)Z"⟩, 48), (⟨"KingHearsModel", "pass", "()V"⟩, 48), (⟨"KingHearsModel", "wordLine", "()V"⟩, 48), (⟨"KingHearsModel", "newName", "()V"⟩, 48), (⟨"KingHearsModel", "mustName", "()V"⟩, 48), (⟨"KingHearsModel", "find", "()I"⟩, 48), (⟨"KingHearsModel", "lay", "(I)V"⟩, 48), (⟨"KingHearsModel", "innerLine", "(I)V"⟩, 48), (⟨"KingHearsModel", "nodeHere", "()I"⟩, 48), (⟨"KingHearsModel", "throneLine", "()V"⟩, 48), (⟨"KingHearsModel", "unsureLine", "()V"⟩, 48), (⟨"KingHearsModel", "saidLine", "()V"⟩, 48), (⟨"KingHearsModel", "layScale", "()V"⟩, 48), (⟨"KingHearsModel", "weightsOf", "(I)I"⟩, 48)]
theorem lw_r5 : ∀ q ∈ lw_privs_5, lw_okq q := List.forall_mem_cons.mpr ⟨lw_p64, List.forall_mem_cons.mpr ⟨lw_p65, List.forall_mem_cons.mpr ⟨lw_p66, List.forall_mem_cons.mpr ⟨lw_p67, List.forall_mem_cons.mpr ⟨lw_p68, List.forall_mem_cons.mpr ⟨lw_p69, List.forall_mem_cons.mpr ⟨lw_p70, List.forall_mem_cons.mpr ⟨lw_p71, List.forall_mem_cons.mpr ⟨lw_p72, List.forall_mem_cons.mpr ⟨lw_p73, List.forall_mem_cons.mpr ⟨lw_p74, List.forall_mem_cons.mpr ⟨lw_p75, List.forall_mem_cons.mpr ⟨lw_p76, List.forall_mem_cons.mpr ⟨lw_p77, List.forall_mem_cons.mpr ⟨lw_p78, List.forall_mem_cons.mpr ⟨lw_p79, fun _ h => absurd h List.not_mem_nil⟩⟩⟩⟩⟩⟩⟩⟩⟩⟩⟩⟩⟩⟩⟩⟩
set_option maxRecDepth 20000 in
theorem lw_p80 : lw_okq (⟨"KingHearsModel", "isNode", "(I)Z"⟩, 48) := ⟨cq_5, tq_5 _ (List.mem_of_getElem? (i := 151) rfl), tq_6 _ (List.mem_of_getElem? (i := 210) rfl), tq_6 _ (List.mem_of_getElem? (i := 211) rfl)⟩
set_option maxRecDepth 20000 in
theorem lw_p81 : lw_okq (⟨"KingHearsModel", "downOf", "(I)I"⟩, 48) := ⟨cq_5, tq_5 _ (List.mem_of_getElem? (i := 151) rfl), tq_6 _ (List.mem_of_getElem? (i := 214) rfl), tq_6 _ (List.mem_of_getElem? (i := 215) rfl)⟩
set_option maxRecDepth 20000 in
theorem lw_p82 : lw_okq (⟨"KingHearsModel", "wordsBelow", "(I)I"⟩, 48) := ⟨cq_5, tq_5 _ (List.mem_of_getElem? (i := 151) rfl), tq_6 _ (List.mem_of_getElem? (i := 218) rfl), tq_6 _ (List.mem_of_getElem? (i := 219) rfl)⟩
set_option maxRecDepth 20000 in
theorem lw_p83 : lw_okq (⟨"KingHearsModel", "wholesOf", "(I)I"⟩, 48) := ⟨cq_5, tq_5 _ (List.mem_of_getElem? (i := 151) rfl), tq_6 _ (List.mem_of_getElem? (i := 222) rfl), tq_6 _ (List.mem_of_getElem? (i := 223) rfl)⟩
set_option maxRecDepth 20000 in
theorem lw_p84 : lw_okq (⟨"KingHearsModel", "weightOf", "(II)I"⟩, 48) := ⟨cq_5, tq_5 _ (List.mem_of_getElem? (i := 151) rfl), tq_6 _ (List.mem_of_getElem? (i := 234) rfl), tq_6 _ (List.mem_of_getElem? (i := 235) rfl)⟩
set_option maxRecDepth 20000 in
theorem lw_p85 : lw_okq (⟨"KingHearsModel", "worthOf", "([II)I"⟩, 48) := ⟨cq_5, tq_5 _ (List.mem_of_getElem? (i := 151) rfl), tq_7 _ (List.mem_of_getElem? (i := 6) rfl), tq_7 _ (List.mem_of_getElem? (i := 7) rfl)⟩
set_option maxRecDepth 20000 in
theorem lw_p86 : lw_okq (⟨"KingHearsModel", "worthAt", "([III)I"⟩, 48) := ⟨cq_5, tq_5 _ (List.mem_of_getElem? (i := 151) rfl), tq_7 _ (List.mem_of_getElem? (i := 10) rfl), tq_7 _ (List.mem_of_getElem? (i := 11) rfl)⟩
set_option maxRecDepth 20000 in
theorem lw_p87 : lw_okq (⟨"KingHearsModel", "bestOf", "(I)I"⟩, 48) := ⟨cq_5, tq_5 _ (List.mem_of_getElem? (i := 151) rfl), tq_7 _ (List.mem_of_getElem? (i := 23) rfl), tq_7 _ (List.mem_of_getElem? (i := 24) rfl)⟩
set_option maxRecDepth 20000 in
theorem lw_p88 : lw_okq (⟨"KingHearsModel", "wholeOf", "(I)I"⟩, 48) := ⟨cq_5, tq_5 _ (List.mem_of_getElem? (i := 151) rfl), tq_7 _ (List.mem_of_getElem? (i := 39) rfl), tq_7 _ (List.mem_of_getElem? (i := 40) rfl)⟩
set_option maxRecDepth 20000 in
theorem lw_p89 : lw_okq (⟨"KingHearsModel", "breathsBy", "([I)I"⟩, 48) := ⟨cq_5, tq_5 _ (List.mem_of_getElem? (i := 151) rfl), tq_7 _ (List.mem_of_getElem? (i := 47) rfl), tq_7 _ (List.mem_of_getElem? (i := 48) rfl)⟩
set_option maxRecDepth 20000 in
theorem lw_p90 : lw_okq (⟨"KingHearsModel", "hearBy", "([III)I"⟩, 48) := ⟨cq_5, tq_5 _ (List.mem_of_getElem? (i := 151) rfl), tq_7 _ (List.mem_of_getElem? (i := 51) rfl), tq_7 _ (List.mem_of_getElem? (i := 52) rfl)⟩
set_option maxRecDepth 20000 in
theorem lw_p91 : lw_okq (⟨"KingHearsModel", "hear", "([IIII)I"⟩, 48) := ⟨cq_5, tq_5 _ (List.mem_of_getElem? (i := 151) rfl), tq_7 _ (List.mem_of_getElem? (i := 55) rfl), tq_7 _ (List.mem_of_getElem? (i := 56) rfl)⟩
set_option maxRecDepth 20000 in
theorem lw_p92 : lw_okq (⟨"KingHearsModel", "cutFrom", "([IIII)I"⟩, 48) := ⟨cq_5, tq_5 _ (List.mem_of_getElem? (i := 151) rfl), tq_7 _ (List.mem_of_getElem? (i := 59) rfl), tq_7 _ (List.mem_of_getElem? (i := 60) rfl)⟩
set_option maxRecDepth 20000 in
theorem lw_p93 : lw_okq (⟨"KingHearsModel", "heardSet", "()I"⟩, 48) := ⟨cq_5, tq_5 _ (List.mem_of_getElem? (i := 151) rfl), tq_7 _ (List.mem_of_getElem? (i := 71) rfl), tq_7 _ (List.mem_of_getElem? (i := 72) rfl)⟩
set_option maxRecDepth 20000 in
theorem lw_p94 : lw_okq (⟨"KingHearsModel", "boundWhy", "(II)I"⟩, 48) := ⟨cq_5, tq_5 _ (List.mem_of_getElem? (i := 151) rfl), tq_7 _ (List.mem_of_getElem? (i := 87) rfl), tq_7 _ (List.mem_of_getElem? (i := 88) rfl)⟩
set_option maxRecDepth 20000 in
theorem lw_p95 : lw_okq (⟨"KingHearsModel", "why", "(Z)I"⟩, 48) := ⟨cq_5, tq_5 _ (List.mem_of_getElem? (i := 151) rfl), tq_7 _ (List.mem_of_getElem? (i := 99) rfl), tq_7 _ (List.mem_of_getElem? (i := 100) rfl)⟩
def lw_privs_6 : List (MethodName × Nat) := [(⟨"KingHearsModel", "isNode", "(I)Z"⟩, 48), (⟨"KingHearsModel", "downOf", "(I)I"⟩, 48), (⟨"KingHearsModel", "wordsBelow", "(I)I"⟩, 48), (⟨"KingHearsModel", "wholesOf", "(I)I"⟩, 48), (⟨"KingHearsModel", "weightOf", "(II)I"⟩, 48), (⟨"KingHearsModel", "worthOf", "([II)I"⟩, 48), (⟨"KingHearsModel", "worthAt", "([III)I"⟩, 48), (⟨"KingHearsModel", "bestOf", "(I)I"⟩, 48), (⟨"KingHearsModel", "wholeOf", "(I)I"⟩, 48), (⟨"KingHearsModel", "breathsBy", "([I)I"⟩, 48), (⟨"KingHearsModel", "hearBy", "([III)I"⟩, 48), (⟨"KingHearsModel", "hear", "([IIII)I"⟩, 48), (⟨"KingHearsModel", "cutFrom", "([IIII)I"⟩, 48), (⟨"KingHearsModel", "heardSet", "()I"⟩, 48), (⟨"KingHearsModel", "boundWhy", "(II)I"⟩, 48), (⟨"KingHearsModel", "why", "(Z)I"⟩, 48)]
theorem lw_r6 : ∀ q ∈ lw_privs_6, lw_okq q := List.forall_mem_cons.mpr ⟨lw_p80, List.forall_mem_cons.mpr ⟨lw_p81, List.forall_mem_cons.mpr ⟨lw_p82, List.forall_mem_cons.mpr ⟨lw_p83, List.forall_mem_cons.mpr ⟨lw_p84, List.forall_mem_cons.mpr ⟨lw_p85, List.forall_mem_cons.mpr ⟨lw_p86, List.forall_mem_cons.mpr ⟨lw_p87, List.forall_mem_cons.mpr ⟨lw_p88, List.forall_mem_cons.mpr ⟨lw_p89, List.forall_mem_cons.mpr ⟨lw_p90, List.forall_mem_cons.mpr ⟨lw_p91, List.forall_mem_cons.mpr ⟨lw_p92, List.forall_mem_cons.mpr ⟨lw_p93, List.forall_mem_cons.mpr ⟨lw_p94, List.forall_mem_cons.mpr ⟨lw_p95, fun _ h => absurd h List.not_mem_nil⟩⟩⟩⟩⟩⟩⟩⟩⟩⟩⟩⟩⟩⟩⟩⟩
set_option maxRecDepth 20000 in
theorem lw_p96 : lw_okq (⟨"KingHearsModel", "askFor", "(I)Z"⟩, 48) := ⟨cq_5, tq_5 _ (List.mem_of_getElem? (i := 151) rfl), tq_7 _ (List.mem_of_getElem? (i := 103) rfl), tq_7 _ (List.mem_of_getElem? (i := 104) rfl)⟩
set_option maxRecDepth 20000 in
theorem lw_p97 : lw_okq (⟨"KingHearsModel", "isSoMuch", "(II)Z"⟩, 48) := ⟨cq_5, tq_5 _ (List.mem_of_getElem? (i := 151) rfl), tq_7 _ (List.mem_of_getElem? (i := 107) rfl), tq_7 _ (List.mem_of_getElem? (i := 108) rfl)⟩
set_option maxRecDepth 20000 in
theorem lw_p98 : lw_okq (⟨"KingHearsModel", "halve", "()I"⟩, 48) := ⟨cq_5, tq_5 _ (List.mem_of_getElem? (i := 151) rfl), tq_7 _ (List.mem_of_getElem? (i := 119) rfl), tq_7 _ (List.mem_of_getElem? (i := 120) rfl)⟩
set_option maxRecDepth 20000 in
theorem lw_p99 : lw_okq (⟨"KingHearsModel", "fewestFor", "(II)I"⟩, 48) := ⟨cq_5, tq_5 _ (List.mem_of_getElem? (i := 151) rfl), tq_7 _ (List.mem_of_getElem? (i := 131) rfl), tq_7 _ (List.mem_of_getElem? (i := 132) rfl)⟩
set_option maxRecDepth 20000 in
theorem lw_p100 : lw_okq (⟨"KingHearsModel", "doesProve", "(III)Z"⟩, 48) := ⟨cq_5, tq_5 _ (List.mem_of_getElem? (i := 151) rfl), tq_7 _ (List.mem_of_getElem? (i := 141) rfl), tq_7 _ (List.mem_of_getElem? (i := 142) rfl)⟩
set_option maxRecDepth 20000 in
theorem lw_p101 : lw_okq (⟨"KingHearsModel", "throneIf", "(II)I"⟩, 48) := ⟨cq_5, tq_5 _ (List.mem_of_getElem? (i := 151) rfl), tq_7 _ (List.mem_of_getElem? (i := 145) rfl), tq_7 _ (List.mem_of_getElem? (i := 146) rfl)⟩
set_option maxRecDepth 20000 in
theorem lw_p102 : lw_okq (⟨"KingHearsModel", "throneBy", "([I)I"⟩, 48) := ⟨cq_5, tq_5 _ (List.mem_of_getElem? (i := 151) rfl), tq_7 _ (List.mem_of_getElem? (i := 149) rfl), tq_7 _ (List.mem_of_getElem? (i := 150) rfl)⟩
set_option maxRecDepth 20000 in
theorem lw_p103 : lw_okq (⟨"KingHearsModel", "firstOf", "(I)I"⟩, 48) := ⟨cq_5, tq_5 _ (List.mem_of_getElem? (i := 151) rfl), tq_7 _ (List.mem_of_getElem? (i := 165) rfl), tq_7 _ (List.mem_of_getElem? (i := 166) rfl)⟩
set_option maxRecDepth 20000 in
theorem lw_p104 : lw_okq (⟨"KingHearsModel", "frontOf", "([III)V"⟩, 48) := ⟨cq_5, tq_5 _ (List.mem_of_getElem? (i := 151) rfl), tq_7 _ (List.mem_of_getElem? (i := 169) rfl), tq_7 _ (List.mem_of_getElem? (i := 170) rfl)⟩
set_option maxRecDepth 20000 in
theorem lw_p105 : lw_okq (⟨"KingHearsModel", "seekOrders", "(I)V"⟩, 48) := ⟨cq_5, tq_5 _ (List.mem_of_getElem? (i := 151) rfl), tq_7 _ (List.mem_of_getElem? (i := 181) rfl), tq_7 _ (List.mem_of_getElem? (i := 182) rfl)⟩
set_option maxRecDepth 20000 in
theorem lw_p106 : lw_okq (⟨"KingHearsModel", "tryOrders", "(III)V"⟩, 48) := ⟨cq_5, tq_5 _ (List.mem_of_getElem? (i := 151) rfl), tq_7 _ (List.mem_of_getElem? (i := 185) rfl), tq_7 _ (List.mem_of_getElem? (i := 186) rfl)⟩
set_option maxRecDepth 20000 in
theorem lw_p107 : lw_okq (⟨"KingHearsModel", "throneAt", "(I)I"⟩, 48) := ⟨cq_5, tq_5 _ (List.mem_of_getElem? (i := 151) rfl), tq_7 _ (List.mem_of_getElem? (i := 197) rfl), tq_7 _ (List.mem_of_getElem? (i := 198) rfl)⟩
set_option maxRecDepth 20000 in
theorem lw_p108 : lw_okq (⟨"KingHearsModel", "isWordNode", "(I)Z"⟩, 48) := ⟨cq_5, tq_5 _ (List.mem_of_getElem? (i := 151) rfl), tq_7 _ (List.mem_of_getElem? (i := 209) rfl), tq_7 _ (List.mem_of_getElem? (i := 210) rfl)⟩
set_option maxRecDepth 20000 in
theorem lw_p109 : lw_okq (⟨"KingHearsModel", "turnOf", "(I)I"⟩, 48) := ⟨cq_5, tq_5 _ (List.mem_of_getElem? (i := 151) rfl), tq_7 _ (List.mem_of_getElem? (i := 213) rfl), tq_7 _ (List.mem_of_getElem? (i := 214) rfl)⟩
set_option maxRecDepth 20000 in
theorem lw_p110 : lw_okq (⟨"KingHearsModel", "seekSets", "(I)I"⟩, 48) := ⟨cq_5, tq_5 _ (List.mem_of_getElem? (i := 151) rfl), tq_7 _ (List.mem_of_getElem? (i := 225) rfl), tq_7 _ (List.mem_of_getElem? (i := 226) rfl)⟩
set_option maxRecDepth 20000 in
theorem lw_p111 : lw_okq (⟨"KingHearsModel", "doesFit", "(I)Z"⟩, 48) := ⟨cq_5, tq_5 _ (List.mem_of_getElem? (i := 151) rfl), tq_7 _ (List.mem_of_getElem? (i := 229) rfl), tq_7 _ (List.mem_of_getElem? (i := 230) rfl)⟩
def lw_privs_7 : List (MethodName × Nat) := [(⟨"KingHearsModel", "askFor", "(I)Z"⟩, 48), (⟨"KingHearsModel", "isSoMuch", "(II)Z"⟩, 48), (⟨"KingHearsModel", "halve", "()I"⟩, 48), (⟨"KingHearsModel", "fewestFor", "(II)I"⟩, 48), (⟨"KingHearsModel", "doesProve", "(III)Z"⟩, 48), (⟨"KingHearsModel", "throneIf", "(II)I"⟩, 48), (⟨"KingHearsModel", "throneBy", "([I)I"⟩, 48), (⟨"KingHearsModel", "firstOf", "(I)I"⟩, 48), (⟨"KingHearsModel", "frontOf", "([III)V"⟩, 48), (⟨"KingHearsModel", "seekOrders", "(I)V"⟩, 48), (⟨"KingHearsModel", "tryOrders", "(III)V"⟩, 48), (⟨"KingHearsModel", "throneAt", "(I)I"⟩, 48), (⟨"KingHearsModel", "isWordNode", "(I)Z"⟩, 48), (⟨"KingHearsModel", "turnOf", "(I)I"⟩, 48), (⟨"KingHearsModel", "seekSets", "(I)I"⟩, 48), (⟨"KingHearsModel", "doesFit", "(I)Z"⟩, 48)]
theorem lw_r7 : ∀ q ∈ lw_privs_7, lw_okq q := List.forall_mem_cons.mpr ⟨lw_p96, List.forall_mem_cons.mpr ⟨lw_p97, List.forall_mem_cons.mpr ⟨lw_p98, List.forall_mem_cons.mpr ⟨lw_p99, List.forall_mem_cons.mpr ⟨lw_p100, List.forall_mem_cons.mpr ⟨lw_p101, List.forall_mem_cons.mpr ⟨lw_p102, List.forall_mem_cons.mpr ⟨lw_p103, List.forall_mem_cons.mpr ⟨lw_p104, List.forall_mem_cons.mpr ⟨lw_p105, List.forall_mem_cons.mpr ⟨lw_p106, List.forall_mem_cons.mpr ⟨lw_p107, List.forall_mem_cons.mpr ⟨lw_p108, List.forall_mem_cons.mpr ⟨lw_p109, List.forall_mem_cons.mpr ⟨lw_p110, List.forall_mem_cons.mpr ⟨lw_p111, fun _ h => absurd h List.not_mem_nil⟩⟩⟩⟩⟩⟩⟩⟩⟩⟩⟩⟩⟩⟩⟩⟩
set_option maxRecDepth 20000 in
theorem lw_p112 : lw_okq (⟨"KingHearsModel", "slipBy", "([II)V"⟩, 48) := ⟨cq_5, tq_5 _ (List.mem_of_getElem? (i := 151) rfl), tq_7 _ (List.mem_of_getElem? (i := 233) rfl), tq_7 _ (List.mem_of_getElem? (i := 234) rfl)⟩
set_option maxRecDepth 20000 in
theorem lw_p113 : lw_okq (⟨"KingHearsModel", "askedFirst", "()I"⟩, 48) := ⟨cq_5, tq_5 _ (List.mem_of_getElem? (i := 151) rfl), tq_8 _ (List.mem_of_getElem? (i := 13) rfl), tq_8 _ (List.mem_of_getElem? (i := 14) rfl)⟩
set_option maxRecDepth 20000 in
theorem lw_p114 : lw_okq (⟨"KingHearsModel", "leavesOf", "(I)I"⟩, 48) := ⟨cq_5, tq_5 _ (List.mem_of_getElem? (i := 151) rfl), tq_8 _ (List.mem_of_getElem? (i := 17) rfl), tq_8 _ (List.mem_of_getElem? (i := 18) rfl)⟩
set_option maxRecDepth 20000 in
theorem lw_p115 : lw_okq (⟨"KingHearsModel", "trySlips", "(I)V"⟩, 48) := ⟨cq_5, tq_5 _ (List.mem_of_getElem? (i := 151) rfl), tq_8 _ (List.mem_of_getElem? (i := 29) rfl), tq_8 _ (List.mem_of_getElem? (i := 30) rfl)⟩
set_option maxRecDepth 20000 in
theorem lw_p116 : lw_okq (⟨"KingHearsModel", "seekRests", "(I)I"⟩, 48) := ⟨cq_5, tq_5 _ (List.mem_of_getElem? (i := 151) rfl), tq_8 _ (List.mem_of_getElem? (i := 48) rfl), tq_8 _ (List.mem_of_getElem? (i := 49) rfl)⟩
set_option maxRecDepth 20000 in
theorem lw_p117 : lw_okq (⟨"KingHearsModel", "drawOrders", "(II)I"⟩, 48) := ⟨cq_5, tq_5 _ (List.mem_of_getElem? (i := 151) rfl), tq_8 _ (List.mem_of_getElem? (i := 61) rfl), tq_8 _ (List.mem_of_getElem? (i := 62) rfl)⟩
set_option maxRecDepth 20000 in
theorem lw_p118 : lw_okq (⟨"KingHearsModel", "isNot", "(I)Z"⟩, 48) := ⟨cq_5, tq_5 _ (List.mem_of_getElem? (i := 151) rfl), tq_8 _ (List.mem_of_getElem? (i := 74) rfl), tq_8 _ (List.mem_of_getElem? (i := 75) rfl)⟩
set_option maxRecDepth 20000 in
theorem lw_p119 : lw_okq (⟨"KingHearsModel", "note", "()V"⟩, 48) := ⟨cq_5, tq_5 _ (List.mem_of_getElem? (i := 151) rfl), tq_8 _ (List.mem_of_getElem? (i := 78) rfl), tq_8 _ (List.mem_of_getElem? (i := 79) rfl)⟩
def lw_privs_8 : List (MethodName × Nat) := [(⟨"KingHearsModel", "slipBy", "([II)V"⟩, 48), (⟨"KingHearsModel", "askedFirst", "()I"⟩, 48), (⟨"KingHearsModel", "leavesOf", "(I)I"⟩, 48), (⟨"KingHearsModel", "trySlips", "(I)V"⟩, 48), (⟨"KingHearsModel", "seekRests", "(I)I"⟩, 48), (⟨"KingHearsModel", "drawOrders", "(II)I"⟩, 48), (⟨"KingHearsModel", "isNot", "(I)Z"⟩, 48), (⟨"KingHearsModel", "note", "()V"⟩, 48)]
theorem lw_r8 : ∀ q ∈ lw_privs_8, lw_okq q := List.forall_mem_cons.mpr ⟨lw_p112, List.forall_mem_cons.mpr ⟨lw_p113, List.forall_mem_cons.mpr ⟨lw_p114, List.forall_mem_cons.mpr ⟨lw_p115, List.forall_mem_cons.mpr ⟨lw_p116, List.forall_mem_cons.mpr ⟨lw_p117, List.forall_mem_cons.mpr ⟨lw_p118, List.forall_mem_cons.mpr ⟨lw_p119, fun _ h => absurd h List.not_mem_nil⟩⟩⟩⟩⟩⟩⟩⟩
def lw_privs : List (MethodName × Nat) := lw_privs_1 ++ (lw_privs_2 ++ (lw_privs_3 ++ (lw_privs_4 ++ (lw_privs_5 ++ (lw_privs_6 ++ (lw_privs_7 ++ (lw_privs_8)))))))
def lw_tbl : List Cond := k2_sels lw_privs ++ tables_1
theorem lw_privs_ok : ∀ q ∈ lw_privs, lw_okq q := by
  show ∀ q ∈ lw_privs_1 ++ (lw_privs_2 ++ (lw_privs_3 ++ (lw_privs_4 ++ (lw_privs_5 ++ (lw_privs_6 ++ (lw_privs_7 ++ (lw_privs_8))))))), lw_okq q
  exact List.forall_mem_append.mpr ⟨lw_r1, List.forall_mem_append.mpr ⟨lw_r2, List.forall_mem_append.mpr ⟨lw_r3, List.forall_mem_append.mpr ⟨lw_r4, List.forall_mem_append.mpr ⟨lw_r5, List.forall_mem_append.mpr ⟨lw_r6, List.forall_mem_append.mpr ⟨lw_r7, lw_r8⟩⟩⟩⟩⟩⟩⟩

