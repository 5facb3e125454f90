theorem tb_1 {w : Cond} (h : w ∈ tables_1_1) : w ∈ tables_1 := List.mem_append_left _ h
theorem tb_2 {w : Cond} (h : w ∈ tables_1_2) : w ∈ tables_1 := List.mem_append_right _ (List.mem_append_left _ h)
theorem tb_3 {w : Cond} (h : w ∈ tables_1_3) : w ∈ tables_1 := List.mem_append_right _ (List.mem_append_right _ (List.mem_append_left _ h))
theorem tb_4 {w : Cond} (h : w ∈ tables_1_4) : w ∈ tables_1 := List.mem_append_right _ (List.mem_append_right _ (List.mem_append_right _ (List.mem_append_left _ h)))
theorem tb_5 {w : Cond} (h : w ∈ tables_1_5) : w ∈ tables_1 := List.mem_append_right _ (List.mem_append_right _ (List.mem_append_right _ (List.mem_append_right _ (List.mem_append_left _ h))))
theorem tb_6 {w : Cond} (h : w ∈ tables_1_6) : w ∈ tables_1 := List.mem_append_right _ (List.mem_append_right _ (List.mem_append_right _ (List.mem_append_right _ (List.mem_append_right _ (List.mem_append_left _ h)))))
theorem tb_7 {w : Cond} (h : w ∈ tables_1_7) : w ∈ tables_1 := List.mem_append_right _ (List.mem_append_right _ (List.mem_append_right _ (List.mem_append_right _ (List.mem_append_right _ (List.mem_append_right _ (List.mem_append_left _ h))))))
theorem tb_8 {w : Cond} (h : w ∈ tables_1_8) : w ∈ tables_1 := List.mem_append_right _ (List.mem_append_right _ (List.mem_append_right _ (List.mem_append_right _ (List.mem_append_right _ (List.mem_append_right _ (List.mem_append_right _ (List.mem_append_left _ h)))))))
theorem tb_9 {w : Cond} (h : w ∈ tables_1_9) : w ∈ tables_1 := List.mem_append_right _ (List.mem_append_right _ (List.mem_append_right _ (List.mem_append_right _ (List.mem_append_right _ (List.mem_append_right _ (List.mem_append_right _ (List.mem_append_right _ (h))))))))
-- ===== PART A: goes FIRST, ahead of the names: the tables' words, and 'selects' of the private methods out of them =====
/-- a private method of a class that the tables say can be made, by its rows of tables_1 -/
def lw_okq (q : MethodName × Nat) : Prop := (q.1.cls ≠ "java/lang/invoke/MethodHandle" ∧ q.1.cls ≠ "java/lang/invoke/VarHandle") ∧ Cond.instantiable q.1.cls q.2 ∈ tables_1 ∧ Cond.privateMethod q.1 ∈ tables_1 ∧ Cond.instanceMethod q.1 ∈ tables_1
set_option maxRecDepth 20000 in
theorem lw_p0 : lw_okq (⟨"MownMaze", "refuse", "(I)I"⟩, 15) := ⟨⟨by decide +kernel, by decide +kernel⟩, tb_1 (List.mem_of_getElem? (i := 26) rfl), tb_2 (List.mem_of_getElem? (i := 176) rfl), tb_2 (List.mem_of_getElem? (i := 177) rfl)⟩
set_option maxRecDepth 20000 in
theorem lw_p1 : lw_okq (⟨"MownMaze$Ground", "layBeside", "(IIIII)V"⟩, 7) := ⟨⟨by decide +kernel, by decide +kernel⟩, tb_1 (List.mem_of_getElem? (i := 150) rfl), tb_2 (List.mem_of_getElem? (i := 199) rfl), tb_2 (List.mem_of_getElem? (i := 200) rfl)⟩
set_option maxRecDepth 20000 in
theorem lw_p2 : lw_okq (⟨"MownMaze$Tokens", "mostBytes", "()I"⟩, 7) := ⟨⟨by decide +kernel, by decide +kernel⟩, tb_1 (List.mem_of_getElem? (i := 50) rfl), tb_2 (List.mem_of_getElem? (i := 230) rfl), tb_2 (List.mem_of_getElem? (i := 231) rfl)⟩
set_option maxRecDepth 20000 in
theorem lw_p3 : lw_okq (⟨"MownMaze$Reader", "readLine", "(LMownMaze$Plan;)Z"⟩, 6) := ⟨⟨by decide +kernel, by decide +kernel⟩, tb_1 (List.mem_of_getElem? (i := 48) rfl), tb_2 (List.mem_of_getElem? (i := 234) rfl), tb_2 (List.mem_of_getElem? (i := 235) rfl)⟩
set_option maxRecDepth 20000 in
theorem lw_p4 : lw_okq (⟨"MownMaze$Reader", "fail", "(I)Z"⟩, 6) := ⟨⟨by decide +kernel, by decide +kernel⟩, tb_1 (List.mem_of_getElem? (i := 48) rfl), tb_3 (List.mem_of_getElem? (i := 54) rfl), tb_3 (List.mem_of_getElem? (i := 55) rfl)⟩
set_option maxRecDepth 20000 in
theorem lw_p5 : lw_okq (⟨"MownMaze$Reader", "failAt", "(II)Z"⟩, 6) := ⟨⟨by decide +kernel, by decide +kernel⟩, tb_1 (List.mem_of_getElem? (i := 48) rfl), tb_3 (List.mem_of_getElem? (i := 62) rfl), tb_3 (List.mem_of_getElem? (i := 63) rfl)⟩
set_option maxRecDepth 20000 in
theorem lw_p6 : lw_okq (⟨"MownMaze$Reader", "readSizes", "(LMownMaze$Plan;)Z"⟩, 6) := ⟨⟨by decide +kernel, by decide +kernel⟩, tb_1 (List.mem_of_getElem? (i := 48) rfl), tb_3 (List.mem_of_getElem? (i := 70) rfl), tb_3 (List.mem_of_getElem? (i := 71) rfl)⟩
set_option maxRecDepth 20000 in
theorem lw_p7 : lw_okq (⟨"MownMaze$Reader", "takeNamed", "(Ljava/lang/String;II)Z"⟩, 6) := ⟨⟨by decide +kernel, by decide +kernel⟩, tb_1 (List.mem_of_getElem? (i := 48) rfl), tb_3 (List.mem_of_getElem? (i := 76) rfl), tb_3 (List.mem_of_getElem? (i := 77) rfl)⟩
set_option maxRecDepth 20000 in
theorem lw_p8 : lw_okq (⟨"MownMaze$Reader", "takeWord", "(Ljava/lang/String;)Z"⟩, 6) := ⟨⟨by decide +kernel, by decide +kernel⟩, tb_1 (List.mem_of_getElem? (i := 48) rfl), tb_3 (List.mem_of_getElem? (i := 80) rfl), tb_3 (List.mem_of_getElem? (i := 81) rfl)⟩
set_option maxRecDepth 20000 in
theorem lw_p9 : lw_okq (⟨"MownMaze$Reader", "takeWhole", "(II)Z"⟩, 6) := ⟨⟨by decide +kernel, by decide +kernel⟩, tb_1 (List.mem_of_getElem? (i := 48) rfl), tb_3 (List.mem_of_getElem? (i := 92) rfl), tb_3 (List.mem_of_getElem? (i := 93) rfl)⟩
set_option maxRecDepth 20000 in
theorem lw_p10 : lw_okq (⟨"MownMaze$Reader", "readRow", "(LMownMaze$Plan;LMownMaze$Picture;Z)Z"⟩, 6) := ⟨⟨by decide +kernel, by decide +kernel⟩, tb_1 (List.mem_of_getElem? (i := 48) rfl), tb_3 (List.mem_of_getElem? (i := 120) rfl), tb_3 (List.mem_of_getElem? (i := 121) rfl)⟩
set_option maxRecDepth 20000 in
theorem lw_p11 : lw_okq (⟨"MownMaze$Reader", "readGate", "(LMownMaze$Plan;)Z"⟩, 6) := ⟨⟨by decide +kernel, by decide +kernel⟩, tb_1 (List.mem_of_getElem? (i := 48) rfl), tb_3 (List.mem_of_getElem? (i := 135) rfl), tb_3 (List.mem_of_getElem? (i := 136) rfl)⟩
set_option maxRecDepth 20000 in
theorem lw_p12 : lw_okq (⟨"MownMaze$Reader", "takeCell", "(LMownMaze$Ground;)Z"⟩, 6) := ⟨⟨by decide +kernel, by decide +kernel⟩, tb_1 (List.mem_of_getElem? (i := 48) rfl), tb_3 (List.mem_of_getElem? (i := 139) rfl), tb_3 (List.mem_of_getElem? (i := 140) rfl)⟩
set_option maxRecDepth 20000 in
theorem lw_p13 : lw_okq (⟨"MownMaze$Reader", "takeSign", "(C)Z"⟩, 6) := ⟨⟨by decide +kernel, by decide +kernel⟩, tb_1 (List.mem_of_getElem? (i := 48) rfl), tb_3 (List.mem_of_getElem? (i := 143) rfl), tb_3 (List.mem_of_getElem? (i := 144) rfl)⟩
set_option maxRecDepth 20000 in
theorem lw_p14 : lw_okq (⟨"MownMaze$Reader", "readNoise", "(LMownMaze$Plan;)Z"⟩, 6) := ⟨⟨by decide +kernel, by decide +kernel⟩, tb_1 (List.mem_of_getElem? (i := 48) rfl), tb_3 (List.mem_of_getElem? (i := 159) rfl), tb_3 (List.mem_of_getElem? (i := 160) rfl)⟩
set_option maxRecDepth 20000 in
theorem lw_p15 : lw_okq (⟨"MownMaze$Reader", "readHeard", "(LMownMaze$Plan;)Z"⟩, 6) := ⟨⟨by decide +kernel, by decide +kernel⟩, tb_1 (List.mem_of_getElem? (i := 48) rfl), tb_3 (List.mem_of_getElem? (i := 163) rfl), tb_3 (List.mem_of_getElem? (i := 164) rfl)⟩
def lw_privs_1 : List (MethodName × Nat) := [(⟨"MownMaze", "refuse", "(I)I"⟩, 15), (⟨"MownMaze$Ground", "layBeside", "(IIIII)V"⟩, 7), (⟨"MownMaze$Tokens", "mostBytes", "()I"⟩, 7), (⟨"MownMaze$Reader", "readLine", "(LMownMaze$Plan;)Z"⟩, 6), (⟨"MownMaze$Reader", "fail", "(I)Z"⟩, 6), (⟨"MownMaze$Reader", "failAt", "(II)Z"⟩, 6), (⟨"MownMaze$Reader", "readSizes", "(LMownMaze$Plan;)Z"⟩, 6), (⟨"MownMaze$Reader", "takeNamed", "(Ljava/lang/String;II)Z"⟩, 6), (⟨"MownMaze$Reader", "takeWord", "(Ljava/lang/String;)Z"⟩, 6), (⟨"MownMaze$Reader", "takeWhole", "(II)Z"⟩, 6), (⟨"MownMaze$Reader", "readRow", "(LMownMaze$Plan;LMownMaze$Picture;Z)Z"⟩, 6), (⟨"MownMaze$Reader", "readGate", "(LMownMaze$Plan;)Z"⟩, 6), (⟨"MownMaze$Reader", "takeCell", "(LMownMaze$Ground;)Z"⟩, 6), (⟨"MownMaze$Reader", "takeSign", "(C)Z"⟩, 6), (⟨"MownMaze$Reader", "readNoise", "(LMownMaze$Plan;)Z"⟩, 6), (⟨"MownMaze$Reader", "readHeard", "(LMownMaze$Plan;)Z"⟩, 6)]
theorem lw_r1 : ∀ q ∈ lw_privs_1, lw_okq q := List.forall_mem_cons.mpr ⟨lw_p0, List.forall_mem_cons.mpr ⟨lw_p1, List.forall_mem_cons.mpr ⟨lw_p2, List.forall_mem_cons.mpr ⟨lw_p3, List.forall_mem_cons.mpr ⟨lw_p4, List.forall_mem_cons.mpr ⟨lw_p5, List.forall_mem_cons.mpr ⟨lw_p6, List.forall_mem_cons.mpr ⟨lw_p7, List.forall_mem_cons.mpr ⟨lw_p8, List.forall_mem_cons.mpr ⟨lw_p9, List.forall_mem_cons.mpr ⟨lw_p10, List.forall_mem_cons.mpr ⟨lw_p11, List.forall_mem_cons.mpr ⟨lw_p12, List.forall_mem_cons.mpr ⟨lw_p13, List.forall_mem_cons.mpr ⟨lw_p14, List.forall_mem_cons.mpr ⟨lw_p15, fun _ h => absurd h List.not_mem_nil⟩⟩⟩⟩⟩⟩⟩⟩⟩⟩⟩⟩⟩⟩⟩⟩
set_option maxRecDepth 20000 in
theorem lw_p16 : lw_okq (⟨"MownMaze$Reader", "readWalker", "(LMownMaze$Plan;)Z"⟩, 6) := ⟨⟨by decide +kernel, by decide +kernel⟩, tb_1 (List.mem_of_getElem? (i := 48) rfl), tb_3 (List.mem_of_getElem? (i := 172) rfl), tb_3 (List.mem_of_getElem? (i := 173) rfl)⟩
set_option maxRecDepth 20000 in
theorem lw_p17 : lw_okq (⟨"MownMaze$Reader", "takeOneOf", "(Ljava/lang/String;)Z"⟩, 6) := ⟨⟨by decide +kernel, by decide +kernel⟩, tb_1 (List.mem_of_getElem? (i := 48) rfl), tb_3 (List.mem_of_getElem? (i := 185) rfl), tb_3 (List.mem_of_getElem? (i := 186) rfl)⟩
set_option maxRecDepth 20000 in
theorem lw_p18 : lw_okq (⟨"MownMaze", "answer", "(I)I"⟩, 15) := ⟨⟨by decide +kernel, by decide +kernel⟩, tb_1 (List.mem_of_getElem? (i := 26) rfl), tb_3 (List.mem_of_getElem? (i := 223) rfl), tb_3 (List.mem_of_getElem? (i := 224) rfl)⟩
set_option maxRecDepth 20000 in
theorem lw_p19 : lw_okq (⟨"MownMaze", "isCell", "(II)Z"⟩, 15) := ⟨⟨by decide +kernel, by decide +kernel⟩, tb_1 (List.mem_of_getElem? (i := 26) rfl), tb_3 (List.mem_of_getElem? (i := 239) rfl), tb_4 (List.mem_of_getElem? (i := 0) rfl)⟩
set_option maxRecDepth 20000 in
theorem lw_p20 : lw_okq (⟨"MownMaze", "isMown", "(II)Z"⟩, 15) := ⟨⟨by decide +kernel, by decide +kernel⟩, tb_1 (List.mem_of_getElem? (i := 26) rfl), tb_4 (List.mem_of_getElem? (i := 4) rfl), tb_4 (List.mem_of_getElem? (i := 5) rfl)⟩
set_option maxRecDepth 20000 in
theorem lw_p21 : lw_okq (⟨"MownMaze", "isNumber", "(I)Z"⟩, 15) := ⟨⟨by decide +kernel, by decide +kernel⟩, tb_1 (List.mem_of_getElem? (i := 26) rfl), tb_4 (List.mem_of_getElem? (i := 59) rfl), tb_4 (List.mem_of_getElem? (i := 60) rfl)⟩
set_option maxRecDepth 20000 in
theorem lw_p22 : lw_okq (⟨"MownMaze$Ground", "farthest", "(JI)I"⟩, 7) := ⟨⟨by decide +kernel, by decide +kernel⟩, tb_1 (List.mem_of_getElem? (i := 150) rfl), tb_4 (List.mem_of_getElem? (i := 75) rfl), tb_4 (List.mem_of_getElem? (i := 76) rfl)⟩
set_option maxRecDepth 20000 in
theorem lw_p23 : lw_okq (⟨"MownMaze", "isWalker", "(I)Z"⟩, 15) := ⟨⟨by decide +kernel, by decide +kernel⟩, tb_1 (List.mem_of_getElem? (i := 26) rfl), tb_4 (List.mem_of_getElem? (i := 94) rfl), tb_4 (List.mem_of_getElem? (i := 95) rfl)⟩
set_option maxRecDepth 20000 in
theorem lw_p24 : lw_okq (⟨"MownMaze", "isMinute", "(I)Z"⟩, 15) := ⟨⟨by decide +kernel, by decide +kernel⟩, tb_1 (List.mem_of_getElem? (i := 26) rfl), tb_4 (List.mem_of_getElem? (i := 98) rfl), tb_4 (List.mem_of_getElem? (i := 99) rfl)⟩
set_option maxRecDepth 20000 in
theorem lw_p25 : lw_okq (⟨"MownMaze$Walk", "enter", "(II)V"⟩, 12) := ⟨⟨by decide +kernel, by decide +kernel⟩, tb_2 (List.mem_of_getElem? (i := 63) rfl), tb_4 (List.mem_of_getElem? (i := 111) rfl), tb_4 (List.mem_of_getElem? (i := 112) rfl)⟩
set_option maxRecDepth 20000 in
theorem lw_p26 : lw_okq (⟨"MownMaze$Walk", "step", "()V"⟩, 12) := ⟨⟨by decide +kernel, by decide +kernel⟩, tb_2 (List.mem_of_getElem? (i := 63) rfl), tb_4 (List.mem_of_getElem? (i := 122) rfl), tb_4 (List.mem_of_getElem? (i := 123) rfl)⟩
set_option maxRecDepth 20000 in
theorem lw_p27 : lw_okq (⟨"MownMaze$Walk", "stepTurning", "(II)V"⟩, 12) := ⟨⟨by decide +kernel, by decide +kernel⟩, tb_2 (List.mem_of_getElem? (i := 63) rfl), tb_4 (List.mem_of_getElem? (i := 126) rfl), tb_4 (List.mem_of_getElem? (i := 127) rfl)⟩
set_option maxRecDepth 20000 in
theorem lw_p28 : lw_okq (⟨"MownMaze$Walk", "mownTo", "(I)I"⟩, 12) := ⟨⟨by decide +kernel, by decide +kernel⟩, tb_2 (List.mem_of_getElem? (i := 63) rfl), tb_4 (List.mem_of_getElem? (i := 130) rfl), tb_4 (List.mem_of_getElem? (i := 131) rfl)⟩
set_option maxRecDepth 20000 in
theorem lw_p29 : lw_okq (⟨"MownMaze$Walk", "stepOnce", "()V"⟩, 12) := ⟨⟨by decide +kernel, by decide +kernel⟩, tb_2 (List.mem_of_getElem? (i := 63) rfl), tb_4 (List.mem_of_getElem? (i := 138) rfl), tb_4 (List.mem_of_getElem? (i := 139) rfl)⟩
set_option maxRecDepth 20000 in
theorem lw_p30 : lw_okq (⟨"MownMaze$Walk", "stepToNoise", "()V"⟩, 12) := ⟨⟨by decide +kernel, by decide +kernel⟩, tb_2 (List.mem_of_getElem? (i := 63) rfl), tb_4 (List.mem_of_getElem? (i := 142) rfl), tb_4 (List.mem_of_getElem? (i := 143) rfl)⟩
set_option maxRecDepth 20000 in
theorem lw_p31 : lw_okq (⟨"MownMaze$Walk", "stepByLot", "()V"⟩, 12) := ⟨⟨by decide +kernel, by decide +kernel⟩, tb_2 (List.mem_of_getElem? (i := 63) rfl), tb_4 (List.mem_of_getElem? (i := 146) rfl), tb_4 (List.mem_of_getElem? (i := 147) rfl)⟩
def lw_privs_2 : List (MethodName × Nat) := [(⟨"MownMaze$Reader", "readWalker", "(LMownMaze$Plan;)Z"⟩, 6), (⟨"MownMaze$Reader", "takeOneOf", "(Ljava/lang/String;)Z"⟩, 6), (⟨"MownMaze", "answer", "(I)I"⟩, 15), (⟨"MownMaze", "isCell", "(II)Z"⟩, 15), (⟨"MownMaze", "isMown", "(II)Z"⟩, 15), (⟨"MownMaze", "isNumber", "(I)Z"⟩, 15), (⟨"MownMaze$Ground", "farthest", "(JI)I"⟩, 7), (⟨"MownMaze", "isWalker", "(I)Z"⟩, 15), (⟨"MownMaze", "isMinute", "(I)Z"⟩, 15), (⟨"MownMaze$Walk", "enter", "(II)V"⟩, 12), (⟨"MownMaze$Walk", "step", "()V"⟩, 12), (⟨"MownMaze$Walk", "stepTurning", "(II)V"⟩, 12), (⟨"MownMaze$Walk", "mownTo", "(I)I"⟩, 12), (⟨"MownMaze$Walk", "stepOnce", "()V"⟩, 12), (⟨"MownMaze$Walk", "stepToNoise", "()V"⟩, 12), (⟨"MownMaze$Walk", "stepByLot", "()V"⟩, 12)]
theorem lw_r2 : ∀ q ∈ lw_privs_2, lw_okq q := List.forall_mem_cons.mpr ⟨lw_p16, List.forall_mem_cons.mpr ⟨lw_p17, List.forall_mem_cons.mpr ⟨lw_p18, List.forall_mem_cons.mpr ⟨lw_p19, List.forall_mem_cons.mpr ⟨lw_p20, List.forall_mem_cons.mpr ⟨lw_p21, List.forall_mem_cons.mpr ⟨lw_p22, List.forall_mem_cons.mpr ⟨lw_p23, List.forall_mem_cons.mpr ⟨lw_p24, List.forall_mem_cons.mpr ⟨lw_p25, List.forall_mem_cons.mpr ⟨lw_p26, List.forall_mem_cons.mpr ⟨lw_p27, List.forall_mem_cons.mpr ⟨lw_p28, List.forall_mem_cons.mpr ⟨lw_p29, List.forall_mem_cons.mpr ⟨lw_p30, List.forall_mem_cons.mpr ⟨lw_p31, fun _ h => absurd h List.not_mem_nil⟩⟩⟩⟩⟩⟩⟩⟩⟩⟩⟩⟩⟩⟩⟩⟩
set_option maxRecDepth 20000 in
theorem lw_p32 : lw_okq (⟨"MownMaze$Walk", "isAtGate", "()Z"⟩, 12) := ⟨⟨by decide +kernel, by decide +kernel⟩, tb_2 (List.mem_of_getElem? (i := 63) rfl), tb_4 (List.mem_of_getElem? (i := 155) rfl), tb_4 (List.mem_of_getElem? (i := 156) rfl)⟩
set_option maxRecDepth 20000 in
theorem lw_p33 : lw_okq (⟨"MownMaze", "goesByLot", "(I)Z"⟩, 15) := ⟨⟨by decide +kernel, by decide +kernel⟩, tb_1 (List.mem_of_getElem? (i := 26) rfl), tb_4 (List.mem_of_getElem? (i := 175) rfl), tb_4 (List.mem_of_getElem? (i := 176) rfl)⟩
set_option maxRecDepth 20000 in
theorem lw_p34 : lw_okq (⟨"MownMaze", "unlikeCells", "(Z)J"⟩, 15) := ⟨⟨by decide +kernel, by decide +kernel⟩, tb_1 (List.mem_of_getElem? (i := 26) rfl), tb_4 (List.mem_of_getElem? (i := 236) rfl), tb_4 (List.mem_of_getElem? (i := 237) rfl)⟩
set_option maxRecDepth 20000 in
theorem lw_p35 : lw_okq (⟨"MownMaze", "clashingCells", "()J"⟩, 15) := ⟨⟨by decide +kernel, by decide +kernel⟩, tb_1 (List.mem_of_getElem? (i := 26) rfl), tb_5 (List.mem_of_getElem? (i := 16) rfl), tb_5 (List.mem_of_getElem? (i := 17) rfl)⟩
set_option maxRecDepth 20000 in
theorem lw_p36 : lw_okq (⟨"MownMaze", "cellsToMow", "()J"⟩, 15) := ⟨⟨by decide +kernel, by decide +kernel⟩, tb_1 (List.mem_of_getElem? (i := 26) rfl), tb_5 (List.mem_of_getElem? (i := 29) rfl), tb_5 (List.mem_of_getElem? (i := 30) rfl)⟩
set_option maxRecDepth 20000 in
theorem lw_p37 : lw_okq (⟨"MownMaze$Scythe", "findBesides", "(LMownMaze$Ground;JI)V"⟩, 3) := ⟨⟨by decide +kernel, by decide +kernel⟩, tb_1 (List.mem_of_getElem? (i := 128) rfl), tb_5 (List.mem_of_getElem? (i := 43) rfl), tb_5 (List.mem_of_getElem? (i := 44) rfl)⟩
set_option maxRecDepth 20000 in
theorem lw_p38 : lw_okq (⟨"MownMaze$Scythe", "mowOneMore", "(II)V"⟩, 3) := ⟨⟨by decide +kernel, by decide +kernel⟩, tb_1 (List.mem_of_getElem? (i := 128) rfl), tb_5 (List.mem_of_getElem? (i := 51) rfl), tb_5 (List.mem_of_getElem? (i := 52) rfl)⟩
set_option maxRecDepth 20000 in
theorem lw_p39 : lw_okq (⟨"MownMaze", "weekLater", "(J)J"⟩, 15) := ⟨⟨by decide +kernel, by decide +kernel⟩, tb_1 (List.mem_of_getElem? (i := 26) rfl), tb_5 (List.mem_of_getElem? (i := 60) rfl), tb_5 (List.mem_of_getElem? (i := 61) rfl)⟩
set_option maxRecDepth 20000 in
theorem lw_p40 : lw_okq (⟨"MownMaze$Ground", "isSeenAlong", "(JIIJ)Z"⟩, 7) := ⟨⟨by decide +kernel, by decide +kernel⟩, tb_1 (List.mem_of_getElem? (i := 150) rfl), tb_5 (List.mem_of_getElem? (i := 85) rfl), tb_5 (List.mem_of_getElem? (i := 86) rfl)⟩
set_option maxRecDepth 20000 in
theorem lw_p41 : lw_okq (⟨"MownMaze", "isGateSeen", "(I)Z"⟩, 15) := ⟨⟨by decide +kernel, by decide +kernel⟩, tb_1 (List.mem_of_getElem? (i := 26) rfl), tb_5 (List.mem_of_getElem? (i := 93) rfl), tb_5 (List.mem_of_getElem? (i := 94) rfl)⟩
set_option maxRecDepth 20000 in
theorem lw_p42 : lw_okq (⟨"MownMaze", "placesByShouts", "()J"⟩, 15) := ⟨⟨by decide +kernel, by decide +kernel⟩, tb_1 (List.mem_of_getElem? (i := 26) rfl), tb_5 (List.mem_of_getElem? (i := 105) rfl), tb_5 (List.mem_of_getElem? (i := 106) rfl)⟩
set_option maxRecDepth 20000 in
theorem lw_p43 : lw_okq (⟨"MownMaze", "bestCell", "()I"⟩, 15) := ⟨⟨by decide +kernel, by decide +kernel⟩, tb_1 (List.mem_of_getElem? (i := 26) rfl), tb_5 (List.mem_of_getElem? (i := 129) rfl), tb_5 (List.mem_of_getElem? (i := 130) rfl)⟩
set_option maxRecDepth 20000 in
theorem lw_p44 : lw_okq (⟨"MownMaze", "paidIfAllGetOut", "(J)I"⟩, 15) := ⟨⟨by decide +kernel, by decide +kernel⟩, tb_1 (List.mem_of_getElem? (i := 26) rfl), tb_5 (List.mem_of_getElem? (i := 133) rfl), tb_5 (List.mem_of_getElem? (i := 134) rfl)⟩
set_option maxRecDepth 20000 in
theorem lw_p45 : lw_okq (⟨"MownMaze", "rejected", "(I)Z"⟩, 15) := ⟨⟨by decide +kernel, by decide +kernel⟩, tb_1 (List.mem_of_getElem? (i := 26) rfl), tb_5 (List.mem_of_getElem? (i := 145) rfl), tb_5 (List.mem_of_getElem? (i := 146) rfl)⟩
set_option maxRecDepth 20000 in
theorem lw_p46 : lw_okq (⟨"MownMaze", "act", "(J)V"⟩, 15) := ⟨⟨by decide +kernel, by decide +kernel⟩, tb_1 (List.mem_of_getElem? (i := 26) rfl), tb_5 (List.mem_of_getElem? (i := 149) rfl), tb_5 (List.mem_of_getElem? (i := 150) rfl)⟩
set_option maxRecDepth 20000 in
theorem lw_p47 : lw_okq (⟨"MownMaze", "accepted", "()Z"⟩, 15) := ⟨⟨by decide +kernel, by decide +kernel⟩, tb_1 (List.mem_of_getElem? (i := 26) rfl), tb_5 (List.mem_of_getElem? (i := 160) rfl), tb_5 (List.mem_of_getElem? (i := 161) rfl)⟩
def lw_privs_3 : List (MethodName × Nat) := [(⟨"MownMaze$Walk", "isAtGate", "()Z"⟩, 12), (⟨"MownMaze", "goesByLot", "(I)Z"⟩, 15), (⟨"MownMaze", "unlikeCells", "(Z)J"⟩, 15), (⟨"MownMaze", "clashingCells", "()J"⟩, 15), (⟨"MownMaze", "cellsToMow", "()J"⟩, 15), (⟨"MownMaze$Scythe", "findBesides", "(LMownMaze$Ground;JI)V"⟩, 3), (⟨"MownMaze$Scythe", "mowOneMore", "(II)V"⟩, 3), (⟨"MownMaze", "weekLater", "(J)J"⟩, 15), (⟨"MownMaze$Ground", "isSeenAlong", "(JIIJ)Z"⟩, 7), (⟨"MownMaze", "isGateSeen", "(I)Z"⟩, 15), (⟨"MownMaze", "placesByShouts", "()J"⟩, 15), (⟨"MownMaze", "bestCell", "()I"⟩, 15), (⟨"MownMaze", "paidIfAllGetOut", "(J)I"⟩, 15), (⟨"MownMaze", "rejected", "(I)Z"⟩, 15), (⟨"MownMaze", "act", "(J)V"⟩, 15), (⟨"MownMaze", "accepted", "()Z"⟩, 15)]
theorem lw_r3 : ∀ q ∈ lw_privs_3, lw_okq q := List.forall_mem_cons.mpr ⟨lw_p32, List.forall_mem_cons.mpr ⟨lw_p33, List.forall_mem_cons.mpr ⟨lw_p34, List.forall_mem_cons.mpr ⟨lw_p35, List.forall_mem_cons.mpr ⟨lw_p36, List.forall_mem_cons.mpr ⟨lw_p37, List.forall_mem_cons.mpr ⟨lw_p38, List.forall_mem_cons.mpr ⟨lw_p39, List.forall_mem_cons.mpr ⟨lw_p40, List.forall_mem_cons.mpr ⟨lw_p41, List.forall_mem_cons.mpr ⟨lw_p42, List.forall_mem_cons.mpr ⟨lw_p43, List.forall_mem_cons.mpr ⟨lw_p44, List.forall_mem_cons.mpr ⟨lw_p45, List.forall_mem_cons.mpr ⟨lw_p46, List.forall_mem_cons.mpr ⟨lw_p47, fun _ h => absurd h List.not_mem_nil⟩⟩⟩⟩⟩⟩⟩⟩⟩⟩⟩⟩⟩⟩⟩⟩
set_option maxRecDepth 20000 in
theorem lw_p48 : lw_okq (⟨"MownMaze", "cellsToThin", "()J"⟩, 15) := ⟨⟨by decide +kernel, by decide +kernel⟩, tb_1 (List.mem_of_getElem? (i := 26) rfl), tb_5 (List.mem_of_getElem? (i := 176) rfl), tb_5 (List.mem_of_getElem? (i := 177) rfl)⟩
set_option maxRecDepth 20000 in
theorem lw_p49 : lw_okq (⟨"java/lang/Throwable", "fillInStackTrace", "(I)Ljava/lang/Throwable;"⟩, 6) := ⟨⟨by decide +kernel, by decide +kernel⟩, tb_6 (List.mem_of_getElem? (i := 53) rfl), tb_6 (List.mem_of_getElem? (i := 51) rfl), tb_6 (List.mem_of_getElem? (i := 52) rfl)⟩
set_option maxRecDepth 20000 in
theorem lw_p50 : lw_okq (⟨"MownMazeModel", "refused", "(I)I"⟩, 43) := ⟨⟨by decide +kernel, by decide +kernel⟩, tb_6 (List.mem_of_getElem? (i := 82) rfl), tb_6 (List.mem_of_getElem? (i := 231) rfl), tb_6 (List.mem_of_getElem? (i := 232) rfl)⟩
set_option maxRecDepth 20000 in
theorem lw_p51 : lw_okq (⟨"MownMazeModel", "goesOn", "()V"⟩, 43) := ⟨⟨by decide +kernel, by decide +kernel⟩, tb_6 (List.mem_of_getElem? (i := 82) rfl), tb_7 (List.mem_of_getElem? (i := 92) rfl), tb_7 (List.mem_of_getElem? (i := 93) rfl)⟩
set_option maxRecDepth 20000 in
theorem lw_p52 : lw_okq (⟨"MownMazeModel", "byteAt", "(I)I"⟩, 43) := ⟨⟨by decide +kernel, by decide +kernel⟩, tb_6 (List.mem_of_getElem? (i := 82) rfl), tb_7 (List.mem_of_getElem? (i := 96) rfl), tb_7 (List.mem_of_getElem? (i := 97) rfl)⟩
set_option maxRecDepth 20000 in
theorem lw_p53 : lw_okq (⟨"MownMazeModel", "readAll", "()V"⟩, 43) := ⟨⟨by decide +kernel, by decide +kernel⟩, tb_6 (List.mem_of_getElem? (i := 82) rfl), tb_7 (List.mem_of_getElem? (i := 107) rfl), tb_7 (List.mem_of_getElem? (i := 108) rfl)⟩
set_option maxRecDepth 20000 in
theorem lw_p54 : lw_okq (⟨"MownMazeModel", "readLine", "()V"⟩, 43) := ⟨⟨by decide +kernel, by decide +kernel⟩, tb_6 (List.mem_of_getElem? (i := 82) rfl), tb_7 (List.mem_of_getElem? (i := 111) rfl), tb_7 (List.mem_of_getElem? (i := 112) rfl)⟩
set_option maxRecDepth 20000 in
theorem lw_p55 : lw_okq (⟨"MownMazeModel", "isWord", "(Ljava/lang/String;)Z"⟩, 43) := ⟨⟨by decide +kernel, by decide +kernel⟩, tb_6 (List.mem_of_getElem? (i := 82) rfl), tb_7 (List.mem_of_getElem? (i := 116) rfl), tb_7 (List.mem_of_getElem? (i := 117) rfl)⟩
set_option maxRecDepth 20000 in
theorem lw_p56 : lw_okq (⟨"MownMazeModel", "readMeadow", "()V"⟩, 43) := ⟨⟨by decide +kernel, by decide +kernel⟩, tb_6 (List.mem_of_getElem? (i := 82) rfl), tb_7 (List.mem_of_getElem? (i := 125) rfl), tb_7 (List.mem_of_getElem? (i := 126) rfl)⟩
set_option maxRecDepth 20000 in
theorem lw_p57 : lw_okq (⟨"MownMazeModel", "flaw", "(I)V"⟩, 43) := ⟨⟨by decide +kernel, by decide +kernel⟩, tb_6 (List.mem_of_getElem? (i := 82) rfl), tb_7 (List.mem_of_getElem? (i := 129) rfl), tb_7 (List.mem_of_getElem? (i := 130) rfl)⟩
set_option maxRecDepth 20000 in
theorem lw_p58 : lw_okq (⟨"MownMazeModel", "readPart", "(Ljava/lang/String;II)I"⟩, 43) := ⟨⟨by decide +kernel, by decide +kernel⟩, tb_6 (List.mem_of_getElem? (i := 82) rfl), tb_7 (List.mem_of_getElem? (i := 134) rfl), tb_7 (List.mem_of_getElem? (i := 135) rfl)⟩
set_option maxRecDepth 20000 in
theorem lw_p59 : lw_okq (⟨"MownMazeModel", "needs", "(Ljava/lang/String;)V"⟩, 43) := ⟨⟨by decide +kernel, by decide +kernel⟩, tb_6 (List.mem_of_getElem? (i := 82) rfl), tb_7 (List.mem_of_getElem? (i := 138) rfl), tb_7 (List.mem_of_getElem? (i := 139) rfl)⟩
set_option maxRecDepth 20000 in
theorem lw_p60 : lw_okq (⟨"MownMazeModel", "readWhole", "(II)I"⟩, 43) := ⟨⟨by decide +kernel, by decide +kernel⟩, tb_6 (List.mem_of_getElem? (i := 82) rfl), tb_7 (List.mem_of_getElem? (i := 142) rfl), tb_7 (List.mem_of_getElem? (i := 143) rfl)⟩
set_option maxRecDepth 20000 in
theorem lw_p61 : lw_okq (⟨"MownMazeModel", "bounded", "(II)I"⟩, 43) := ⟨⟨by decide +kernel, by decide +kernel⟩, tb_6 (List.mem_of_getElem? (i := 82) rfl), tb_7 (List.mem_of_getElem? (i := 146) rfl), tb_7 (List.mem_of_getElem? (i := 147) rfl)⟩
set_option maxRecDepth 20000 in
theorem lw_p62 : lw_okq (⟨"MownMazeModel", "readRow", "()V"⟩, 43) := ⟨⟨by decide +kernel, by decide +kernel⟩, tb_6 (List.mem_of_getElem? (i := 82) rfl), tb_7 (List.mem_of_getElem? (i := 158) rfl), tb_7 (List.mem_of_getElem? (i := 159) rfl)⟩
set_option maxRecDepth 20000 in
theorem lw_p63 : lw_okq (⟨"MownMazeModel", "begins", "(II)V"⟩, 43) := ⟨⟨by decide +kernel, by decide +kernel⟩, tb_6 (List.mem_of_getElem? (i := 82) rfl), tb_7 (List.mem_of_getElem? (i := 162) rfl), tb_7 (List.mem_of_getElem? (i := 163) rfl)⟩
def lw_privs_4 : List (MethodName × Nat) := [(⟨"MownMaze", "cellsToThin", "()J"⟩, 15), (⟨"java/lang/Throwable", "fillInStackTrace", "(I)Ljava/lang/Throwable;"⟩, 6), (⟨"MownMazeModel", "refused", "(I)I"⟩, 43), (⟨"MownMazeModel", "goesOn", "()V"⟩, 43), (⟨"MownMazeModel", "byteAt", "(I)I"⟩, 43), (⟨"MownMazeModel", "readAll", "()V"⟩, 43), (⟨"MownMazeModel", "readLine", "()V"⟩, 43), (⟨"MownMazeModel", "isWord", "(Ljava/lang/String;)Z"⟩, 43), (⟨"MownMazeModel", "readMeadow", "()V"⟩, 43), (⟨"MownMazeModel", "flaw", "(I)V"⟩, 43), (⟨"MownMazeModel", "readPart", "(Ljava/lang/String;II)I"⟩, 43), (⟨"MownMazeModel", "needs", "(Ljava/lang/String;)V"⟩, 43), (⟨"MownMazeModel", "readWhole", "(II)I"⟩, 43), (⟨"MownMazeModel", "bounded", "(II)I"⟩, 43), (⟨"MownMazeModel", "readRow", "()V"⟩, 43), (⟨"MownMazeModel", "begins", "(II)V"⟩, 43)]
theorem lw_r4 : ∀ q ∈ lw_privs_4, lw_okq q := List.forall_mem_cons.mpr ⟨lw_p48, List.forall_mem_cons.mpr ⟨lw_p49, List.forall_mem_cons.mpr ⟨lw_p50, List.forall_mem_cons.mpr ⟨lw_p51, List.forall_mem_cons.mpr ⟨lw_p52, List.forall_mem_cons.mpr ⟨lw_p53, List.forall_mem_cons.mpr ⟨lw_p54, List.forall_mem_cons.mpr ⟨lw_p55, List.forall_mem_cons.mpr ⟨lw_p56, List.forall_mem_cons.mpr ⟨lw_p57, List.forall_mem_cons.mpr ⟨lw_p58, List.forall_mem_cons.mpr ⟨lw_p59, List.forall_mem_cons.mpr ⟨lw_p60, List.forall_mem_cons.mpr ⟨lw_p61, List.forall_mem_cons.mpr ⟨lw_p62, List.forall_mem_cons.mpr ⟨lw_p63, fun _ h => absurd h List.not_mem_nil⟩⟩⟩⟩⟩⟩⟩⟩⟩⟩⟩⟩⟩⟩⟩⟩
set_option maxRecDepth 20000 in
theorem lw_p64 : lw_okq (⟨"MownMazeModel", "readCells", "(IZ)V"⟩, 43) := ⟨⟨by decide +kernel, by decide +kernel⟩, tb_6 (List.mem_of_getElem? (i := 82) rfl), tb_7 (List.mem_of_getElem? (i := 166) rfl), tb_7 (List.mem_of_getElem? (i := 167) rfl)⟩
set_option maxRecDepth 20000 in
theorem lw_p65 : lw_okq (⟨"MownMazeModel", "readWant", "()V"⟩, 43) := ⟨⟨by decide +kernel, by decide +kernel⟩, tb_6 (List.mem_of_getElem? (i := 82) rfl), tb_7 (List.mem_of_getElem? (i := 171) rfl), tb_7 (List.mem_of_getElem? (i := 172) rfl)⟩
set_option maxRecDepth 20000 in
theorem lw_p66 : lw_okq (⟨"MownMazeModel", "readMoon", "()V"⟩, 43) := ⟨⟨by decide +kernel, by decide +kernel⟩, tb_6 (List.mem_of_getElem? (i := 82) rfl), tb_7 (List.mem_of_getElem? (i := 176) rfl), tb_7 (List.mem_of_getElem? (i := 177) rfl)⟩
set_option maxRecDepth 20000 in
theorem lw_p67 : lw_okq (⟨"MownMazeModel", "readGate", "()V"⟩, 43) := ⟨⟨by decide +kernel, by decide +kernel⟩, tb_6 (List.mem_of_getElem? (i := 82) rfl), tb_7 (List.mem_of_getElem? (i := 181) rfl), tb_7 (List.mem_of_getElem? (i := 182) rfl)⟩
set_option maxRecDepth 20000 in
theorem lw_p68 : lw_okq (⟨"MownMazeModel", "needsSign", "(I)V"⟩, 43) := ⟨⟨by decide +kernel, by decide +kernel⟩, tb_6 (List.mem_of_getElem? (i := 82) rfl), tb_7 (List.mem_of_getElem? (i := 185) rfl), tb_7 (List.mem_of_getElem? (i := 186) rfl)⟩
set_option maxRecDepth 20000 in
theorem lw_p69 : lw_okq (⟨"MownMazeModel", "readNoise", "()V"⟩, 43) := ⟨⟨by decide +kernel, by decide +kernel⟩, tb_6 (List.mem_of_getElem? (i := 82) rfl), tb_7 (List.mem_of_getElem? (i := 193) rfl), tb_7 (List.mem_of_getElem? (i := 194) rfl)⟩
set_option maxRecDepth 20000 in
theorem lw_p70 : lw_okq (⟨"MownMazeModel", "readCell", "()I"⟩, 43) := ⟨⟨by decide +kernel, by decide +kernel⟩, tb_6 (List.mem_of_getElem? (i := 82) rfl), tb_7 (List.mem_of_getElem? (i := 197) rfl), tb_7 (List.mem_of_getElem? (i := 198) rfl)⟩
set_option maxRecDepth 20000 in
theorem lw_p71 : lw_okq (⟨"MownMazeModel", "readHeard", "()V"⟩, 43) := ⟨⟨by decide +kernel, by decide +kernel⟩, tb_6 (List.mem_of_getElem? (i := 82) rfl), tb_7 (List.mem_of_getElem? (i := 202) rfl), tb_7 (List.mem_of_getElem? (i := 203) rfl)⟩
set_option maxRecDepth 20000 in
theorem lw_p72 : lw_okq (⟨"MownMazeModel", "readWalker", "()V"⟩, 43) := ⟨⟨by decide +kernel, by decide +kernel⟩, tb_6 (List.mem_of_getElem? (i := 82) rfl), tb_7 (List.mem_of_getElem? (i := 208) rfl), tb_7 (List.mem_of_getElem? (i := 209) rfl)⟩
set_option maxRecDepth 20000 in
theorem lw_p73 : lw_okq (⟨"MownMazeModel", "isName", "()Z"⟩, 43) := ⟨⟨by decide +kernel, by decide +kernel⟩, tb_6 (List.mem_of_getElem? (i := 82) rfl), tb_7 (List.mem_of_getElem? (i := 212) rfl), tb_7 (List.mem_of_getElem? (i := 213) rfl)⟩
set_option maxRecDepth 20000 in
theorem lw_p74 : lw_okq (⟨"MownMazeModel", "eatsWord", "(Ljava/lang/String;)Z"⟩, 43) := ⟨⟨by decide +kernel, by decide +kernel⟩, tb_6 (List.mem_of_getElem? (i := 82) rfl), tb_7 (List.mem_of_getElem? (i := 217) rfl), tb_7 (List.mem_of_getElem? (i := 218) rfl)⟩
set_option maxRecDepth 20000 in
theorem lw_p75 : lw_okq (⟨"MownMazeModel", "eatsSign", "(I)Z"⟩, 43) := ⟨⟨by decide +kernel, by decide +kernel⟩, tb_6 (List.mem_of_getElem? (i := 82) rfl), tb_7 (List.mem_of_getElem? (i := 232) rfl), tb_7 (List.mem_of_getElem? (i := 233) rfl)⟩
set_option maxRecDepth 20000 in
theorem lw_p76 : lw_okq (⟨"MownMazeModel", "good", "(I)I"⟩, 43) := ⟨⟨by decide +kernel, by decide +kernel⟩, tb_6 (List.mem_of_getElem? (i := 82) rfl), tb_7 (List.mem_of_getElem? (i := 239) rfl), tb_8 (List.mem_of_getElem? (i := 0) rfl)⟩
set_option maxRecDepth 20000 in
theorem lw_p77 : lw_okq (⟨"MownMazeModel", "isCell", "(II)Z"⟩, 43) := ⟨⟨by decide +kernel, by decide +kernel⟩, tb_6 (List.mem_of_getElem? (i := 82) rfl), tb_8 (List.mem_of_getElem? (i := 15) rfl), tb_8 (List.mem_of_getElem? (i := 16) rfl)⟩
set_option maxRecDepth 20000 in
theorem lw_p78 : lw_okq (⟨"MownMazeModel", "cellOf", "(II)I"⟩, 43) := ⟨⟨by decide +kernel, by decide +kernel⟩, tb_6 (List.mem_of_getElem? (i := 82) rfl), tb_8 (List.mem_of_getElem? (i := 19) rfl), tb_8 (List.mem_of_getElem? (i := 20) rfl)⟩
set_option maxRecDepth 20000 in
theorem lw_p79 : lw_okq (⟨"MownMazeModel", "besideOf", "(JI)J"⟩, 43) := ⟨⟨by decide +kernel, by decide +kernel⟩, tb_6 (List.mem_of_getElem? (i := 82) rfl), tb_8 (List.mem_of_getElem? (i := 27) rfl), tb_8 (List.mem_of_getElem? (i := 28) rfl)⟩
def lw_privs_5 : List (MethodName × Nat) := [(⟨"MownMazeModel", "readCells", "(IZ)V"⟩, 43), (⟨"MownMazeModel", "readWant", "()V"⟩, 43), (⟨"MownMazeModel", "readMoon", "()V"⟩, 43), (⟨"MownMazeModel", "readGate", "()V"⟩, 43), (⟨"MownMazeModel", "needsSign", "(I)V"⟩, 43), (⟨"MownMazeModel", "readNoise", "()V"⟩, 43), (⟨"MownMazeModel", "readCell", "()I"⟩, 43), (⟨"MownMazeModel", "readHeard", "()V"⟩, 43), (⟨"MownMazeModel", "readWalker", "()V"⟩, 43), (⟨"MownMazeModel", "isName", "()Z"⟩, 43), (⟨"MownMazeModel", "eatsWord", "(Ljava/lang/String;)Z"⟩, 43), (⟨"MownMazeModel", "eatsSign", "(I)Z"⟩, 43), (⟨"MownMazeModel", "good", "(I)I"⟩, 43), (⟨"MownMazeModel", "isCell", "(II)Z"⟩, 43), (⟨"MownMazeModel", "cellOf", "(II)I"⟩, 43), (⟨"MownMazeModel", "besideOf", "(JI)J"⟩, 43)]
theorem lw_r5 : ∀ q ∈ lw_privs_5, lw_okq q := List.forall_mem_cons.mpr ⟨lw_p64, List.forall_mem_cons.mpr ⟨lw_p65, List.forall_mem_cons.mpr ⟨lw_p66, List.forall_mem_cons.mpr ⟨lw_p67, List.forall_mem_cons.mpr ⟨lw_p68, List.forall_mem_cons.mpr ⟨lw_p69, List.forall_mem_cons.mpr ⟨lw_p70, List.forall_mem_cons.mpr ⟨lw_p71, List.forall_mem_cons.mpr ⟨lw_p72, List.forall_mem_cons.mpr ⟨lw_p73, List.forall_mem_cons.mpr ⟨lw_p74, List.forall_mem_cons.mpr ⟨lw_p75, List.forall_mem_cons.mpr ⟨lw_p76, List.forall_mem_cons.mpr ⟨lw_p77, List.forall_mem_cons.mpr ⟨lw_p78, List.forall_mem_cons.mpr ⟨lw_p79, fun _ h => absurd h List.not_mem_nil⟩⟩⟩⟩⟩⟩⟩⟩⟩⟩⟩⟩⟩⟩⟩⟩
set_option maxRecDepth 20000 in
theorem lw_p80 : lw_okq (⟨"MownMazeModel", "partsOf", "(J)I"⟩, 43) := ⟨⟨by decide +kernel, by decide +kernel⟩, tb_6 (List.mem_of_getElem? (i := 82) rfl), tb_8 (List.mem_of_getElem? (i := 43) rfl), tb_8 (List.mem_of_getElem? (i := 44) rfl)⟩
set_option maxRecDepth 20000 in
theorem lw_p81 : lw_okq (⟨"MownMazeModel", "laysFar", "(JI)V"⟩, 43) := ⟨⟨by decide +kernel, by decide +kernel⟩, tb_6 (List.mem_of_getElem? (i := 82) rfl), tb_8 (List.mem_of_getElem? (i := 50) rfl), tb_8 (List.mem_of_getElem? (i := 51) rfl)⟩
set_option maxRecDepth 20000 in
theorem lw_p82 : lw_okq (⟨"MownMazeModel", "isNumber", "(I)Z"⟩, 43) := ⟨⟨by decide +kernel, by decide +kernel⟩, tb_6 (List.mem_of_getElem? (i := 82) rfl), tb_8 (List.mem_of_getElem? (i := 68) rfl), tb_8 (List.mem_of_getElem? (i := 69) rfl)⟩
set_option maxRecDepth 20000 in
theorem lw_p83 : lw_okq (⟨"MownMazeModel", "splitsAt", "(I)Z"⟩, 43) := ⟨⟨by decide +kernel, by decide +kernel⟩, tb_6 (List.mem_of_getElem? (i := 82) rfl), tb_8 (List.mem_of_getElem? (i := 80) rfl), tb_8 (List.mem_of_getElem? (i := 81) rfl)⟩
set_option maxRecDepth 20000 in
theorem lw_p84 : lw_okq (⟨"MownMazeModel", "isWalker", "(I)Z"⟩, 43) := ⟨⟨by decide +kernel, by decide +kernel⟩, tb_6 (List.mem_of_getElem? (i := 82) rfl), tb_8 (List.mem_of_getElem? (i := 88) rfl), tb_8 (List.mem_of_getElem? (i := 89) rfl)⟩
set_option maxRecDepth 20000 in
theorem lw_p85 : lw_okq (⟨"MownMazeModel", "walks", "(I)V"⟩, 43) := ⟨⟨by decide +kernel, by decide +kernel⟩, tb_6 (List.mem_of_getElem? (i := 82) rfl), tb_8 (List.mem_of_getElem? (i := 92) rfl), tb_8 (List.mem_of_getElem? (i := 93) rfl)⟩
set_option maxRecDepth 20000 in
theorem lw_p86 : lw_okq (⟨"MownMazeModel", "sets", "(I)V"⟩, 43) := ⟨⟨by decide +kernel, by decide +kernel⟩, tb_6 (List.mem_of_getElem? (i := 82) rfl), tb_8 (List.mem_of_getElem? (i := 96) rfl), tb_8 (List.mem_of_getElem? (i := 97) rfl)⟩
set_option maxRecDepth 20000 in
theorem lw_p87 : lw_okq (⟨"MownMazeModel", "goes", "(I)V"⟩, 43) := ⟨⟨by decide +kernel, by decide +kernel⟩, tb_6 (List.mem_of_getElem? (i := 82) rfl), tb_8 (List.mem_of_getElem? (i := 101) rfl), tb_8 (List.mem_of_getElem? (i := 102) rfl)⟩
set_option maxRecDepth 20000 in
theorem lw_p88 : lw_okq (⟨"MownMazeModel", "turns", "(I)V"⟩, 43) := ⟨⟨by decide +kernel, by decide +kernel⟩, tb_6 (List.mem_of_getElem? (i := 82) rfl), tb_8 (List.mem_of_getElem? (i := 105) rfl), tb_8 (List.mem_of_getElem? (i := 106) rfl)⟩
set_option maxRecDepth 20000 in
theorem lw_p89 : lw_okq (⟨"MownMazeModel", "mownTo", "(I)I"⟩, 43) := ⟨⟨by decide +kernel, by decide +kernel⟩, tb_6 (List.mem_of_getElem? (i := 82) rfl), tb_8 (List.mem_of_getElem? (i := 109) rfl), tb_8 (List.mem_of_getElem? (i := 110) rfl)⟩
set_option maxRecDepth 20000 in
theorem lw_p90 : lw_okq (⟨"MownMazeModel", "goesOnce", "()V"⟩, 43) := ⟨⟨by decide +kernel, by decide +kernel⟩, tb_6 (List.mem_of_getElem? (i := 82) rfl), tb_8 (List.mem_of_getElem? (i := 113) rfl), tb_8 (List.mem_of_getElem? (i := 114) rfl)⟩
set_option maxRecDepth 20000 in
theorem lw_p91 : lw_okq (⟨"MownMazeModel", "goesToNoise", "()V"⟩, 43) := ⟨⟨by decide +kernel, by decide +kernel⟩, tb_6 (List.mem_of_getElem? (i := 82) rfl), tb_8 (List.mem_of_getElem? (i := 117) rfl), tb_8 (List.mem_of_getElem? (i := 118) rfl)⟩
set_option maxRecDepth 20000 in
theorem lw_p92 : lw_okq (⟨"MownMazeModel", "goesByLot", "()V"⟩, 43) := ⟨⟨by decide +kernel, by decide +kernel⟩, tb_6 (List.mem_of_getElem? (i := 82) rfl), tb_8 (List.mem_of_getElem? (i := 121) rfl), tb_8 (List.mem_of_getElem? (i := 122) rfl)⟩
set_option maxRecDepth 20000 in
theorem lw_p93 : lw_okq (⟨"MownMazeModel", "isGate", "(I)Z"⟩, 43) := ⟨⟨by decide +kernel, by decide +kernel⟩, tb_6 (List.mem_of_getElem? (i := 82) rfl), tb_8 (List.mem_of_getElem? (i := 131) rfl), tb_8 (List.mem_of_getElem? (i := 132) rfl)⟩
set_option maxRecDepth 20000 in
theorem lw_p94 : lw_okq (⟨"MownMazeModel", "ringOf", "(I)I"⟩, 43) := ⟨⟨by decide +kernel, by decide +kernel⟩, tb_6 (List.mem_of_getElem? (i := 82) rfl), tb_8 (List.mem_of_getElem? (i := 143) rfl), tb_8 (List.mem_of_getElem? (i := 144) rfl)⟩
set_option maxRecDepth 20000 in
theorem lw_p95 : lw_okq (⟨"MownMazeModel", "there", "(I)I"⟩, 43) := ⟨⟨by decide +kernel, by decide +kernel⟩, tb_6 (List.mem_of_getElem? (i := 82) rfl), tb_8 (List.mem_of_getElem? (i := 159) rfl), tb_8 (List.mem_of_getElem? (i := 160) rfl)⟩
def lw_privs_6 : List (MethodName × Nat) := [(⟨"MownMazeModel", "partsOf", "(J)I"⟩, 43), (⟨"MownMazeModel", "laysFar", "(JI)V"⟩, 43), (⟨"MownMazeModel", "isNumber", "(I)Z"⟩, 43), (⟨"MownMazeModel", "splitsAt", "(I)Z"⟩, 43), (⟨"MownMazeModel", "isWalker", "(I)Z"⟩, 43), (⟨"MownMazeModel", "walks", "(I)V"⟩, 43), (⟨"MownMazeModel", "sets", "(I)V"⟩, 43), (⟨"MownMazeModel", "goes", "(I)V"⟩, 43), (⟨"MownMazeModel", "turns", "(I)V"⟩, 43), (⟨"MownMazeModel", "mownTo", "(I)I"⟩, 43), (⟨"MownMazeModel", "goesOnce", "()V"⟩, 43), (⟨"MownMazeModel", "goesToNoise", "()V"⟩, 43), (⟨"MownMazeModel", "goesByLot", "()V"⟩, 43), (⟨"MownMazeModel", "isGate", "(I)Z"⟩, 43), (⟨"MownMazeModel", "ringOf", "(I)I"⟩, 43), (⟨"MownMazeModel", "there", "(I)I"⟩, 43)]
theorem lw_r6 : ∀ q ∈ lw_privs_6, lw_okq q := List.forall_mem_cons.mpr ⟨lw_p80, List.forall_mem_cons.mpr ⟨lw_p81, List.forall_mem_cons.mpr ⟨lw_p82, List.forall_mem_cons.mpr ⟨lw_p83, List.forall_mem_cons.mpr ⟨lw_p84, List.forall_mem_cons.mpr ⟨lw_p85, List.forall_mem_cons.mpr ⟨lw_p86, List.forall_mem_cons.mpr ⟨lw_p87, List.forall_mem_cons.mpr ⟨lw_p88, List.forall_mem_cons.mpr ⟨lw_p89, List.forall_mem_cons.mpr ⟨lw_p90, List.forall_mem_cons.mpr ⟨lw_p91, List.forall_mem_cons.mpr ⟨lw_p92, List.forall_mem_cons.mpr ⟨lw_p93, List.forall_mem_cons.mpr ⟨lw_p94, List.forall_mem_cons.mpr ⟨lw_p95, fun _ h => absurd h List.not_mem_nil⟩⟩⟩⟩⟩⟩⟩⟩⟩⟩⟩⟩⟩⟩⟩⟩
set_option maxRecDepth 20000 in
theorem lw_p96 : lw_okq (⟨"MownMazeModel", "paidNow", "()I"⟩, 43) := ⟨⟨by decide +kernel, by decide +kernel⟩, tb_6 (List.mem_of_getElem? (i := 82) rfl), tb_8 (List.mem_of_getElem? (i := 175) rfl), tb_8 (List.mem_of_getElem? (i := 176) rfl)⟩
set_option maxRecDepth 20000 in
theorem lw_p97 : lw_okq (⟨"MownMazeModel", "unlikeNow", "(Z)J"⟩, 43) := ⟨⟨by decide +kernel, by decide +kernel⟩, tb_6 (List.mem_of_getElem? (i := 82) rfl), tb_8 (List.mem_of_getElem? (i := 191) rfl), tb_8 (List.mem_of_getElem? (i := 192) rfl)⟩
set_option maxRecDepth 20000 in
theorem lw_p98 : lw_okq (⟨"MownMazeModel", "clashNow", "()J"⟩, 43) := ⟨⟨by decide +kernel, by decide +kernel⟩, tb_6 (List.mem_of_getElem? (i := 82) rfl), tb_8 (List.mem_of_getElem? (i := 203) rfl), tb_8 (List.mem_of_getElem? (i := 204) rfl)⟩
set_option maxRecDepth 20000 in
theorem lw_p99 : lw_okq (⟨"MownMazeModel", "toMowNow", "()J"⟩, 43) := ⟨⟨by decide +kernel, by decide +kernel⟩, tb_6 (List.mem_of_getElem? (i := 82) rfl), tb_8 (List.mem_of_getElem? (i := 215) rfl), tb_8 (List.mem_of_getElem? (i := 216) rfl)⟩
set_option maxRecDepth 20000 in
theorem lw_p100 : lw_okq (⟨"MownMazeModel", "strokesNow", "()I"⟩, 43) := ⟨⟨by decide +kernel, by decide +kernel⟩, tb_6 (List.mem_of_getElem? (i := 82) rfl), tb_8 (List.mem_of_getElem? (i := 223) rfl), tb_8 (List.mem_of_getElem? (i := 224) rfl)⟩
set_option maxRecDepth 20000 in
theorem lw_p101 : lw_okq (⟨"MownMazeModel", "strokesTo", "(III)I"⟩, 43) := ⟨⟨by decide +kernel, by decide +kernel⟩, tb_6 (List.mem_of_getElem? (i := 82) rfl), tb_8 (List.mem_of_getElem? (i := 227) rfl), tb_8 (List.mem_of_getElem? (i := 228) rfl)⟩
set_option maxRecDepth 20000 in
theorem lw_p102 : lw_okq (⟨"MownMazeModel", "isBeside", "(II)Z"⟩, 43) := ⟨⟨by decide +kernel, by decide +kernel⟩, tb_6 (List.mem_of_getElem? (i := 82) rfl), tb_8 (List.mem_of_getElem? (i := 231) rfl), tb_8 (List.mem_of_getElem? (i := 232) rfl)⟩
set_option maxRecDepth 20000 in
theorem lw_p103 : lw_okq (⟨"MownMazeModel", "weekOf", "(J)J"⟩, 43) := ⟨⟨by decide +kernel, by decide +kernel⟩, tb_6 (List.mem_of_getElem? (i := 82) rfl), tb_8 (List.mem_of_getElem? (i := 239) rfl), tb_9 (List.mem_of_getElem? (i := 0) rfl)⟩
set_option maxRecDepth 20000 in
theorem lw_p104 : lw_okq (⟨"MownMazeModel", "hasWay", "(J)Z"⟩, 43) := ⟨⟨by decide +kernel, by decide +kernel⟩, tb_6 (List.mem_of_getElem? (i := 82) rfl), tb_9 (List.mem_of_getElem? (i := 7) rfl), tb_9 (List.mem_of_getElem? (i := 8) rfl)⟩
set_option maxRecDepth 20000 in
theorem lw_p105 : lw_okq (⟨"MownMazeModel", "seenNow", "(I)I"⟩, 43) := ⟨⟨by decide +kernel, by decide +kernel⟩, tb_6 (List.mem_of_getElem? (i := 82) rfl), tb_9 (List.mem_of_getElem? (i := 15) rfl), tb_9 (List.mem_of_getElem? (i := 16) rfl)⟩
set_option maxRecDepth 20000 in
theorem lw_p106 : lw_okq (⟨"MownMazeModel", "isFree", "(II)Z"⟩, 43) := ⟨⟨by decide +kernel, by decide +kernel⟩, tb_6 (List.mem_of_getElem? (i := 82) rfl), tb_9 (List.mem_of_getElem? (i := 19) rfl), tb_9 (List.mem_of_getElem? (i := 20) rfl)⟩
set_option maxRecDepth 20000 in
theorem lw_p107 : lw_okq (⟨"MownMazeModel", "placesNow", "()J"⟩, 43) := ⟨⟨by decide +kernel, by decide +kernel⟩, tb_6 (List.mem_of_getElem? (i := 82) rfl), tb_9 (List.mem_of_getElem? (i := 31) rfl), tb_9 (List.mem_of_getElem? (i := 32) rfl)⟩
set_option maxRecDepth 20000 in
theorem lw_p108 : lw_okq (⟨"MownMazeModel", "bestNow", "()I"⟩, 43) := ⟨⟨by decide +kernel, by decide +kernel⟩, tb_6 (List.mem_of_getElem? (i := 82) rfl), tb_9 (List.mem_of_getElem? (i := 43) rfl), tb_9 (List.mem_of_getElem? (i := 44) rfl)⟩
set_option maxRecDepth 20000 in
theorem lw_p109 : lw_okq (⟨"MownMazeModel", "changesTo", "(IIZ)Z"⟩, 43) := ⟨⟨by decide +kernel, by decide +kernel⟩, tb_6 (List.mem_of_getElem? (i := 82) rfl), tb_9 (List.mem_of_getElem? (i := 59) rfl), tb_9 (List.mem_of_getElem? (i := 60) rfl)⟩
set_option maxRecDepth 20000 in
theorem lw_p110 : lw_okq (⟨"MownMazeModel", "denied", "(I)Z"⟩, 43) := ⟨⟨by decide +kernel, by decide +kernel⟩, tb_6 (List.mem_of_getElem? (i := 82) rfl), tb_9 (List.mem_of_getElem? (i := 63) rfl), tb_9 (List.mem_of_getElem? (i := 64) rfl)⟩
set_option maxRecDepth 20000 in
theorem lw_p111 : lw_okq (⟨"MownMazeModel", "keeps", "()V"⟩, 43) := ⟨⟨by decide +kernel, by decide +kernel⟩, tb_6 (List.mem_of_getElem? (i := 82) rfl), tb_9 (List.mem_of_getElem? (i := 67) rfl), tb_9 (List.mem_of_getElem? (i := 68) rfl)⟩
def lw_privs_7 : List (MethodName × Nat) := [(⟨"MownMazeModel", "paidNow", "()I"⟩, 43), (⟨"MownMazeModel", "unlikeNow", "(Z)J"⟩, 43), (⟨"MownMazeModel", "clashNow", "()J"⟩, 43), (⟨"MownMazeModel", "toMowNow", "()J"⟩, 43), (⟨"MownMazeModel", "strokesNow", "()I"⟩, 43), (⟨"MownMazeModel", "strokesTo", "(III)I"⟩, 43), (⟨"MownMazeModel", "isBeside", "(II)Z"⟩, 43), (⟨"MownMazeModel", "weekOf", "(J)J"⟩, 43), (⟨"MownMazeModel", "hasWay", "(J)Z"⟩, 43), (⟨"MownMazeModel", "seenNow", "(I)I"⟩, 43), (⟨"MownMazeModel", "isFree", "(II)Z"⟩, 43), (⟨"MownMazeModel", "placesNow", "()J"⟩, 43), (⟨"MownMazeModel", "bestNow", "()I"⟩, 43), (⟨"MownMazeModel", "changesTo", "(IIZ)Z"⟩, 43), (⟨"MownMazeModel", "denied", "(I)Z"⟩, 43), (⟨"MownMazeModel", "keeps", "()V"⟩, 43)]
theorem lw_r7 : ∀ q ∈ lw_privs_7, lw_okq q := List.forall_mem_cons.mpr ⟨lw_p96, List.forall_mem_cons.mpr ⟨lw_p97, List.forall_mem_cons.mpr ⟨lw_p98, List.forall_mem_cons.mpr ⟨lw_p99, List.forall_mem_cons.mpr ⟨lw_p100, List.forall_mem_cons.mpr ⟨lw_p101, List.forall_mem_cons.mpr ⟨lw_p102, List.forall_mem_cons.mpr ⟨lw_p103, List.forall_mem_cons.mpr ⟨lw_p104, List.forall_mem_cons.mpr ⟨lw_p105, List.forall_mem_cons.mpr ⟨lw_p106, List.forall_mem_cons.mpr ⟨lw_p107, List.forall_mem_cons.mpr ⟨lw_p108, List.forall_mem_cons.mpr ⟨lw_p109, List.forall_mem_cons.mpr ⟨lw_p110, List.forall_mem_cons.mpr ⟨lw_p111, fun _ h => absurd h List.not_mem_nil⟩⟩⟩⟩⟩⟩⟩⟩⟩⟩⟩⟩⟩⟩⟩⟩
set_option maxRecDepth 20000 in
theorem lw_p112 : lw_okq (⟨"MownMazeModel", "granted", "()Z"⟩, 43) := ⟨⟨by decide +kernel, by decide +kernel⟩, tb_6 (List.mem_of_getElem? (i := 82) rfl), tb_9 (List.mem_of_getElem? (i := 71) rfl), tb_9 (List.mem_of_getElem? (i := 72) rfl)⟩
def lw_privs_8 : List (MethodName × Nat) := [(⟨"MownMazeModel", "granted", "()Z"⟩, 43)]
theorem lw_r8 : ∀ q ∈ lw_privs_8, lw_okq q := List.forall_mem_cons.mpr ⟨lw_p112, fun _ h => absurd h List.not_mem_nil⟩
def lw_privs : List (MethodName × Nat) := lw_privs_1 ++ (lw_privs_2 ++ (lw_privs_3 ++ (lw_privs_4 ++ (lw_privs_5 ++ (lw_privs_6 ++ (lw_privs_7 ++ (lw_privs_8)))))))
def lw_tbl : List Cond := k2_sels lw_privs ++ tables_1
theorem lw_privs_ok : ∀ q ∈ lw_privs, lw_okq q := by
  show ∀ q ∈ lw_privs_1 ++ (lw_privs_2 ++ (lw_privs_3 ++ (lw_privs_4 ++ (lw_privs_5 ++ (lw_privs_6 ++ (lw_privs_7 ++ (lw_privs_8))))))), lw_okq q
  exact List.forall_mem_append.mpr ⟨lw_r1, List.forall_mem_append.mpr ⟨lw_r2, List.forall_mem_append.mpr ⟨lw_r3, List.forall_mem_append.mpr ⟨lw_r4, List.forall_mem_append.mpr ⟨lw_r5, List.forall_mem_append.mpr ⟨lw_r6, List.forall_mem_append.mpr ⟨lw_r7, lw_r8⟩⟩⟩⟩⟩⟩⟩
def WS : List Cond := lw_tbl.filter goodWord
theorem ws_t {w : Cond} (h : w ∈ tables_1) (hg : goodWord w = true) : w ∈ WS := List.mem_filter.mpr ⟨List.mem_append_right _ h, hg⟩
theorem ws_p {w : Cond} (h : w ∈ k2_sels lw_privs) (hg : goodWord w = true) : w ∈ WS := List.mem_filter.mpr ⟨List.mem_append_left _ h, hg⟩
theorem ws_good {c0 c1 : Cond} (h : c1 ∈ WS) : GoodIn (c0 :: WS) (c1 :: WS) := by
  intro w hw
  have h2 : w ∈ WS := by
    rcases List.mem_cons.mp hw with e | e
    · rw [e]; exact h
    · exact e
  exact ⟨List.mem_cons_of_mem _ h2, good_of_word (List.mem_filter.mp h2).2⟩
