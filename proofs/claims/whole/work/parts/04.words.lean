set_option maxRecDepth 20000 in
theorem tw_0 : (Cond.initialized "MownMazeLaw" : Cond) ∈ WS := ws_t (tb_1 (List.mem_of_getElem? (i := 0) rfl)) rfl
set_option maxRecDepth 20000 in
theorem tw_1 : (Cond.initialized "MownMaze" : Cond) ∈ WS := ws_t (tb_1 (List.mem_of_getElem? (i := 1) rfl)) rfl
set_option maxRecDepth 20000 in
theorem tw_2 : (Cond.initialized "MownMaze$Tape" : Cond) ∈ WS := ws_t (tb_1 (List.mem_of_getElem? (i := 2) rfl)) rfl
set_option maxRecDepth 20000 in
theorem tw_3 : (Cond.initialized "MownMaze$Reader" : Cond) ∈ WS := ws_t (tb_1 (List.mem_of_getElem? (i := 3) rfl)) rfl
set_option maxRecDepth 20000 in
theorem tw_4 : (Cond.initialized "MownMaze$Tokens" : Cond) ∈ WS := ws_t (tb_1 (List.mem_of_getElem? (i := 4) rfl)) rfl
set_option maxRecDepth 20000 in
theorem tw_5 : (Cond.initialized "MownMaze$History" : Cond) ∈ WS := ws_t (tb_1 (List.mem_of_getElem? (i := 5) rfl)) rfl
set_option maxRecDepth 20000 in
theorem tw_6 : (Cond.initialized "MownMaze$Scythe" : Cond) ∈ WS := ws_t (tb_1 (List.mem_of_getElem? (i := 6) rfl)) rfl
set_option maxRecDepth 20000 in
theorem tw_7 : (Cond.initialized "MownMaze$Plan" : Cond) ∈ WS := ws_t (tb_1 (List.mem_of_getElem? (i := 7) rfl)) rfl
set_option maxRecDepth 20000 in
theorem tw_8 : (Cond.initialized "MownMaze$Ground" : Cond) ∈ WS := ws_t (tb_1 (List.mem_of_getElem? (i := 8) rfl)) rfl
set_option maxRecDepth 20000 in
theorem tw_9 : (Cond.initialized "MownMaze$Picture" : Cond) ∈ WS := ws_t (tb_1 (List.mem_of_getElem? (i := 9) rfl)) rfl
set_option maxRecDepth 20000 in
theorem tw_10 : (Cond.initialized "MownMaze$Walker" : Cond) ∈ WS := ws_t (tb_1 (List.mem_of_getElem? (i := 10) rfl)) rfl
set_option maxRecDepth 20000 in
theorem tw_11 : (Cond.initialized "MownMaze$Walk" : Cond) ∈ WS := ws_t (tb_1 (List.mem_of_getElem? (i := 11) rfl)) rfl
set_option maxRecDepth 20000 in
theorem tw_12 : (Cond.initialized "MownMazeModel" : Cond) ∈ WS := ws_t (tb_1 (List.mem_of_getElem? (i := 12) rfl)) rfl
set_option maxRecDepth 20000 in
theorem tw_13 : (Cond.initialized "java/lang/Math" : Cond) ∈ WS := ws_t (tb_1 (List.mem_of_getElem? (i := 13) rfl)) rfl
set_option maxRecDepth 20000 in
theorem tw_14 : (Cond.initialized "java/lang/String" : Cond) ∈ WS := ws_t (tb_1 (List.mem_of_getElem? (i := 14) rfl)) rfl
set_option maxRecDepth 20000 in
theorem tw_15 : (Cond.initialized "java/lang/StringLatin1" : Cond) ∈ WS := ws_t (tb_1 (List.mem_of_getElem? (i := 15) rfl)) rfl
set_option maxRecDepth 20000 in
theorem tw_16 : (Cond.initialized "jdk/internal/util/Preconditions" : Cond) ∈ WS := ws_t (tb_1 (List.mem_of_getElem? (i := 16) rfl)) rfl
set_option maxRecDepth 20000 in
theorem tw_17 : (Cond.initialized "java/lang/StringUTF16" : Cond) ∈ WS := ws_t (tb_1 (List.mem_of_getElem? (i := 17) rfl)) rfl
set_option maxRecDepth 20000 in
theorem tw_18 : (Cond.initialized "java/lang/Long" : Cond) ∈ WS := ws_t (tb_1 (List.mem_of_getElem? (i := 18) rfl)) rfl
set_option maxRecDepth 20000 in
theorem tw_19 : (Cond.initialized "MownMazeModel$Meadow" : Cond) ∈ WS := ws_t (tb_1 (List.mem_of_getElem? (i := 19) rfl)) rfl
set_option maxRecDepth 20000 in
theorem tw_20 : (Cond.initialized "java/lang/System" : Cond) ∈ WS := ws_t (tb_1 (List.mem_of_getElem? (i := 20) rfl)) rfl
set_option maxRecDepth 20000 in
theorem tw_21 : (Cond.initialized "java/lang/Throwable" : Cond) ∈ WS := ws_t (tb_1 (List.mem_of_getElem? (i := 21) rfl)) rfl
set_option maxRecDepth 20000 in
theorem tw_22 : (Cond.initialized "java/lang/Exception" : Cond) ∈ WS := ws_t (tb_1 (List.mem_of_getElem? (i := 22) rfl)) rfl
set_option maxRecDepth 20000 in
theorem tw_23 : (Cond.initialized "java/lang/RuntimeException" : Cond) ∈ WS := ws_t (tb_1 (List.mem_of_getElem? (i := 23) rfl)) rfl
set_option maxRecDepth 20000 in
theorem tw_24 : (Cond.initialized "java/util/NoSuchElementException" : Cond) ∈ WS := ws_t (tb_1 (List.mem_of_getElem? (i := 24) rfl)) rfl
set_option maxRecDepth 20000 in
theorem tw_25 : (Cond.classLink "MownMazeLaw" 8 "MownMaze" : Cond) ∈ WS := ws_t (tb_1 (List.mem_of_getElem? (i := 25) rfl)) rfl
set_option maxRecDepth 20000 in
theorem tw_26 : (Cond.instantiable "MownMaze" 15 : Cond) ∈ WS := ws_t (tb_1 (List.mem_of_getElem? (i := 26) rfl)) rfl
set_option maxRecDepth 20000 in
theorem tw_27 : (Cond.methodLink "MownMazeLaw" 15 ⟨"MownMaze", "<init>", "()V"⟩ : Cond) ∈ WS := ws_t (tb_1 (List.mem_of_getElem? (i := 27) rfl)) rfl
set_option maxRecDepth 20000 in
theorem tw_28 : (Cond.instanceMethod ⟨"MownMaze", "<init>", "()V"⟩ : Cond) ∈ WS := ws_t (tb_1 (List.mem_of_getElem? (i := 28) rfl)) rfl
set_option maxRecDepth 20000 in
theorem tw_29 : (Cond.code ⟨"MownMaze", "<init>", "()V"⟩ prog_1_method_1_code 1 none : Cond) ∈ WS := ws_t (tb_1 (List.mem_of_getElem? (i := 29) rfl)) rfl
set_option maxRecDepth 20000 in
theorem tw_30 : (Cond.methodLink "MownMaze" 3 ⟨"java/lang/Object", "<init>", "()V"⟩ : Cond) ∈ WS := ws_t (tb_1 (List.mem_of_getElem? (i := 30) rfl)) rfl
set_option maxRecDepth 20000 in
theorem tw_31 : (Cond.instanceMethod ⟨"java/lang/Object", "<init>", "()V"⟩ : Cond) ∈ WS := ws_t (tb_1 (List.mem_of_getElem? (i := 31) rfl)) rfl
set_option maxRecDepth 20000 in
theorem tw_32 : (Cond.code ⟨"java/lang/Object", "<init>", "()V"⟩ object_method_1_code 1 none : Cond) ∈ WS := ws_t (tb_1 (List.mem_of_getElem? (i := 32) rfl)) rfl
set_option maxRecDepth 20000 in
theorem tw_33 : (Cond.classLink "MownMaze" 9 "MownMaze$Tape" : Cond) ∈ WS := ws_t (tb_1 (List.mem_of_getElem? (i := 33) rfl)) rfl
set_option maxRecDepth 20000 in
theorem tw_34 : (Cond.instantiable "MownMaze$Tape" 2 : Cond) ∈ WS := ws_t (tb_1 (List.mem_of_getElem? (i := 34) rfl)) rfl
set_option maxRecDepth 20000 in
theorem tw_36 : (Cond.instanceMethod ⟨"MownMaze$Tape", "<init>", "()V"⟩ : Cond) ∈ WS := ws_t (tb_1 (List.mem_of_getElem? (i := 36) rfl)) rfl
set_option maxRecDepth 20000 in
theorem tw_37 : (Cond.code ⟨"MownMaze$Tape", "<init>", "()V"⟩ prog_8_method_1_code 1 none : Cond) ∈ WS := ws_t (tb_1 (List.mem_of_getElem? (i := 37) rfl)) rfl
set_option maxRecDepth 20000 in
theorem tw_38 : (Cond.methodLink "MownMaze$Tape" 3 ⟨"java/lang/Object", "<init>", "()V"⟩ : Cond) ∈ WS := ws_t (tb_1 (List.mem_of_getElem? (i := 38) rfl)) rfl
set_option maxRecDepth 20000 in
theorem tw_39 : (Cond.fieldLink "MownMaze$Tape" 9 "MownMaze$Tape" "bytes" "[B" : Cond) ∈ WS := ws_t (tb_1 (List.mem_of_getElem? (i := 39) rfl)) rfl
set_option maxRecDepth 20000 in
theorem tw_40 : (Cond.fieldLink "MownMaze$Tape" 15 "MownMaze$Tape" "length" "I" : Cond) ∈ WS := ws_t (tb_1 (List.mem_of_getElem? (i := 40) rfl)) rfl
set_option maxRecDepth 20000 in
theorem tw_41 : (Cond.laysFinal "MownMaze$Tape" "MownMaze$Tape" "bytes" "[B" : Cond) ∈ WS := ws_t (tb_1 (List.mem_of_getElem? (i := 41) rfl)) rfl
set_option maxRecDepth 20000 in
theorem tw_43 : (Cond.lays "MownMaze$Tape" "MownMaze$Tape" "length" "I" : Cond) ∈ WS := ws_t (tb_1 (List.mem_of_getElem? (i := 43) rfl)) rfl
set_option maxRecDepth 20000 in
theorem tw_45 : (Cond.superclass "MownMaze$Tape" "java/lang/Object" : Cond) ∈ WS := ws_t (tb_1 (List.mem_of_getElem? (i := 45) rfl)) rfl
set_option maxRecDepth 20000 in
theorem tw_46 : (Cond.arrayClass FieldType.byte : Cond) ∈ WS := ws_t (tb_1 (List.mem_of_getElem? (i := 46) rfl)) rfl
set_option maxRecDepth 20000 in
theorem tw_47 : (Cond.classLink "MownMaze" 16 "MownMaze$Reader" : Cond) ∈ WS := ws_t (tb_1 (List.mem_of_getElem? (i := 47) rfl)) rfl
set_option maxRecDepth 20000 in
theorem tw_48 : (Cond.instantiable "MownMaze$Reader" 6 : Cond) ∈ WS := ws_t (tb_1 (List.mem_of_getElem? (i := 48) rfl)) rfl
set_option maxRecDepth 20000 in
theorem tw_49 : (Cond.classLink "MownMaze" 18 "MownMaze$Tokens" : Cond) ∈ WS := ws_t (tb_1 (List.mem_of_getElem? (i := 49) rfl)) rfl
set_option maxRecDepth 20000 in
theorem tw_50 : (Cond.instantiable "MownMaze$Tokens" 7 : Cond) ∈ WS := ws_t (tb_1 (List.mem_of_getElem? (i := 50) rfl)) rfl
set_option maxRecDepth 20000 in
theorem tw_51 : (Cond.methodLink "MownMaze" 20 ⟨"MownMaze$Tokens", "<init>", "(LMownMaze$Tape;)V"⟩ : Cond) ∈ WS := ws_t (tb_1 (List.mem_of_getElem? (i := 51) rfl)) rfl
set_option maxRecDepth 20000 in
theorem tw_52 : (Cond.instanceMethod ⟨"MownMaze$Tokens", "<init>", "(LMownMaze$Tape;)V"⟩ : Cond) ∈ WS := ws_t (tb_1 (List.mem_of_getElem? (i := 52) rfl)) rfl
set_option maxRecDepth 20000 in
theorem tw_53 : (Cond.code ⟨"MownMaze$Tokens", "<init>", "(LMownMaze$Tape;)V"⟩ prog_9_method_1_code 2 none : Cond) ∈ WS := ws_t (tb_1 (List.mem_of_getElem? (i := 53) rfl)) rfl
set_option maxRecDepth 20000 in
theorem tw_54 : (Cond.methodLink "MownMaze$Tokens" 3 ⟨"java/lang/Object", "<init>", "()V"⟩ : Cond) ∈ WS := ws_t (tb_1 (List.mem_of_getElem? (i := 54) rfl)) rfl
set_option maxRecDepth 20000 in
theorem tw_55 : (Cond.fieldLink "MownMaze$Tokens" 9 "MownMaze$Tokens" "tape" "LMownMaze$Tape;" : Cond) ∈ WS := ws_t (tb_1 (List.mem_of_getElem? (i := 55) rfl)) rfl
set_option maxRecDepth 20000 in
theorem tw_56 : (Cond.fieldLink "MownMaze$Tokens" 38 "MownMaze$Tokens" "end" "I" : Cond) ∈ WS := ws_t (tb_1 (List.mem_of_getElem? (i := 56) rfl)) rfl
set_option maxRecDepth 20000 in
theorem tw_57 : (Cond.fieldLink "MownMaze$Tokens" 29 "MownMaze$Tokens" "next" "I" : Cond) ∈ WS := ws_t (tb_1 (List.mem_of_getElem? (i := 57) rfl)) rfl
set_option maxRecDepth 20000 in
theorem tw_58 : (Cond.fieldLink "MownMaze$Tokens" 15 "MownMaze$Tokens" "kind" "I" : Cond) ∈ WS := ws_t (tb_1 (List.mem_of_getElem? (i := 58) rfl)) rfl
set_option maxRecDepth 20000 in
theorem tw_59 : (Cond.fieldLink "MownMaze$Tokens" 19 "MownMaze$Tokens" "start" "I" : Cond) ∈ WS := ws_t (tb_1 (List.mem_of_getElem? (i := 59) rfl)) rfl
set_option maxRecDepth 20000 in
theorem tw_60 : (Cond.fieldLink "MownMaze$Tokens" 22 "MownMaze$Tokens" "value" "I" : Cond) ∈ WS := ws_t (tb_1 (List.mem_of_getElem? (i := 60) rfl)) rfl
set_option maxRecDepth 20000 in
theorem tw_61 : (Cond.fieldLink "MownMaze$Tokens" 25 "MownMaze$Tokens" "code" "J" : Cond) ∈ WS := ws_t (tb_1 (List.mem_of_getElem? (i := 61) rfl)) rfl
set_option maxRecDepth 20000 in
theorem tw_62 : (Cond.laysFinal "MownMaze$Tokens" "MownMaze$Tokens" "tape" "LMownMaze$Tape;" : Cond) ∈ WS := ws_t (tb_1 (List.mem_of_getElem? (i := 62) rfl)) rfl
set_option maxRecDepth 20000 in
theorem tw_64 : (Cond.lays "MownMaze$Tokens" "MownMaze$Tokens" "end" "I" : Cond) ∈ WS := ws_t (tb_1 (List.mem_of_getElem? (i := 64) rfl)) rfl
set_option maxRecDepth 20000 in
theorem tw_66 : (Cond.lays "MownMaze$Tokens" "MownMaze$Tokens" "next" "I" : Cond) ∈ WS := ws_t (tb_1 (List.mem_of_getElem? (i := 66) rfl)) rfl
set_option maxRecDepth 20000 in
theorem tw_68 : (Cond.lays "MownMaze$Tokens" "MownMaze$Tokens" "kind" "I" : Cond) ∈ WS := ws_t (tb_1 (List.mem_of_getElem? (i := 68) rfl)) rfl
set_option maxRecDepth 20000 in
theorem tw_70 : (Cond.lays "MownMaze$Tokens" "MownMaze$Tokens" "start" "I" : Cond) ∈ WS := ws_t (tb_1 (List.mem_of_getElem? (i := 70) rfl)) rfl
set_option maxRecDepth 20000 in
theorem tw_72 : (Cond.lays "MownMaze$Tokens" "MownMaze$Tokens" "value" "I" : Cond) ∈ WS := ws_t (tb_1 (List.mem_of_getElem? (i := 72) rfl)) rfl
set_option maxRecDepth 20000 in
theorem tw_74 : (Cond.lays "MownMaze$Tokens" "MownMaze$Tokens" "code" "J" : Cond) ∈ WS := ws_t (tb_1 (List.mem_of_getElem? (i := 74) rfl)) rfl
set_option maxRecDepth 20000 in
theorem tw_76 : (Cond.superclass "MownMaze$Tokens" "java/lang/Object" : Cond) ∈ WS := ws_t (tb_1 (List.mem_of_getElem? (i := 76) rfl)) rfl
set_option maxRecDepth 20000 in
theorem tw_77 : (Cond.methodLink "MownMaze" 23 ⟨"MownMaze$Reader", "<init>", "(LMownMaze$Tokens;)V"⟩ : Cond) ∈ WS := ws_t (tb_1 (List.mem_of_getElem? (i := 77) rfl)) rfl
set_option maxRecDepth 20000 in
theorem tw_78 : (Cond.instanceMethod ⟨"MownMaze$Reader", "<init>", "(LMownMaze$Tokens;)V"⟩ : Cond) ∈ WS := ws_t (tb_1 (List.mem_of_getElem? (i := 78) rfl)) rfl
set_option maxRecDepth 20000 in
theorem tw_79 : (Cond.code ⟨"MownMaze$Reader", "<init>", "(LMownMaze$Tokens;)V"⟩ prog_6_method_1_code 2 none : Cond) ∈ WS := ws_t (tb_1 (List.mem_of_getElem? (i := 79) rfl)) rfl
set_option maxRecDepth 20000 in
theorem tw_80 : (Cond.methodLink "MownMaze$Reader" 3 ⟨"java/lang/Object", "<init>", "()V"⟩ : Cond) ∈ WS := ws_t (tb_1 (List.mem_of_getElem? (i := 80) rfl)) rfl
set_option maxRecDepth 20000 in
theorem tw_81 : (Cond.fieldLink "MownMaze$Reader" 9 "MownMaze$Reader" "tokens" "LMownMaze$Tokens;" : Cond) ∈ WS := ws_t (tb_1 (List.mem_of_getElem? (i := 81) rfl)) rfl
set_option maxRecDepth 20000 in
theorem tw_82 : (Cond.fieldLink "MownMaze$Reader" 15 "MownMaze$Reader" "fault" "I" : Cond) ∈ WS := ws_t (tb_1 (List.mem_of_getElem? (i := 82) rfl)) rfl
set_option maxRecDepth 20000 in
theorem tw_83 : (Cond.fieldLink "MownMaze$Reader" 19 "MownMaze$Reader" "faultPlace" "I" : Cond) ∈ WS := ws_t (tb_1 (List.mem_of_getElem? (i := 83) rfl)) rfl
set_option maxRecDepth 20000 in
theorem tw_84 : (Cond.fieldLink "MownMaze$Reader" 106 "MownMaze$Reader" "number" "I" : Cond) ∈ WS := ws_t (tb_1 (List.mem_of_getElem? (i := 84) rfl)) rfl
set_option maxRecDepth 20000 in
theorem tw_85 : (Cond.fieldLink "MownMaze$Reader" 156 "MownMaze$Reader" "cell" "I" : Cond) ∈ WS := ws_t (tb_1 (List.mem_of_getElem? (i := 85) rfl)) rfl
set_option maxRecDepth 20000 in
theorem tw_86 : (Cond.fieldLink "MownMaze$Reader" 163 "MownMaze$Reader" "cellPlace" "I" : Cond) ∈ WS := ws_t (tb_1 (List.mem_of_getElem? (i := 86) rfl)) rfl
set_option maxRecDepth 20000 in
theorem tw_87 : (Cond.laysFinal "MownMaze$Reader" "MownMaze$Reader" "tokens" "LMownMaze$Tokens;" : Cond) ∈ WS := ws_t (tb_1 (List.mem_of_getElem? (i := 87) rfl)) rfl
set_option maxRecDepth 20000 in
theorem tw_89 : (Cond.lays "MownMaze$Reader" "MownMaze$Reader" "fault" "I" : Cond) ∈ WS := ws_t (tb_1 (List.mem_of_getElem? (i := 89) rfl)) rfl
set_option maxRecDepth 20000 in
theorem tw_91 : (Cond.lays "MownMaze$Reader" "MownMaze$Reader" "faultPlace" "I" : Cond) ∈ WS := ws_t (tb_1 (List.mem_of_getElem? (i := 91) rfl)) rfl
set_option maxRecDepth 20000 in
theorem tw_93 : (Cond.lays "MownMaze$Reader" "MownMaze$Reader" "number" "I" : Cond) ∈ WS := ws_t (tb_1 (List.mem_of_getElem? (i := 93) rfl)) rfl
set_option maxRecDepth 20000 in
theorem tw_95 : (Cond.lays "MownMaze$Reader" "MownMaze$Reader" "cell" "I" : Cond) ∈ WS := ws_t (tb_1 (List.mem_of_getElem? (i := 95) rfl)) rfl
set_option maxRecDepth 20000 in
theorem tw_97 : (Cond.lays "MownMaze$Reader" "MownMaze$Reader" "cellPlace" "I" : Cond) ∈ WS := ws_t (tb_1 (List.mem_of_getElem? (i := 97) rfl)) rfl
set_option maxRecDepth 20000 in
theorem tw_99 : (Cond.superclass "MownMaze$Reader" "java/lang/Object" : Cond) ∈ WS := ws_t (tb_1 (List.mem_of_getElem? (i := 99) rfl)) rfl
set_option maxRecDepth 20000 in
theorem tw_100 : (Cond.classLink "MownMaze" 30 "MownMaze$History" : Cond) ∈ WS := ws_t (tb_1 (List.mem_of_getElem? (i := 100) rfl)) rfl
set_option maxRecDepth 20000 in
theorem tw_101 : (Cond.instantiable "MownMaze$History" 6 : Cond) ∈ WS := ws_t (tb_1 (List.mem_of_getElem? (i := 101) rfl)) rfl
set_option maxRecDepth 20000 in
theorem tw_103 : (Cond.instanceMethod ⟨"MownMaze$History", "<init>", "()V"⟩ : Cond) ∈ WS := ws_t (tb_1 (List.mem_of_getElem? (i := 103) rfl)) rfl
set_option maxRecDepth 20000 in
theorem tw_104 : (Cond.code ⟨"MownMaze$History", "<init>", "()V"⟩ prog_3_method_1_code 1 none : Cond) ∈ WS := ws_t (tb_1 (List.mem_of_getElem? (i := 104) rfl)) rfl
set_option maxRecDepth 20000 in
theorem tw_105 : (Cond.methodLink "MownMaze$History" 3 ⟨"java/lang/Object", "<init>", "()V"⟩ : Cond) ∈ WS := ws_t (tb_1 (List.mem_of_getElem? (i := 105) rfl)) rfl
set_option maxRecDepth 20000 in
theorem tw_106 : (Cond.fieldLink "MownMaze$History" 11 "MownMaze$History" "actCells" "[J" : Cond) ∈ WS := ws_t (tb_1 (List.mem_of_getElem? (i := 106) rfl)) rfl
set_option maxRecDepth 20000 in
theorem tw_107 : (Cond.fieldLink "MownMaze$History" 15 "MownMaze$History" "actSeeds" "[I" : Cond) ∈ WS := ws_t (tb_1 (List.mem_of_getElem? (i := 107) rfl)) rfl
set_option maxRecDepth 20000 in
theorem tw_108 : (Cond.fieldLink "MownMaze$History" 19 "MownMaze$History" "markCells" "[J" : Cond) ∈ WS := ws_t (tb_1 (List.mem_of_getElem? (i := 108) rfl)) rfl
set_option maxRecDepth 20000 in
theorem tw_109 : (Cond.fieldLink "MownMaze$History" 22 "MownMaze$History" "markSeeds" "[I" : Cond) ∈ WS := ws_t (tb_1 (List.mem_of_getElem? (i := 109) rfl)) rfl
set_option maxRecDepth 20000 in
theorem tw_110 : (Cond.fieldLink "MownMaze$History" 25 "MownMaze$History" "acts" "I" : Cond) ∈ WS := ws_t (tb_1 (List.mem_of_getElem? (i := 110) rfl)) rfl
set_option maxRecDepth 20000 in
theorem tw_111 : (Cond.fieldLink "MownMaze$History" 29 "MownMaze$History" "marks" "I" : Cond) ∈ WS := ws_t (tb_1 (List.mem_of_getElem? (i := 111) rfl)) rfl
set_option maxRecDepth 20000 in
theorem tw_112 : (Cond.laysFinal "MownMaze$History" "MownMaze$History" "actCells" "[J" : Cond) ∈ WS := ws_t (tb_1 (List.mem_of_getElem? (i := 112) rfl)) rfl
set_option maxRecDepth 20000 in
theorem tw_114 : (Cond.laysFinal "MownMaze$History" "MownMaze$History" "actSeeds" "[I" : Cond) ∈ WS := ws_t (tb_1 (List.mem_of_getElem? (i := 114) rfl)) rfl
set_option maxRecDepth 20000 in
theorem tw_116 : (Cond.laysFinal "MownMaze$History" "MownMaze$History" "markCells" "[J" : Cond) ∈ WS := ws_t (tb_1 (List.mem_of_getElem? (i := 116) rfl)) rfl
set_option maxRecDepth 20000 in
theorem tw_118 : (Cond.laysFinal "MownMaze$History" "MownMaze$History" "markSeeds" "[I" : Cond) ∈ WS := ws_t (tb_1 (List.mem_of_getElem? (i := 118) rfl)) rfl
set_option maxRecDepth 20000 in
theorem tw_120 : (Cond.lays "MownMaze$History" "MownMaze$History" "acts" "I" : Cond) ∈ WS := ws_t (tb_1 (List.mem_of_getElem? (i := 120) rfl)) rfl
set_option maxRecDepth 20000 in
theorem tw_122 : (Cond.lays "MownMaze$History" "MownMaze$History" "marks" "I" : Cond) ∈ WS := ws_t (tb_1 (List.mem_of_getElem? (i := 122) rfl)) rfl
set_option maxRecDepth 20000 in
theorem tw_124 : (Cond.superclass "MownMaze$History" "java/lang/Object" : Cond) ∈ WS := ws_t (tb_1 (List.mem_of_getElem? (i := 124) rfl)) rfl
set_option maxRecDepth 20000 in
theorem tw_125 : (Cond.arrayClass FieldType.long : Cond) ∈ WS := ws_t (tb_1 (List.mem_of_getElem? (i := 125) rfl)) rfl
set_option maxRecDepth 20000 in
theorem tw_126 : (Cond.arrayClass FieldType.int : Cond) ∈ WS := ws_t (tb_1 (List.mem_of_getElem? (i := 126) rfl)) rfl
set_option maxRecDepth 20000 in
theorem tw_127 : (Cond.classLink "MownMaze" 37 "MownMaze$Scythe" : Cond) ∈ WS := ws_t (tb_1 (List.mem_of_getElem? (i := 127) rfl)) rfl
set_option maxRecDepth 20000 in
theorem tw_128 : (Cond.instantiable "MownMaze$Scythe" 3 : Cond) ∈ WS := ws_t (tb_1 (List.mem_of_getElem? (i := 128) rfl)) rfl
set_option maxRecDepth 20000 in
theorem tw_130 : (Cond.instanceMethod ⟨"MownMaze$Scythe", "<init>", "()V"⟩ : Cond) ∈ WS := ws_t (tb_1 (List.mem_of_getElem? (i := 130) rfl)) rfl
set_option maxRecDepth 20000 in
theorem tw_131 : (Cond.code ⟨"MownMaze$Scythe", "<init>", "()V"⟩ prog_7_method_1_code 1 none : Cond) ∈ WS := ws_t (tb_1 (List.mem_of_getElem? (i := 131) rfl)) rfl
set_option maxRecDepth 20000 in
theorem tw_132 : (Cond.methodLink "MownMaze$Scythe" 3 ⟨"java/lang/Object", "<init>", "()V"⟩ : Cond) ∈ WS := ws_t (tb_1 (List.mem_of_getElem? (i := 132) rfl)) rfl
set_option maxRecDepth 20000 in
theorem tw_133 : (Cond.fieldLink "MownMaze$Scythe" 9 "MownMaze$Scythe" "besides" "[I" : Cond) ∈ WS := ws_t (tb_1 (List.mem_of_getElem? (i := 133) rfl)) rfl
set_option maxRecDepth 20000 in
theorem tw_134 : (Cond.fieldLink "MownMaze$Scythe" 15 "MownMaze$Scythe" "fewest" "[I" : Cond) ∈ WS := ws_t (tb_1 (List.mem_of_getElem? (i := 134) rfl)) rfl
set_option maxRecDepth 20000 in
theorem tw_135 : (Cond.fieldLink "MownMaze$Scythe" 18 "MownMaze$Scythe" "lasts" "[I" : Cond) ∈ WS := ws_t (tb_1 (List.mem_of_getElem? (i := 135) rfl)) rfl
set_option maxRecDepth 20000 in
theorem tw_136 : (Cond.laysFinal "MownMaze$Scythe" "MownMaze$Scythe" "besides" "[I" : Cond) ∈ WS := ws_t (tb_1 (List.mem_of_getElem? (i := 136) rfl)) rfl
set_option maxRecDepth 20000 in
theorem tw_138 : (Cond.laysFinal "MownMaze$Scythe" "MownMaze$Scythe" "fewest" "[I" : Cond) ∈ WS := ws_t (tb_1 (List.mem_of_getElem? (i := 138) rfl)) rfl
set_option maxRecDepth 20000 in
theorem tw_140 : (Cond.laysFinal "MownMaze$Scythe" "MownMaze$Scythe" "lasts" "[I" : Cond) ∈ WS := ws_t (tb_1 (List.mem_of_getElem? (i := 140) rfl)) rfl
set_option maxRecDepth 20000 in
theorem tw_142 : (Cond.superclass "MownMaze$Scythe" "java/lang/Object" : Cond) ∈ WS := ws_t (tb_1 (List.mem_of_getElem? (i := 142) rfl)) rfl
set_option maxRecDepth 20000 in
theorem tw_143 : (Cond.classLink "MownMaze" 44 "MownMaze$Plan" : Cond) ∈ WS := ws_t (tb_1 (List.mem_of_getElem? (i := 143) rfl)) rfl
set_option maxRecDepth 20000 in
theorem tw_144 : (Cond.instantiable "MownMaze$Plan" 16 : Cond) ∈ WS := ws_t (tb_1 (List.mem_of_getElem? (i := 144) rfl)) rfl
set_option maxRecDepth 20000 in
theorem tw_145 : (Cond.methodLink "MownMaze" 46 ⟨"MownMaze$Plan", "<init>", "()V"⟩ : Cond) ∈ WS := ws_t (tb_1 (List.mem_of_getElem? (i := 145) rfl)) rfl
set_option maxRecDepth 20000 in
theorem tw_146 : (Cond.instanceMethod ⟨"MownMaze$Plan", "<init>", "()V"⟩ : Cond) ∈ WS := ws_t (tb_1 (List.mem_of_getElem? (i := 146) rfl)) rfl
set_option maxRecDepth 20000 in
theorem tw_147 : (Cond.code ⟨"MownMaze$Plan", "<init>", "()V"⟩ prog_5_method_1_code 2 none : Cond) ∈ WS := ws_t (tb_1 (List.mem_of_getElem? (i := 147) rfl)) rfl
set_option maxRecDepth 20000 in
theorem tw_148 : (Cond.methodLink "MownMaze$Plan" 3 ⟨"java/lang/Object", "<init>", "()V"⟩ : Cond) ∈ WS := ws_t (tb_1 (List.mem_of_getElem? (i := 148) rfl)) rfl
set_option maxRecDepth 20000 in
theorem tw_149 : (Cond.classLink "MownMaze$Plan" 9 "MownMaze$Ground" : Cond) ∈ WS := ws_t (tb_1 (List.mem_of_getElem? (i := 149) rfl)) rfl
set_option maxRecDepth 20000 in
theorem tw_150 : (Cond.instantiable "MownMaze$Ground" 7 : Cond) ∈ WS := ws_t (tb_1 (List.mem_of_getElem? (i := 150) rfl)) rfl
set_option maxRecDepth 20000 in
theorem tw_152 : (Cond.instanceMethod ⟨"MownMaze$Ground", "<init>", "()V"⟩ : Cond) ∈ WS := ws_t (tb_1 (List.mem_of_getElem? (i := 152) rfl)) rfl
set_option maxRecDepth 20000 in
theorem tw_153 : (Cond.code ⟨"MownMaze$Ground", "<init>", "()V"⟩ prog_2_method_1_code 1 none : Cond) ∈ WS := ws_t (tb_1 (List.mem_of_getElem? (i := 153) rfl)) rfl
set_option maxRecDepth 20000 in
theorem tw_154 : (Cond.methodLink "MownMaze$Ground" 3 ⟨"java/lang/Object", "<init>", "()V"⟩ : Cond) ∈ WS := ws_t (tb_1 (List.mem_of_getElem? (i := 154) rfl)) rfl
set_option maxRecDepth 20000 in
theorem tw_155 : (Cond.fieldLink "MownMaze$Ground" 9 "MownMaze$Ground" "cellsTo" "[I" : Cond) ∈ WS := ws_t (tb_1 (List.mem_of_getElem? (i := 155) rfl)) rfl
set_option maxRecDepth 20000 in
theorem tw_156 : (Cond.fieldLink "MownMaze$Ground" 15 "MownMaze$Ground" "wide" "I" : Cond) ∈ WS := ws_t (tb_1 (List.mem_of_getElem? (i := 156) rfl)) rfl
set_option maxRecDepth 20000 in
theorem tw_159 : (Cond.fieldLink "MownMaze$Ground" 19 "MownMaze$Ground" "high" "I" : Cond) ∈ WS := ws_t (tb_1 (List.mem_of_getElem? (i := 159) rfl)) rfl
set_option maxRecDepth 20000 in
theorem tw_162 : (Cond.fieldLink "MownMaze$Ground" 22 "MownMaze$Ground" "count" "I" : Cond) ∈ WS := ws_t (tb_1 (List.mem_of_getElem? (i := 162) rfl)) rfl
set_option maxRecDepth 20000 in
theorem tw_165 : (Cond.fieldLink "MownMaze$Ground" 29 "MownMaze$Ground" "all" "J" : Cond) ∈ WS := ws_t (tb_1 (List.mem_of_getElem? (i := 165) rfl)) rfl
set_option maxRecDepth 20000 in
theorem tw_167 : (Cond.fieldLink "MownMaze$Ground" 33 "MownMaze$Ground" "firstColumn" "J" : Cond) ∈ WS := ws_t (tb_1 (List.mem_of_getElem? (i := 167) rfl)) rfl
set_option maxRecDepth 20000 in
theorem tw_168 : (Cond.fieldLink "MownMaze$Ground" 36 "MownMaze$Ground" "lastColumn" "J" : Cond) ∈ WS := ws_t (tb_1 (List.mem_of_getElem? (i := 168) rfl)) rfl
set_option maxRecDepth 20000 in
theorem tw_169 : (Cond.laysFinal "MownMaze$Ground" "MownMaze$Ground" "cellsTo" "[I" : Cond) ∈ WS := ws_t (tb_1 (List.mem_of_getElem? (i := 169) rfl)) rfl
set_option maxRecDepth 20000 in
theorem tw_171 : (Cond.lays "MownMaze$Ground" "MownMaze$Ground" "wide" "I" : Cond) ∈ WS := ws_t (tb_1 (List.mem_of_getElem? (i := 171) rfl)) rfl
set_option maxRecDepth 20000 in
theorem tw_173 : (Cond.lays "MownMaze$Ground" "MownMaze$Ground" "high" "I" : Cond) ∈ WS := ws_t (tb_1 (List.mem_of_getElem? (i := 173) rfl)) rfl
set_option maxRecDepth 20000 in
theorem tw_175 : (Cond.lays "MownMaze$Ground" "MownMaze$Ground" "count" "I" : Cond) ∈ WS := ws_t (tb_1 (List.mem_of_getElem? (i := 175) rfl)) rfl
set_option maxRecDepth 20000 in
theorem tw_177 : (Cond.lays "MownMaze$Ground" "MownMaze$Ground" "all" "J" : Cond) ∈ WS := ws_t (tb_1 (List.mem_of_getElem? (i := 177) rfl)) rfl
set_option maxRecDepth 20000 in
theorem tw_179 : (Cond.lays "MownMaze$Ground" "MownMaze$Ground" "firstColumn" "J" : Cond) ∈ WS := ws_t (tb_1 (List.mem_of_getElem? (i := 179) rfl)) rfl
set_option maxRecDepth 20000 in
theorem tw_181 : (Cond.lays "MownMaze$Ground" "MownMaze$Ground" "lastColumn" "J" : Cond) ∈ WS := ws_t (tb_1 (List.mem_of_getElem? (i := 181) rfl)) rfl
set_option maxRecDepth 20000 in
theorem tw_183 : (Cond.superclass "MownMaze$Ground" "java/lang/Object" : Cond) ∈ WS := ws_t (tb_1 (List.mem_of_getElem? (i := 183) rfl)) rfl
set_option maxRecDepth 20000 in
theorem tw_184 : (Cond.classLink "MownMaze$Plan" 18 "MownMaze$Picture" : Cond) ∈ WS := ws_t (tb_1 (List.mem_of_getElem? (i := 184) rfl)) rfl
set_option maxRecDepth 20000 in
theorem tw_185 : (Cond.instantiable "MownMaze$Picture" 3 : Cond) ∈ WS := ws_t (tb_1 (List.mem_of_getElem? (i := 185) rfl)) rfl
set_option maxRecDepth 20000 in
theorem tw_187 : (Cond.instanceMethod ⟨"MownMaze$Picture", "<init>", "()V"⟩ : Cond) ∈ WS := ws_t (tb_1 (List.mem_of_getElem? (i := 187) rfl)) rfl
set_option maxRecDepth 20000 in
theorem tw_188 : (Cond.code ⟨"MownMaze$Picture", "<init>", "()V"⟩ prog_4_method_1_code 1 none : Cond) ∈ WS := ws_t (tb_1 (List.mem_of_getElem? (i := 188) rfl)) rfl
set_option maxRecDepth 20000 in
theorem tw_189 : (Cond.methodLink "MownMaze$Picture" 1 ⟨"java/lang/Object", "<init>", "()V"⟩ : Cond) ∈ WS := ws_t (tb_1 (List.mem_of_getElem? (i := 189) rfl)) rfl
set_option maxRecDepth 20000 in
theorem tw_190 : (Cond.fieldLink "MownMaze$Picture" 7 "MownMaze$Picture" "mownCells" "J" : Cond) ∈ WS := ws_t (tb_1 (List.mem_of_getElem? (i := 190) rfl)) rfl
set_option maxRecDepth 20000 in
theorem tw_192 : (Cond.fieldLink "MownMaze$Picture" 13 "MownMaze$Picture" "standingCells" "J" : Cond) ∈ WS := ws_t (tb_1 (List.mem_of_getElem? (i := 192) rfl)) rfl
set_option maxRecDepth 20000 in
theorem tw_194 : (Cond.fieldLink "MownMaze$Picture" 16 "MownMaze$Picture" "lineCount" "I" : Cond) ∈ WS := ws_t (tb_1 (List.mem_of_getElem? (i := 194) rfl)) rfl
set_option maxRecDepth 20000 in
theorem tw_197 : (Cond.lays "MownMaze$Picture" "MownMaze$Picture" "mownCells" "J" : Cond) ∈ WS := ws_t (tb_1 (List.mem_of_getElem? (i := 197) rfl)) rfl
set_option maxRecDepth 20000 in
theorem tw_199 : (Cond.lays "MownMaze$Picture" "MownMaze$Picture" "standingCells" "J" : Cond) ∈ WS := ws_t (tb_1 (List.mem_of_getElem? (i := 199) rfl)) rfl
set_option maxRecDepth 20000 in
theorem tw_201 : (Cond.lays "MownMaze$Picture" "MownMaze$Picture" "lineCount" "I" : Cond) ∈ WS := ws_t (tb_1 (List.mem_of_getElem? (i := 201) rfl)) rfl
set_option maxRecDepth 20000 in
theorem tw_203 : (Cond.superclass "MownMaze$Picture" "java/lang/Object" : Cond) ∈ WS := ws_t (tb_1 (List.mem_of_getElem? (i := 203) rfl)) rfl
set_option maxRecDepth 20000 in
theorem tw_204 : (Cond.classLink "MownMaze$Plan" 41 "MownMaze$Walker" : Cond) ∈ WS := ws_t (tb_1 (List.mem_of_getElem? (i := 204) rfl)) rfl
set_option maxRecDepth 20000 in
theorem tw_206 : (Cond.instantiable "MownMaze$Walker" 5 : Cond) ∈ WS := ws_t (tb_1 (List.mem_of_getElem? (i := 206) rfl)) rfl
set_option maxRecDepth 20000 in
theorem tw_208 : (Cond.instanceMethod ⟨"MownMaze$Walker", "<init>", "()V"⟩ : Cond) ∈ WS := ws_t (tb_1 (List.mem_of_getElem? (i := 208) rfl)) rfl
set_option maxRecDepth 20000 in
theorem tw_209 : (Cond.code ⟨"MownMaze$Walker", "<init>", "()V"⟩ prog_11_method_1_code 1 none : Cond) ∈ WS := ws_t (tb_1 (List.mem_of_getElem? (i := 209) rfl)) rfl
set_option maxRecDepth 20000 in
theorem tw_210 : (Cond.methodLink "MownMaze$Walker" 1 ⟨"java/lang/Object", "<init>", "()V"⟩ : Cond) ∈ WS := ws_t (tb_1 (List.mem_of_getElem? (i := 210) rfl)) rfl
set_option maxRecDepth 20000 in
theorem tw_221 : (Cond.lays "MownMaze$Walker" "MownMaze$Walker" "name" "J" : Cond) ∈ WS := ws_t (tb_1 (List.mem_of_getElem? (i := 221) rfl)) rfl
set_option maxRecDepth 20000 in
theorem tw_223 : (Cond.lays "MownMaze$Walker" "MownMaze$Walker" "kind" "I" : Cond) ∈ WS := ws_t (tb_1 (List.mem_of_getElem? (i := 223) rfl)) rfl
set_option maxRecDepth 20000 in
theorem tw_225 : (Cond.lays "MownMaze$Walker" "MownMaze$Walker" "cell" "I" : Cond) ∈ WS := ws_t (tb_1 (List.mem_of_getElem? (i := 225) rfl)) rfl
set_option maxRecDepth 20000 in
theorem tw_227 : (Cond.lays "MownMaze$Walker" "MownMaze$Walker" "side" "I" : Cond) ∈ WS := ws_t (tb_1 (List.mem_of_getElem? (i := 227) rfl)) rfl
set_option maxRecDepth 20000 in
theorem tw_229 : (Cond.lays "MownMaze$Walker" "MownMaze$Walker" "leaves" "I" : Cond) ∈ WS := ws_t (tb_1 (List.mem_of_getElem? (i := 229) rfl)) rfl
set_option maxRecDepth 20000 in
theorem tw_231 : (Cond.superclass "MownMaze$Walker" "java/lang/Object" : Cond) ∈ WS := ws_t (tb_1 (List.mem_of_getElem? (i := 231) rfl)) rfl
set_option maxRecDepth 20000 in
theorem tw_232 : (Cond.fieldLink "MownMaze$Plan" 12 "MownMaze$Plan" "ground" "LMownMaze$Ground;" : Cond) ∈ WS := ws_t (tb_1 (List.mem_of_getElem? (i := 232) rfl)) rfl
set_option maxRecDepth 20000 in
theorem tw_236 : (Cond.fieldLink "MownMaze$Plan" 21 "MownMaze$Plan" "rows" "LMownMaze$Picture;" : Cond) ∈ WS := ws_t (tb_1 (List.mem_of_getElem? (i := 236) rfl)) rfl
set_option maxRecDepth 20000 in
theorem tw_239 : (Cond.fieldLink "MownMaze$Plan" 25 "MownMaze$Plan" "wants" "LMownMaze$Picture;" : Cond) ∈ WS := ws_t (tb_1 (List.mem_of_getElem? (i := 239) rfl)) rfl
set_option maxRecDepth 20000 in
theorem tw_242 : (Cond.fieldLink "MownMaze$Plan" 28 "MownMaze$Plan" "moons" "LMownMaze$Picture;" : Cond) ∈ WS := ws_t (tb_2 (List.mem_of_getElem? (i := 2) rfl)) rfl
set_option maxRecDepth 20000 in
theorem tw_245 : (Cond.fieldLink "MownMaze$Plan" 31 "MownMaze$Plan" "gates" "[I" : Cond) ∈ WS := ws_t (tb_2 (List.mem_of_getElem? (i := 5) rfl)) rfl
set_option maxRecDepth 20000 in
theorem tw_246 : (Cond.fieldLink "MownMaze$Plan" 35 "MownMaze$Plan" "spots" "[I" : Cond) ∈ WS := ws_t (tb_2 (List.mem_of_getElem? (i := 6) rfl)) rfl
set_option maxRecDepth 20000 in
theorem tw_247 : (Cond.fieldLink "MownMaze$Plan" 38 "MownMaze$Plan" "spotSteps" "[I" : Cond) ∈ WS := ws_t (tb_2 (List.mem_of_getElem? (i := 7) rfl)) rfl
set_option maxRecDepth 20000 in
theorem tw_248 : (Cond.fieldLink "MownMaze$Plan" 43 "MownMaze$Plan" "walkers" "[LMownMaze$Walker;" : Cond) ∈ WS := ws_t (tb_2 (List.mem_of_getElem? (i := 8) rfl)) rfl
set_option maxRecDepth 20000 in
theorem tw_249 : (Cond.fieldLink "MownMaze$Plan" 72 "MownMaze$Plan" "dusk" "I" : Cond) ∈ WS := ws_t (tb_2 (List.mem_of_getElem? (i := 9) rfl)) rfl
set_option maxRecDepth 20000 in
theorem tw_252 : (Cond.fieldLink "MownMaze$Plan" 75 "MownMaze$Plan" "pays" "I" : Cond) ∈ WS := ws_t (tb_2 (List.mem_of_getElem? (i := 12) rfl)) rfl
set_option maxRecDepth 20000 in
theorem tw_254 : (Cond.fieldLink "MownMaze$Plan" 78 "MownMaze$Plan" "shuts" "I" : Cond) ∈ WS := ws_t (tb_2 (List.mem_of_getElem? (i := 14) rfl)) rfl
set_option maxRecDepth 20000 in
theorem tw_256 : (Cond.fieldLink "MownMaze$Plan" 59 "MownMaze$Plan" "gateCount" "I" : Cond) ∈ WS := ws_t (tb_2 (List.mem_of_getElem? (i := 16) rfl)) rfl
set_option maxRecDepth 20000 in
theorem tw_258 : (Cond.fieldLink "MownMaze$Plan" 62 "MownMaze$Plan" "gateCells" "J" : Cond) ∈ WS := ws_t (tb_2 (List.mem_of_getElem? (i := 18) rfl)) rfl
set_option maxRecDepth 20000 in
theorem tw_262 : (Cond.fieldLink "MownMaze$Plan" 48 "MownMaze$Plan" "noise" "I" : Cond) ∈ WS := ws_t (tb_2 (List.mem_of_getElem? (i := 22) rfl)) rfl
set_option maxRecDepth 20000 in
theorem tw_265 : (Cond.fieldLink "MownMaze$Plan" 66 "MownMaze$Plan" "heardCount" "I" : Cond) ∈ WS := ws_t (tb_2 (List.mem_of_getElem? (i := 25) rfl)) rfl
set_option maxRecDepth 20000 in
theorem tw_267 : (Cond.fieldLink "MownMaze$Plan" 69 "MownMaze$Plan" "walkerCount" "I" : Cond) ∈ WS := ws_t (tb_2 (List.mem_of_getElem? (i := 27) rfl)) rfl
set_option maxRecDepth 20000 in
theorem tw_269 : (Cond.laysFinal "MownMaze$Plan" "MownMaze$Plan" "ground" "LMownMaze$Ground;" : Cond) ∈ WS := ws_t (tb_2 (List.mem_of_getElem? (i := 29) rfl)) rfl
set_option maxRecDepth 20000 in
theorem tw_271 : (Cond.laysFinal "MownMaze$Plan" "MownMaze$Plan" "rows" "LMownMaze$Picture;" : Cond) ∈ WS := ws_t (tb_2 (List.mem_of_getElem? (i := 31) rfl)) rfl
set_option maxRecDepth 20000 in
theorem tw_273 : (Cond.laysFinal "MownMaze$Plan" "MownMaze$Plan" "wants" "LMownMaze$Picture;" : Cond) ∈ WS := ws_t (tb_2 (List.mem_of_getElem? (i := 33) rfl)) rfl
set_option maxRecDepth 20000 in
theorem tw_275 : (Cond.laysFinal "MownMaze$Plan" "MownMaze$Plan" "moons" "LMownMaze$Picture;" : Cond) ∈ WS := ws_t (tb_2 (List.mem_of_getElem? (i := 35) rfl)) rfl
set_option maxRecDepth 20000 in
theorem tw_277 : (Cond.laysFinal "MownMaze$Plan" "MownMaze$Plan" "gates" "[I" : Cond) ∈ WS := ws_t (tb_2 (List.mem_of_getElem? (i := 37) rfl)) rfl
set_option maxRecDepth 20000 in
theorem tw_279 : (Cond.laysFinal "MownMaze$Plan" "MownMaze$Plan" "spots" "[I" : Cond) ∈ WS := ws_t (tb_2 (List.mem_of_getElem? (i := 39) rfl)) rfl
set_option maxRecDepth 20000 in
theorem tw_281 : (Cond.laysFinal "MownMaze$Plan" "MownMaze$Plan" "spotSteps" "[I" : Cond) ∈ WS := ws_t (tb_2 (List.mem_of_getElem? (i := 41) rfl)) rfl
set_option maxRecDepth 20000 in
theorem tw_283 : (Cond.laysFinal "MownMaze$Plan" "MownMaze$Plan" "walkers" "[LMownMaze$Walker;" : Cond) ∈ WS := ws_t (tb_2 (List.mem_of_getElem? (i := 43) rfl)) rfl
set_option maxRecDepth 20000 in
theorem tw_285 : (Cond.lays "MownMaze$Plan" "MownMaze$Plan" "dusk" "I" : Cond) ∈ WS := ws_t (tb_2 (List.mem_of_getElem? (i := 45) rfl)) rfl
set_option maxRecDepth 20000 in
theorem tw_287 : (Cond.lays "MownMaze$Plan" "MownMaze$Plan" "pays" "I" : Cond) ∈ WS := ws_t (tb_2 (List.mem_of_getElem? (i := 47) rfl)) rfl
set_option maxRecDepth 20000 in
theorem tw_289 : (Cond.lays "MownMaze$Plan" "MownMaze$Plan" "shuts" "I" : Cond) ∈ WS := ws_t (tb_2 (List.mem_of_getElem? (i := 49) rfl)) rfl
set_option maxRecDepth 20000 in
theorem tw_291 : (Cond.lays "MownMaze$Plan" "MownMaze$Plan" "gateCount" "I" : Cond) ∈ WS := ws_t (tb_2 (List.mem_of_getElem? (i := 51) rfl)) rfl
set_option maxRecDepth 20000 in
theorem tw_293 : (Cond.lays "MownMaze$Plan" "MownMaze$Plan" "gateCells" "J" : Cond) ∈ WS := ws_t (tb_2 (List.mem_of_getElem? (i := 53) rfl)) rfl
set_option maxRecDepth 20000 in
theorem tw_295 : (Cond.lays "MownMaze$Plan" "MownMaze$Plan" "noise" "I" : Cond) ∈ WS := ws_t (tb_2 (List.mem_of_getElem? (i := 55) rfl)) rfl
set_option maxRecDepth 20000 in
theorem tw_297 : (Cond.lays "MownMaze$Plan" "MownMaze$Plan" "heardCount" "I" : Cond) ∈ WS := ws_t (tb_2 (List.mem_of_getElem? (i := 57) rfl)) rfl
set_option maxRecDepth 20000 in
theorem tw_299 : (Cond.lays "MownMaze$Plan" "MownMaze$Plan" "walkerCount" "I" : Cond) ∈ WS := ws_t (tb_2 (List.mem_of_getElem? (i := 59) rfl)) rfl
set_option maxRecDepth 20000 in
theorem tw_301 : (Cond.superclass "MownMaze$Plan" "java/lang/Object" : Cond) ∈ WS := ws_t (tb_2 (List.mem_of_getElem? (i := 61) rfl)) rfl
set_option maxRecDepth 20000 in
theorem tw_302 : (Cond.classLink "MownMaze" 54 "MownMaze$Walk" : Cond) ∈ WS := ws_t (tb_2 (List.mem_of_getElem? (i := 62) rfl)) rfl
set_option maxRecDepth 20000 in
theorem tw_303 : (Cond.instantiable "MownMaze$Walk" 12 : Cond) ∈ WS := ws_t (tb_2 (List.mem_of_getElem? (i := 63) rfl)) rfl
set_option maxRecDepth 20000 in
theorem tw_304 : (Cond.methodLink "MownMaze" 56 ⟨"MownMaze$Walk", "<init>", "(LMownMaze$Plan;)V"⟩ : Cond) ∈ WS := ws_t (tb_2 (List.mem_of_getElem? (i := 64) rfl)) rfl
set_option maxRecDepth 20000 in
theorem tw_305 : (Cond.instanceMethod ⟨"MownMaze$Walk", "<init>", "(LMownMaze$Plan;)V"⟩ : Cond) ∈ WS := ws_t (tb_2 (List.mem_of_getElem? (i := 65) rfl)) rfl
set_option maxRecDepth 20000 in
theorem tw_306 : (Cond.code ⟨"MownMaze$Walk", "<init>", "(LMownMaze$Plan;)V"⟩ prog_10_method_1_code 2 none : Cond) ∈ WS := ws_t (tb_2 (List.mem_of_getElem? (i := 66) rfl)) rfl
set_option maxRecDepth 20000 in
theorem tw_307 : (Cond.methodLink "MownMaze$Walk" 3 ⟨"java/lang/Object", "<init>", "()V"⟩ : Cond) ∈ WS := ws_t (tb_2 (List.mem_of_getElem? (i := 67) rfl)) rfl
set_option maxRecDepth 20000 in
theorem tw_308 : (Cond.methodLink "MownMaze$Walk" 25 ⟨"MownMaze$Plan", "walker", "(I)LMownMaze$Walker;"⟩ : Cond) ∈ WS := ws_t (tb_2 (List.mem_of_getElem? (i := 68) rfl)) rfl
set_option maxRecDepth 20000 in
theorem tw_309 : (Cond.instanceMethod ⟨"MownMaze$Plan", "walker", "(I)LMownMaze$Walker;"⟩ : Cond) ∈ WS := ws_t (tb_2 (List.mem_of_getElem? (i := 69) rfl)) rfl
set_option maxRecDepth 20000 in
theorem tw_310 : (Cond.selects "MownMaze$Plan" ⟨"MownMaze$Plan", "walker", "(I)LMownMaze$Walker;"⟩ ⟨"MownMaze$Plan", "walker", "(I)LMownMaze$Walker;"⟩ : Cond) ∈ WS := ws_t (tb_2 (List.mem_of_getElem? (i := 70) rfl)) rfl
set_option maxRecDepth 20000 in
theorem tw_311 : (Cond.code ⟨"MownMaze$Plan", "walker", "(I)LMownMaze$Walker;"⟩ prog_5_method_15_code 2 (Option.some (FieldType.object "MownMaze$Walker")) : Cond) ∈ WS := ws_t (tb_2 (List.mem_of_getElem? (i := 71) rfl)) rfl
set_option maxRecDepth 20000 in
theorem tw_312 : (Cond.fieldLink "MownMaze$Walk" 9 "MownMaze$Walk" "track" "[I" : Cond) ∈ WS := ws_t (tb_2 (List.mem_of_getElem? (i := 72) rfl)) rfl
set_option maxRecDepth 20000 in
theorem tw_313 : (Cond.fieldLink "MownMaze$Walk" 15 "MownMaze$Walk" "cameFrom" "[I" : Cond) ∈ WS := ws_t (tb_2 (List.mem_of_getElem? (i := 73) rfl)) rfl
set_option maxRecDepth 20000 in
theorem tw_314 : (Cond.fieldLink "MownMaze$Walk" 18 "MownMaze$Walk" "stepsToNoise" "[I" : Cond) ∈ WS := ws_t (tb_2 (List.mem_of_getElem? (i := 74) rfl)) rfl
set_option maxRecDepth 20000 in
theorem tw_315 : (Cond.fieldLink "MownMaze$Walk" 21 "MownMaze$Walk" "plan" "LMownMaze$Plan;" : Cond) ∈ WS := ws_t (tb_2 (List.mem_of_getElem? (i := 75) rfl)) rfl
set_option maxRecDepth 20000 in
theorem tw_316 : (Cond.fieldLink "MownMaze$Walk" 31 "MownMaze$Walk" "walker" "LMownMaze$Walker;" : Cond) ∈ WS := ws_t (tb_2 (List.mem_of_getElem? (i := 76) rfl)) rfl
set_option maxRecDepth 20000 in
theorem tw_317 : (Cond.fieldLink "MownMaze$Walk" 34 "MownMaze$Walk" "mown" "J" : Cond) ∈ WS := ws_t (tb_2 (List.mem_of_getElem? (i := 77) rfl)) rfl
set_option maxRecDepth 20000 in
theorem tw_318 : (Cond.fieldLink "MownMaze$Walk" 55 "MownMaze$Walk" "been" "J" : Cond) ∈ WS := ws_t (tb_2 (List.mem_of_getElem? (i := 78) rfl)) rfl
set_option maxRecDepth 20000 in
theorem tw_319 : (Cond.fieldLink "MownMaze$Walk" 44 "MownMaze$Walk" "cell" "I" : Cond) ∈ WS := ws_t (tb_2 (List.mem_of_getElem? (i := 79) rfl)) rfl
set_option maxRecDepth 20000 in
theorem tw_320 : (Cond.fieldLink "MownMaze$Walk" 48 "MownMaze$Walk" "facing" "I" : Cond) ∈ WS := ws_t (tb_2 (List.mem_of_getElem? (i := 80) rfl)) rfl
set_option maxRecDepth 20000 in
theorem tw_321 : (Cond.fieldLink "MownMaze$Walk" 52 "MownMaze$Walk" "seed" "I" : Cond) ∈ WS := ws_t (tb_2 (List.mem_of_getElem? (i := 81) rfl)) rfl
set_option maxRecDepth 20000 in
theorem tw_322 : (Cond.fieldLink "MownMaze$Walk" 86 "MownMaze$Walk" "outMinute" "I" : Cond) ∈ WS := ws_t (tb_2 (List.mem_of_getElem? (i := 82) rfl)) rfl
set_option maxRecDepth 20000 in
theorem tw_323 : (Cond.fieldLink "MownMaze$Walk" 89 "MownMaze$Walk" "lastMinute" "I" : Cond) ∈ WS := ws_t (tb_2 (List.mem_of_getElem? (i := 83) rfl)) rfl
set_option maxRecDepth 20000 in
theorem tw_324 : (Cond.laysFinal "MownMaze$Walk" "MownMaze$Walk" "track" "[I" : Cond) ∈ WS := ws_t (tb_2 (List.mem_of_getElem? (i := 84) rfl)) rfl
set_option maxRecDepth 20000 in
theorem tw_326 : (Cond.laysFinal "MownMaze$Walk" "MownMaze$Walk" "cameFrom" "[I" : Cond) ∈ WS := ws_t (tb_2 (List.mem_of_getElem? (i := 86) rfl)) rfl
set_option maxRecDepth 20000 in
theorem tw_328 : (Cond.laysFinal "MownMaze$Walk" "MownMaze$Walk" "stepsToNoise" "[I" : Cond) ∈ WS := ws_t (tb_2 (List.mem_of_getElem? (i := 88) rfl)) rfl
set_option maxRecDepth 20000 in
theorem tw_330 : (Cond.lays "MownMaze$Walk" "MownMaze$Walk" "plan" "LMownMaze$Plan;" : Cond) ∈ WS := ws_t (tb_2 (List.mem_of_getElem? (i := 90) rfl)) rfl
set_option maxRecDepth 20000 in
theorem tw_332 : (Cond.lays "MownMaze$Walk" "MownMaze$Walk" "walker" "LMownMaze$Walker;" : Cond) ∈ WS := ws_t (tb_2 (List.mem_of_getElem? (i := 92) rfl)) rfl
set_option maxRecDepth 20000 in
theorem tw_334 : (Cond.lays "MownMaze$Walk" "MownMaze$Walk" "mown" "J" : Cond) ∈ WS := ws_t (tb_2 (List.mem_of_getElem? (i := 94) rfl)) rfl
set_option maxRecDepth 20000 in
theorem tw_336 : (Cond.lays "MownMaze$Walk" "MownMaze$Walk" "been" "J" : Cond) ∈ WS := ws_t (tb_2 (List.mem_of_getElem? (i := 96) rfl)) rfl
set_option maxRecDepth 20000 in
theorem tw_338 : (Cond.lays "MownMaze$Walk" "MownMaze$Walk" "cell" "I" : Cond) ∈ WS := ws_t (tb_2 (List.mem_of_getElem? (i := 98) rfl)) rfl
set_option maxRecDepth 20000 in
theorem tw_340 : (Cond.lays "MownMaze$Walk" "MownMaze$Walk" "facing" "I" : Cond) ∈ WS := ws_t (tb_2 (List.mem_of_getElem? (i := 100) rfl)) rfl
set_option maxRecDepth 20000 in
theorem tw_342 : (Cond.lays "MownMaze$Walk" "MownMaze$Walk" "seed" "I" : Cond) ∈ WS := ws_t (tb_2 (List.mem_of_getElem? (i := 102) rfl)) rfl
set_option maxRecDepth 20000 in
theorem tw_344 : (Cond.lays "MownMaze$Walk" "MownMaze$Walk" "outMinute" "I" : Cond) ∈ WS := ws_t (tb_2 (List.mem_of_getElem? (i := 104) rfl)) rfl
set_option maxRecDepth 20000 in
theorem tw_346 : (Cond.lays "MownMaze$Walk" "MownMaze$Walk" "lastMinute" "I" : Cond) ∈ WS := ws_t (tb_2 (List.mem_of_getElem? (i := 106) rfl)) rfl
set_option maxRecDepth 20000 in
theorem tw_348 : (Cond.superclass "MownMaze$Walk" "java/lang/Object" : Cond) ∈ WS := ws_t (tb_2 (List.mem_of_getElem? (i := 108) rfl)) rfl
set_option maxRecDepth 20000 in
theorem tw_349 : (Cond.fieldLink "MownMaze" 12 "MownMaze" "tape" "LMownMaze$Tape;" : Cond) ∈ WS := ws_t (tb_2 (List.mem_of_getElem? (i := 109) rfl)) rfl
set_option maxRecDepth 20000 in
theorem tw_350 : (Cond.fieldLink "MownMaze" 26 "MownMaze" "reader" "LMownMaze$Reader;" : Cond) ∈ WS := ws_t (tb_2 (List.mem_of_getElem? (i := 110) rfl)) rfl
set_option maxRecDepth 20000 in
theorem tw_351 : (Cond.fieldLink "MownMaze" 33 "MownMaze" "history" "LMownMaze$History;" : Cond) ∈ WS := ws_t (tb_2 (List.mem_of_getElem? (i := 111) rfl)) rfl
set_option maxRecDepth 20000 in
theorem tw_352 : (Cond.fieldLink "MownMaze" 40 "MownMaze" "scythe" "LMownMaze$Scythe;" : Cond) ∈ WS := ws_t (tb_2 (List.mem_of_getElem? (i := 112) rfl)) rfl
set_option maxRecDepth 20000 in
theorem tw_353 : (Cond.fieldLink "MownMaze" 59 "MownMaze" "walk" "LMownMaze$Walk;" : Cond) ∈ WS := ws_t (tb_2 (List.mem_of_getElem? (i := 113) rfl)) rfl
set_option maxRecDepth 20000 in
theorem tw_354 : (Cond.fieldLink "MownMaze" 63 "MownMaze" "otherWalk" "LMownMaze$Walk;" : Cond) ∈ WS := ws_t (tb_2 (List.mem_of_getElem? (i := 114) rfl)) rfl
set_option maxRecDepth 20000 in
theorem tw_355 : (Cond.fieldLink "MownMaze" 66 "MownMaze" "reach" "[I" : Cond) ∈ WS := ws_t (tb_2 (List.mem_of_getElem? (i := 115) rfl)) rfl
set_option maxRecDepth 20000 in
theorem tw_356 : (Cond.fieldLink "MownMaze" 47 "MownMaze" "plan" "LMownMaze$Plan;" : Cond) ∈ WS := ws_t (tb_2 (List.mem_of_getElem? (i := 116) rfl)) rfl
set_option maxRecDepth 20000 in
theorem tw_357 : (Cond.fieldLink "MownMaze" 51 "MownMaze" "draft" "LMownMaze$Plan;" : Cond) ∈ WS := ws_t (tb_2 (List.mem_of_getElem? (i := 117) rfl)) rfl
set_option maxRecDepth 20000 in
theorem tw_358 : (Cond.fieldLink "MownMaze" 106 "MownMaze" "laid" "Z" : Cond) ∈ WS := ws_t (tb_2 (List.mem_of_getElem? (i := 118) rfl)) rfl
set_option maxRecDepth 20000 in
theorem tw_359 : (Cond.fieldLink "MownMaze" 120 "MownMaze" "cells" "J" : Cond) ∈ WS := ws_t (tb_2 (List.mem_of_getElem? (i := 119) rfl)) rfl
set_option maxRecDepth 20000 in
theorem tw_360 : (Cond.fieldLink "MownMaze" 123 "MownMaze" "seedNow" "I" : Cond) ∈ WS := ws_t (tb_2 (List.mem_of_getElem? (i := 120) rfl)) rfl
set_option maxRecDepth 20000 in
theorem tw_361 : (Cond.fieldLink "MownMaze" 138 "MownMaze" "latestTrouble" "I" : Cond) ∈ WS := ws_t (tb_2 (List.mem_of_getElem? (i := 121) rfl)) rfl
set_option maxRecDepth 20000 in
theorem tw_362 : (Cond.fieldLink "MownMaze" 96 "MownMaze" "latestFault" "I" : Cond) ∈ WS := ws_t (tb_2 (List.mem_of_getElem? (i := 122) rfl)) rfl
set_option maxRecDepth 20000 in
theorem tw_363 : (Cond.fieldLink "MownMaze" 103 "MownMaze" "faultPlace" "I" : Cond) ∈ WS := ws_t (tb_2 (List.mem_of_getElem? (i := 123) rfl)) rfl
set_option maxRecDepth 20000 in
theorem tw_364 : (Cond.laysFinal "MownMaze" "MownMaze" "tape" "LMownMaze$Tape;" : Cond) ∈ WS := ws_t (tb_2 (List.mem_of_getElem? (i := 124) rfl)) rfl
set_option maxRecDepth 20000 in
theorem tw_366 : (Cond.laysFinal "MownMaze" "MownMaze" "reader" "LMownMaze$Reader;" : Cond) ∈ WS := ws_t (tb_2 (List.mem_of_getElem? (i := 126) rfl)) rfl
set_option maxRecDepth 20000 in
theorem tw_368 : (Cond.laysFinal "MownMaze" "MownMaze" "history" "LMownMaze$History;" : Cond) ∈ WS := ws_t (tb_2 (List.mem_of_getElem? (i := 128) rfl)) rfl
set_option maxRecDepth 20000 in
theorem tw_370 : (Cond.laysFinal "MownMaze" "MownMaze" "scythe" "LMownMaze$Scythe;" : Cond) ∈ WS := ws_t (tb_2 (List.mem_of_getElem? (i := 130) rfl)) rfl
set_option maxRecDepth 20000 in
theorem tw_372 : (Cond.laysFinal "MownMaze" "MownMaze" "walk" "LMownMaze$Walk;" : Cond) ∈ WS := ws_t (tb_2 (List.mem_of_getElem? (i := 132) rfl)) rfl
set_option maxRecDepth 20000 in
theorem tw_374 : (Cond.laysFinal "MownMaze" "MownMaze" "otherWalk" "LMownMaze$Walk;" : Cond) ∈ WS := ws_t (tb_2 (List.mem_of_getElem? (i := 134) rfl)) rfl
set_option maxRecDepth 20000 in
theorem tw_376 : (Cond.laysFinal "MownMaze" "MownMaze" "reach" "[I" : Cond) ∈ WS := ws_t (tb_2 (List.mem_of_getElem? (i := 136) rfl)) rfl
set_option maxRecDepth 20000 in
theorem tw_378 : (Cond.lays "MownMaze" "MownMaze" "plan" "LMownMaze$Plan;" : Cond) ∈ WS := ws_t (tb_2 (List.mem_of_getElem? (i := 138) rfl)) rfl
set_option maxRecDepth 20000 in
theorem tw_380 : (Cond.lays "MownMaze" "MownMaze" "draft" "LMownMaze$Plan;" : Cond) ∈ WS := ws_t (tb_2 (List.mem_of_getElem? (i := 140) rfl)) rfl
set_option maxRecDepth 20000 in
theorem tw_382 : (Cond.lays "MownMaze" "MownMaze" "laid" "Z" : Cond) ∈ WS := ws_t (tb_2 (List.mem_of_getElem? (i := 142) rfl)) rfl
set_option maxRecDepth 20000 in
theorem tw_384 : (Cond.lays "MownMaze" "MownMaze" "cells" "J" : Cond) ∈ WS := ws_t (tb_2 (List.mem_of_getElem? (i := 144) rfl)) rfl
set_option maxRecDepth 20000 in
theorem tw_386 : (Cond.lays "MownMaze" "MownMaze" "seedNow" "I" : Cond) ∈ WS := ws_t (tb_2 (List.mem_of_getElem? (i := 146) rfl)) rfl
set_option maxRecDepth 20000 in
theorem tw_388 : (Cond.lays "MownMaze" "MownMaze" "latestTrouble" "I" : Cond) ∈ WS := ws_t (tb_2 (List.mem_of_getElem? (i := 148) rfl)) rfl
set_option maxRecDepth 20000 in
theorem tw_390 : (Cond.lays "MownMaze" "MownMaze" "latestFault" "I" : Cond) ∈ WS := ws_t (tb_2 (List.mem_of_getElem? (i := 150) rfl)) rfl
set_option maxRecDepth 20000 in
theorem tw_392 : (Cond.lays "MownMaze" "MownMaze" "faultPlace" "I" : Cond) ∈ WS := ws_t (tb_2 (List.mem_of_getElem? (i := 152) rfl)) rfl
set_option maxRecDepth 20000 in
theorem tw_394 : (Cond.superclass "MownMaze" "java/lang/Object" : Cond) ∈ WS := ws_t (tb_2 (List.mem_of_getElem? (i := 154) rfl)) rfl
set_option maxRecDepth 20000 in
theorem tw_395 : (Cond.methodLink "MownMazeLaw" 19 ⟨"MownMaze", "feed", "(IIIII)I"⟩ : Cond) ∈ WS := ws_t (tb_2 (List.mem_of_getElem? (i := 155) rfl)) rfl
set_option maxRecDepth 20000 in
theorem tw_396 : (Cond.instanceMethod ⟨"MownMaze", "feed", "(IIIII)I"⟩ : Cond) ∈ WS := ws_t (tb_2 (List.mem_of_getElem? (i := 156) rfl)) rfl
set_option maxRecDepth 20000 in
theorem tw_397 : (Cond.selects "MownMaze" ⟨"MownMaze", "feed", "(IIIII)I"⟩ ⟨"MownMaze", "feed", "(IIIII)I"⟩ : Cond) ∈ WS := ws_t (tb_2 (List.mem_of_getElem? (i := 157) rfl)) rfl
set_option maxRecDepth 20000 in
theorem tw_398 : (Cond.code ⟨"MownMaze", "feed", "(IIIII)I"⟩ prog_1_method_2_code 6 (Option.some FieldType.int) : Cond) ∈ WS := ws_t (tb_2 (List.mem_of_getElem? (i := 158) rfl)) rfl
set_option maxRecDepth 20000 in
theorem tw_399 : (Cond.methodLink "MownMaze" 70 ⟨"MownMaze$Tape", "hasRoom", "(I)Z"⟩ : Cond) ∈ WS := ws_t (tb_2 (List.mem_of_getElem? (i := 159) rfl)) rfl
set_option maxRecDepth 20000 in
theorem tw_400 : (Cond.instanceMethod ⟨"MownMaze$Tape", "hasRoom", "(I)Z"⟩ : Cond) ∈ WS := ws_t (tb_2 (List.mem_of_getElem? (i := 160) rfl)) rfl
set_option maxRecDepth 20000 in
theorem tw_401 : (Cond.selects "MownMaze$Tape" ⟨"MownMaze$Tape", "hasRoom", "(I)Z"⟩ ⟨"MownMaze$Tape", "hasRoom", "(I)Z"⟩ : Cond) ∈ WS := ws_t (tb_2 (List.mem_of_getElem? (i := 161) rfl)) rfl
set_option maxRecDepth 20000 in
theorem tw_402 : (Cond.code ⟨"MownMaze$Tape", "hasRoom", "(I)Z"⟩ prog_8_method_3_code 2 (Option.some FieldType.boolean) : Cond) ∈ WS := ws_t (tb_2 (List.mem_of_getElem? (i := 162) rfl)) rfl
set_option maxRecDepth 20000 in
theorem tw_403 : (Cond.methodLink "MownMaze" 74 ⟨"MownMaze$Tape", "put", "(I)V"⟩ : Cond) ∈ WS := ws_t (tb_2 (List.mem_of_getElem? (i := 163) rfl)) rfl
set_option maxRecDepth 20000 in
theorem tw_404 : (Cond.instanceMethod ⟨"MownMaze$Tape", "put", "(I)V"⟩ : Cond) ∈ WS := ws_t (tb_2 (List.mem_of_getElem? (i := 164) rfl)) rfl
set_option maxRecDepth 20000 in
theorem tw_405 : (Cond.selects "MownMaze$Tape" ⟨"MownMaze$Tape", "put", "(I)V"⟩ ⟨"MownMaze$Tape", "put", "(I)V"⟩ : Cond) ∈ WS := ws_t (tb_2 (List.mem_of_getElem? (i := 165) rfl)) rfl
set_option maxRecDepth 20000 in
theorem tw_406 : (Cond.code ⟨"MownMaze$Tape", "put", "(I)V"⟩ prog_8_method_5_code 3 none : Cond) ∈ WS := ws_t (tb_2 (List.mem_of_getElem? (i := 166) rfl)) rfl
set_option maxRecDepth 20000 in
theorem tw_407 : (Cond.methodLink "MownMaze" 78 ⟨"MownMaze$Tape", "length", "()I"⟩ : Cond) ∈ WS := ws_t (tb_2 (List.mem_of_getElem? (i := 167) rfl)) rfl
set_option maxRecDepth 20000 in
theorem tw_408 : (Cond.instanceMethod ⟨"MownMaze$Tape", "length", "()I"⟩ : Cond) ∈ WS := ws_t (tb_2 (List.mem_of_getElem? (i := 168) rfl)) rfl
set_option maxRecDepth 20000 in
theorem tw_409 : (Cond.selects "MownMaze$Tape" ⟨"MownMaze$Tape", "length", "()I"⟩ ⟨"MownMaze$Tape", "length", "()I"⟩ : Cond) ∈ WS := ws_t (tb_2 (List.mem_of_getElem? (i := 169) rfl)) rfl
set_option maxRecDepth 20000 in
theorem tw_410 : (Cond.code ⟨"MownMaze$Tape", "length", "()I"⟩ prog_8_method_2_code 1 (Option.some FieldType.int) : Cond) ∈ WS := ws_t (tb_2 (List.mem_of_getElem? (i := 170) rfl)) rfl
set_option maxRecDepth 20000 in
theorem tw_411 : (Cond.methodLink "MownMazeLaw" 24 ⟨"MownMaze", "meadow", "(I)I"⟩ : Cond) ∈ WS := ws_t (tb_2 (List.mem_of_getElem? (i := 171) rfl)) rfl
set_option maxRecDepth 20000 in
theorem tw_412 : (Cond.instanceMethod ⟨"MownMaze", "meadow", "(I)I"⟩ : Cond) ∈ WS := ws_t (tb_2 (List.mem_of_getElem? (i := 172) rfl)) rfl
set_option maxRecDepth 20000 in
theorem tw_413 : (Cond.selects "MownMaze" ⟨"MownMaze", "meadow", "(I)I"⟩ ⟨"MownMaze", "meadow", "(I)I"⟩ : Cond) ∈ WS := ws_t (tb_2 (List.mem_of_getElem? (i := 173) rfl)) rfl
set_option maxRecDepth 20000 in
theorem tw_414 : (Cond.code ⟨"MownMaze", "meadow", "(I)I"⟩ prog_1_method_3_code 4 (Option.some FieldType.int) : Cond) ∈ WS := ws_t (tb_2 (List.mem_of_getElem? (i := 174) rfl)) rfl
set_option maxRecDepth 20000 in
theorem tw_415 : (Cond.methodLink "MownMaze" 82 ⟨"MownMaze", "refuse", "(I)I"⟩ : Cond) ∈ WS := ws_t (tb_2 (List.mem_of_getElem? (i := 175) rfl)) rfl
set_option maxRecDepth 20000 in
theorem tw_417 : (Cond.instanceMethod ⟨"MownMaze", "refuse", "(I)I"⟩ : Cond) ∈ WS := ws_t (tb_2 (List.mem_of_getElem? (i := 177) rfl)) rfl
set_option maxRecDepth 20000 in
theorem tw_418 : (Cond.code ⟨"MownMaze", "refuse", "(I)I"⟩ prog_1_method_51_code 2 (Option.some FieldType.int) : Cond) ∈ WS := ws_t (tb_2 (List.mem_of_getElem? (i := 178) rfl)) rfl
set_option maxRecDepth 20000 in
theorem tw_419 : (Cond.methodLink "MownMaze" 86 ⟨"MownMaze$Reader", "read", "(LMownMaze$Plan;I)Z"⟩ : Cond) ∈ WS := ws_t (tb_2 (List.mem_of_getElem? (i := 179) rfl)) rfl
set_option maxRecDepth 20000 in
theorem tw_420 : (Cond.instanceMethod ⟨"MownMaze$Reader", "read", "(LMownMaze$Plan;I)Z"⟩ : Cond) ∈ WS := ws_t (tb_2 (List.mem_of_getElem? (i := 180) rfl)) rfl
set_option maxRecDepth 20000 in
theorem tw_421 : (Cond.selects "MownMaze$Reader" ⟨"MownMaze$Reader", "read", "(LMownMaze$Plan;I)Z"⟩ ⟨"MownMaze$Reader", "read", "(LMownMaze$Plan;I)Z"⟩ : Cond) ∈ WS := ws_t (tb_2 (List.mem_of_getElem? (i := 181) rfl)) rfl
set_option maxRecDepth 20000 in
theorem tw_422 : (Cond.code ⟨"MownMaze$Reader", "read", "(LMownMaze$Plan;I)Z"⟩ prog_6_method_4_code 4 (Option.some FieldType.boolean) : Cond) ∈ WS := ws_t (tb_2 (List.mem_of_getElem? (i := 182) rfl)) rfl
set_option maxRecDepth 20000 in
theorem tw_423 : (Cond.methodLink "MownMaze$Reader" 22 ⟨"MownMaze$Plan", "empty", "()V"⟩ : Cond) ∈ WS := ws_t (tb_2 (List.mem_of_getElem? (i := 183) rfl)) rfl
set_option maxRecDepth 20000 in
theorem tw_424 : (Cond.instanceMethod ⟨"MownMaze$Plan", "empty", "()V"⟩ : Cond) ∈ WS := ws_t (tb_2 (List.mem_of_getElem? (i := 184) rfl)) rfl
set_option maxRecDepth 20000 in
theorem tw_425 : (Cond.selects "MownMaze$Plan" ⟨"MownMaze$Plan", "empty", "()V"⟩ ⟨"MownMaze$Plan", "empty", "()V"⟩ : Cond) ∈ WS := ws_t (tb_2 (List.mem_of_getElem? (i := 185) rfl)) rfl
set_option maxRecDepth 20000 in
theorem tw_426 : (Cond.code ⟨"MownMaze$Plan", "empty", "()V"⟩ prog_5_method_2_code 1 none : Cond) ∈ WS := ws_t (tb_2 (List.mem_of_getElem? (i := 186) rfl)) rfl
set_option maxRecDepth 20000 in
theorem tw_427 : (Cond.methodLink "MownMaze$Plan" 52 ⟨"MownMaze$Ground", "lay", "(II)V"⟩ : Cond) ∈ WS := ws_t (tb_2 (List.mem_of_getElem? (i := 187) rfl)) rfl
set_option maxRecDepth 20000 in
theorem tw_428 : (Cond.instanceMethod ⟨"MownMaze$Ground", "lay", "(II)V"⟩ : Cond) ∈ WS := ws_t (tb_2 (List.mem_of_getElem? (i := 188) rfl)) rfl
set_option maxRecDepth 20000 in
theorem tw_429 : (Cond.selects "MownMaze$Ground" ⟨"MownMaze$Ground", "lay", "(II)V"⟩ ⟨"MownMaze$Ground", "lay", "(II)V"⟩ : Cond) ∈ WS := ws_t (tb_2 (List.mem_of_getElem? (i := 189) rfl)) rfl
set_option maxRecDepth 20000 in
theorem tw_430 : (Cond.code ⟨"MownMaze$Ground", "lay", "(II)V"⟩ prog_2_method_2_code 5 none : Cond) ∈ WS := ws_t (tb_2 (List.mem_of_getElem? (i := 190) rfl)) rfl
set_option maxRecDepth 20000 in
theorem tw_432 : (Cond.static ⟨"MownMaze", "bit", "(I)J"⟩ : Cond) ∈ WS := ws_t (tb_2 (List.mem_of_getElem? (i := 192) rfl)) rfl
set_option maxRecDepth 20000 in
theorem tw_433 : (Cond.code ⟨"MownMaze", "bit", "(I)J"⟩ prog_1_method_71_code 1 (Option.some FieldType.long) : Cond) ∈ WS := ws_t (tb_2 (List.mem_of_getElem? (i := 193) rfl)) rfl
set_option maxRecDepth 20000 in
theorem tw_434 : (Cond.methodLink "MownMaze$Ground" 39 ⟨"MownMaze$Ground", "number", "(II)I"⟩ : Cond) ∈ WS := ws_t (tb_2 (List.mem_of_getElem? (i := 194) rfl)) rfl
set_option maxRecDepth 20000 in
theorem tw_435 : (Cond.instanceMethod ⟨"MownMaze$Ground", "number", "(II)I"⟩ : Cond) ∈ WS := ws_t (tb_2 (List.mem_of_getElem? (i := 195) rfl)) rfl
set_option maxRecDepth 20000 in
theorem tw_436 : (Cond.selects "MownMaze$Ground" ⟨"MownMaze$Ground", "number", "(II)I"⟩ ⟨"MownMaze$Ground", "number", "(II)I"⟩ : Cond) ∈ WS := ws_t (tb_2 (List.mem_of_getElem? (i := 196) rfl)) rfl
set_option maxRecDepth 20000 in
theorem tw_437 : (Cond.code ⟨"MownMaze$Ground", "number", "(II)I"⟩ prog_2_method_5_code 3 (Option.some FieldType.int) : Cond) ∈ WS := ws_t (tb_2 (List.mem_of_getElem? (i := 197) rfl)) rfl
set_option maxRecDepth 20000 in
theorem tw_438 : (Cond.methodLink "MownMaze$Ground" 43 ⟨"MownMaze$Ground", "layBeside", "(IIIII)V"⟩ : Cond) ∈ WS := ws_t (tb_2 (List.mem_of_getElem? (i := 198) rfl)) rfl
set_option maxRecDepth 20000 in
theorem tw_440 : (Cond.instanceMethod ⟨"MownMaze$Ground", "layBeside", "(IIIII)V"⟩ : Cond) ∈ WS := ws_t (tb_2 (List.mem_of_getElem? (i := 200) rfl)) rfl
set_option maxRecDepth 20000 in
theorem tw_441 : (Cond.code ⟨"MownMaze$Ground", "layBeside", "(IIIII)V"⟩ prog_2_method_3_code 7 none : Cond) ∈ WS := ws_t (tb_2 (List.mem_of_getElem? (i := 201) rfl)) rfl
set_option maxRecDepth 20000 in
theorem tw_442 : (Cond.methodLink "MownMaze$Ground" 47 ⟨"MownMaze$Ground", "isInside", "(II)Z"⟩ : Cond) ∈ WS := ws_t (tb_2 (List.mem_of_getElem? (i := 202) rfl)) rfl
set_option maxRecDepth 20000 in
theorem tw_443 : (Cond.instanceMethod ⟨"MownMaze$Ground", "isInside", "(II)Z"⟩ : Cond) ∈ WS := ws_t (tb_2 (List.mem_of_getElem? (i := 203) rfl)) rfl
set_option maxRecDepth 20000 in
theorem tw_444 : (Cond.selects "MownMaze$Ground" ⟨"MownMaze$Ground", "isInside", "(II)Z"⟩ ⟨"MownMaze$Ground", "isInside", "(II)Z"⟩ : Cond) ∈ WS := ws_t (tb_2 (List.mem_of_getElem? (i := 204) rfl)) rfl
set_option maxRecDepth 20000 in
theorem tw_445 : (Cond.code ⟨"MownMaze$Ground", "isInside", "(II)Z"⟩ prog_2_method_4_code 3 (Option.some FieldType.boolean) : Cond) ∈ WS := ws_t (tb_2 (List.mem_of_getElem? (i := 205) rfl)) rfl
set_option maxRecDepth 20000 in
theorem tw_446 : (Cond.methodLink "MownMaze$Plan" 56 ⟨"MownMaze$Picture", "empty", "()V"⟩ : Cond) ∈ WS := ws_t (tb_2 (List.mem_of_getElem? (i := 206) rfl)) rfl
set_option maxRecDepth 20000 in
theorem tw_447 : (Cond.instanceMethod ⟨"MownMaze$Picture", "empty", "()V"⟩ : Cond) ∈ WS := ws_t (tb_2 (List.mem_of_getElem? (i := 207) rfl)) rfl
set_option maxRecDepth 20000 in
theorem tw_448 : (Cond.selects "MownMaze$Picture" ⟨"MownMaze$Picture", "empty", "()V"⟩ ⟨"MownMaze$Picture", "empty", "()V"⟩ : Cond) ∈ WS := ws_t (tb_2 (List.mem_of_getElem? (i := 208) rfl)) rfl
set_option maxRecDepth 20000 in
theorem tw_449 : (Cond.code ⟨"MownMaze$Picture", "empty", "()V"⟩ prog_4_method_2_code 1 none : Cond) ∈ WS := ws_t (tb_2 (List.mem_of_getElem? (i := 209) rfl)) rfl
set_option maxRecDepth 20000 in
theorem tw_450 : (Cond.methodLink "MownMaze$Reader" 27 ⟨"MownMaze$Tokens", "open", "(I)V"⟩ : Cond) ∈ WS := ws_t (tb_2 (List.mem_of_getElem? (i := 210) rfl)) rfl
set_option maxRecDepth 20000 in
theorem tw_451 : (Cond.instanceMethod ⟨"MownMaze$Tokens", "open", "(I)V"⟩ : Cond) ∈ WS := ws_t (tb_2 (List.mem_of_getElem? (i := 211) rfl)) rfl
set_option maxRecDepth 20000 in
theorem tw_452 : (Cond.selects "MownMaze$Tokens" ⟨"MownMaze$Tokens", "open", "(I)V"⟩ ⟨"MownMaze$Tokens", "open", "(I)V"⟩ : Cond) ∈ WS := ws_t (tb_2 (List.mem_of_getElem? (i := 212) rfl)) rfl
set_option maxRecDepth 20000 in
theorem tw_453 : (Cond.code ⟨"MownMaze$Tokens", "open", "(I)V"⟩ prog_9_method_8_code 2 none : Cond) ∈ WS := ws_t (tb_2 (List.mem_of_getElem? (i := 213) rfl)) rfl
set_option maxRecDepth 20000 in
theorem tw_454 : (Cond.methodLink "MownMaze$Tokens" 41 ⟨"MownMaze$Tokens", "goOn", "()V"⟩ : Cond) ∈ WS := ws_t (tb_2 (List.mem_of_getElem? (i := 214) rfl)) rfl
set_option maxRecDepth 20000 in
theorem tw_455 : (Cond.instanceMethod ⟨"MownMaze$Tokens", "goOn", "()V"⟩ : Cond) ∈ WS := ws_t (tb_2 (List.mem_of_getElem? (i := 215) rfl)) rfl
set_option maxRecDepth 20000 in
theorem tw_456 : (Cond.selects "MownMaze$Tokens" ⟨"MownMaze$Tokens", "goOn", "()V"⟩ ⟨"MownMaze$Tokens", "goOn", "()V"⟩ : Cond) ∈ WS := ws_t (tb_2 (List.mem_of_getElem? (i := 216) rfl)) rfl
set_option maxRecDepth 20000 in
theorem tw_457 : (Cond.code ⟨"MownMaze$Tokens", "goOn", "()V"⟩ prog_9_method_9_code 3 none : Cond) ∈ WS := ws_t (tb_2 (List.mem_of_getElem? (i := 217) rfl)) rfl
set_option maxRecDepth 20000 in
theorem tw_458 : (Cond.methodLink "MownMaze$Tokens" 32 ⟨"MownMaze$Tape", "byteAt", "(I)I"⟩ : Cond) ∈ WS := ws_t (tb_2 (List.mem_of_getElem? (i := 218) rfl)) rfl
set_option maxRecDepth 20000 in
theorem tw_459 : (Cond.instanceMethod ⟨"MownMaze$Tape", "byteAt", "(I)I"⟩ : Cond) ∈ WS := ws_t (tb_2 (List.mem_of_getElem? (i := 219) rfl)) rfl
set_option maxRecDepth 20000 in
theorem tw_460 : (Cond.selects "MownMaze$Tape" ⟨"MownMaze$Tape", "byteAt", "(I)I"⟩ ⟨"MownMaze$Tape", "byteAt", "(I)I"⟩ : Cond) ∈ WS := ws_t (tb_2 (List.mem_of_getElem? (i := 220) rfl)) rfl
set_option maxRecDepth 20000 in
theorem tw_461 : (Cond.code ⟨"MownMaze$Tape", "byteAt", "(I)I"⟩ prog_8_method_6_code 2 (Option.some FieldType.int) : Cond) ∈ WS := ws_t (tb_2 (List.mem_of_getElem? (i := 221) rfl)) rfl
set_option maxRecDepth 20000 in
theorem tw_462 : (Cond.methodLink "MownMaze$Tokens" 44 ⟨"MownMaze$Tokens", "kindOf", "(I)I"⟩ : Cond) ∈ WS := ws_t (tb_2 (List.mem_of_getElem? (i := 222) rfl)) rfl
set_option maxRecDepth 20000 in
theorem tw_463 : (Cond.static ⟨"MownMaze$Tokens", "kindOf", "(I)I"⟩ : Cond) ∈ WS := ws_t (tb_2 (List.mem_of_getElem? (i := 223) rfl)) rfl
set_option maxRecDepth 20000 in
theorem tw_464 : (Cond.code ⟨"MownMaze$Tokens", "kindOf", "(I)I"⟩ prog_9_method_14_code 1 (Option.some FieldType.int) : Cond) ∈ WS := ws_t (tb_2 (List.mem_of_getElem? (i := 224) rfl)) rfl
set_option maxRecDepth 20000 in
theorem tw_465 : (Cond.methodLink "MownMaze$Tokens" 47 ⟨"java/lang/Math", "min", "(II)I"⟩ : Cond) ∈ WS := ws_t (tb_2 (List.mem_of_getElem? (i := 225) rfl)) rfl
set_option maxRecDepth 20000 in
theorem tw_466 : (Cond.static ⟨"java/lang/Math", "min", "(II)I"⟩ : Cond) ∈ WS := ws_t (tb_2 (List.mem_of_getElem? (i := 226) rfl)) rfl
set_option maxRecDepth 20000 in
theorem tw_467 : (Cond.code ⟨"java/lang/Math", "min", "(II)I"⟩ prog_20_method_69_code 2 (Option.some FieldType.int) : Cond) ∈ WS := ws_t (tb_2 (List.mem_of_getElem? (i := 227) rfl)) rfl
set_option maxRecDepth 20000 in
theorem tw_468 : (Cond.constantLong "MownMaze$Tokens" 53 32 : Cond) ∈ WS := ws_t (tb_2 (List.mem_of_getElem? (i := 228) rfl)) rfl
set_option maxRecDepth 20000 in
theorem tw_469 : (Cond.methodLink "MownMaze$Tokens" 55 ⟨"MownMaze$Tokens", "mostBytes", "()I"⟩ : Cond) ∈ WS := ws_t (tb_2 (List.mem_of_getElem? (i := 229) rfl)) rfl
set_option maxRecDepth 20000 in
theorem tw_471 : (Cond.instanceMethod ⟨"MownMaze$Tokens", "mostBytes", "()I"⟩ : Cond) ∈ WS := ws_t (tb_2 (List.mem_of_getElem? (i := 231) rfl)) rfl
set_option maxRecDepth 20000 in
theorem tw_472 : (Cond.code ⟨"MownMaze$Tokens", "mostBytes", "()I"⟩ prog_9_method_13_code 1 (Option.some FieldType.int) : Cond) ∈ WS := ws_t (tb_2 (List.mem_of_getElem? (i := 232) rfl)) rfl
set_option maxRecDepth 20000 in
theorem tw_473 : (Cond.methodLink "MownMaze$Reader" 33 ⟨"MownMaze$Reader", "readLine", "(LMownMaze$Plan;)Z"⟩ : Cond) ∈ WS := ws_t (tb_2 (List.mem_of_getElem? (i := 233) rfl)) rfl
set_option maxRecDepth 20000 in
theorem tw_475 : (Cond.instanceMethod ⟨"MownMaze$Reader", "readLine", "(LMownMaze$Plan;)Z"⟩ : Cond) ∈ WS := ws_t (tb_2 (List.mem_of_getElem? (i := 235) rfl)) rfl
set_option maxRecDepth 20000 in
theorem tw_476 : (Cond.code ⟨"MownMaze$Reader", "readLine", "(LMownMaze$Plan;)Z"⟩ prog_6_method_5_code 3 (Option.some FieldType.boolean) : Cond) ∈ WS := ws_t (tb_2 (List.mem_of_getElem? (i := 236) rfl)) rfl
set_option maxRecDepth 20000 in
theorem tw_478 : (Cond.methodLink "MownMaze$Reader" 55 ⟨"MownMaze$Tokens", "numberIn", "(Ljava/lang/String;)I"⟩ : Cond) ∈ WS := ws_t (tb_2 (List.mem_of_getElem? (i := 238) rfl)) rfl
set_option maxRecDepth 20000 in
theorem tw_479 : (Cond.instanceMethod ⟨"MownMaze$Tokens", "numberIn", "(Ljava/lang/String;)I"⟩ : Cond) ∈ WS := ws_t (tb_2 (List.mem_of_getElem? (i := 239) rfl)) rfl
set_option maxRecDepth 20000 in
theorem tw_480 : (Cond.selects "MownMaze$Tokens" ⟨"MownMaze$Tokens", "numberIn", "(Ljava/lang/String;)I"⟩ ⟨"MownMaze$Tokens", "numberIn", "(Ljava/lang/String;)I"⟩ : Cond) ∈ WS := ws_t (tb_3 (List.mem_of_getElem? (i := 0) rfl)) rfl
set_option maxRecDepth 20000 in
theorem tw_481 : (Cond.code ⟨"MownMaze$Tokens", "numberIn", "(Ljava/lang/String;)I"⟩ prog_9_method_12_code 5 (Option.some FieldType.int) : Cond) ∈ WS := ws_t (tb_3 (List.mem_of_getElem? (i := 1) rfl)) rfl
set_option maxRecDepth 20000 in
theorem tw_482 : (Cond.methodLink "MownMaze$Tokens" 62 ⟨"java/lang/String", "length", "()I"⟩ : Cond) ∈ WS := ws_t (tb_3 (List.mem_of_getElem? (i := 2) rfl)) rfl
set_option maxRecDepth 20000 in
theorem tw_483 : (Cond.instanceMethod ⟨"java/lang/String", "length", "()I"⟩ : Cond) ∈ WS := ws_t (tb_3 (List.mem_of_getElem? (i := 3) rfl)) rfl
set_option maxRecDepth 20000 in
theorem tw_484 : (Cond.selects "java/lang/String" ⟨"java/lang/String", "length", "()I"⟩ ⟨"java/lang/String", "length", "()I"⟩ : Cond) ∈ WS := ws_t (tb_3 (List.mem_of_getElem? (i := 4) rfl)) rfl
set_option maxRecDepth 20000 in
theorem tw_485 : (Cond.code ⟨"java/lang/String", "length", "()I"⟩ prog_22_method_54_code 1 (Option.some FieldType.int) : Cond) ∈ WS := ws_t (tb_3 (List.mem_of_getElem? (i := 5) rfl)) rfl
set_option maxRecDepth 20000 in
theorem tw_486 : (Cond.methodLink "java/lang/String" 335 ⟨"java/lang/String", "coder", "()B"⟩ : Cond) ∈ WS := ws_t (tb_3 (List.mem_of_getElem? (i := 6) rfl)) rfl
set_option maxRecDepth 20000 in
theorem tw_487 : (Cond.instanceMethod ⟨"java/lang/String", "coder", "()B"⟩ : Cond) ∈ WS := ws_t (tb_3 (List.mem_of_getElem? (i := 7) rfl)) rfl
set_option maxRecDepth 20000 in
theorem tw_488 : (Cond.selects "java/lang/String" ⟨"java/lang/String", "coder", "()B"⟩ ⟨"java/lang/String", "coder", "()B"⟩ : Cond) ∈ WS := ws_t (tb_3 (List.mem_of_getElem? (i := 8) rfl)) rfl
set_option maxRecDepth 20000 in
theorem tw_489 : (Cond.code ⟨"java/lang/String", "coder", "()B"⟩ prog_22_method_152_code 1 (Option.some FieldType.byte) : Cond) ∈ WS := ws_t (tb_3 (List.mem_of_getElem? (i := 9) rfl)) rfl
set_option maxRecDepth 20000 in
theorem tw_490 : (Cond.fieldLink "java/lang/String" 38 "java/lang/String" "COMPACT_STRINGS" "Z" : Cond) ∈ WS := ws_t (tb_3 (List.mem_of_getElem? (i := 10) rfl)) rfl
set_option maxRecDepth 20000 in
theorem tw_492 : (Cond.methodLink "MownMaze$Tokens" 67 ⟨"java/lang/String", "charAt", "(I)C"⟩ : Cond) ∈ WS := ws_t (tb_3 (List.mem_of_getElem? (i := 12) rfl)) rfl
set_option maxRecDepth 20000 in
theorem tw_493 : (Cond.instanceMethod ⟨"java/lang/String", "charAt", "(I)C"⟩ : Cond) ∈ WS := ws_t (tb_3 (List.mem_of_getElem? (i := 13) rfl)) rfl
set_option maxRecDepth 20000 in
theorem tw_494 : (Cond.selects "java/lang/String" ⟨"java/lang/String", "charAt", "(I)C"⟩ ⟨"java/lang/String", "charAt", "(I)C"⟩ : Cond) ∈ WS := ws_t (tb_3 (List.mem_of_getElem? (i := 14) rfl)) rfl
set_option maxRecDepth 20000 in
theorem tw_495 : (Cond.code ⟨"java/lang/String", "charAt", "(I)C"⟩ prog_22_method_56_code 2 (Option.some FieldType.char) : Cond) ∈ WS := ws_t (tb_3 (List.mem_of_getElem? (i := 15) rfl)) rfl
set_option maxRecDepth 20000 in
theorem tw_496 : (Cond.methodLink "java/lang/String" 492 ⟨"java/lang/String", "isLatin1", "()Z"⟩ : Cond) ∈ WS := ws_t (tb_3 (List.mem_of_getElem? (i := 16) rfl)) rfl
set_option maxRecDepth 20000 in
theorem tw_497 : (Cond.instanceMethod ⟨"java/lang/String", "isLatin1", "()Z"⟩ : Cond) ∈ WS := ws_t (tb_3 (List.mem_of_getElem? (i := 17) rfl)) rfl
set_option maxRecDepth 20000 in
theorem tw_498 : (Cond.selects "java/lang/String" ⟨"java/lang/String", "isLatin1", "()Z"⟩ ⟨"java/lang/String", "isLatin1", "()Z"⟩ : Cond) ∈ WS := ws_t (tb_3 (List.mem_of_getElem? (i := 18) rfl)) rfl
set_option maxRecDepth 20000 in
theorem tw_499 : (Cond.code ⟨"java/lang/String", "isLatin1", "()Z"⟩ prog_22_method_154_code 1 (Option.some FieldType.boolean) : Cond) ∈ WS := ws_t (tb_3 (List.mem_of_getElem? (i := 19) rfl)) rfl
set_option maxRecDepth 20000 in
theorem tw_500 : (Cond.methodLink "java/lang/String" 495 ⟨"java/lang/StringLatin1", "charAt", "([BI)C"⟩ : Cond) ∈ WS := ws_t (tb_3 (List.mem_of_getElem? (i := 20) rfl)) rfl
set_option maxRecDepth 20000 in
theorem tw_501 : (Cond.static ⟨"java/lang/StringLatin1", "charAt", "([BI)C"⟩ : Cond) ∈ WS := ws_t (tb_3 (List.mem_of_getElem? (i := 21) rfl)) rfl
set_option maxRecDepth 20000 in
theorem tw_502 : (Cond.code ⟨"java/lang/StringLatin1", "charAt", "([BI)C"⟩ prog_23_method_2_code 2 (Option.some FieldType.char) : Cond) ∈ WS := ws_t (tb_3 (List.mem_of_getElem? (i := 22) rfl)) rfl
set_option maxRecDepth 20000 in
theorem tw_503 : (Cond.methodLink "java/lang/StringLatin1" 9 ⟨"java/lang/String", "checkIndex", "(II)V"⟩ : Cond) ∈ WS := ws_t (tb_3 (List.mem_of_getElem? (i := 23) rfl)) rfl
set_option maxRecDepth 20000 in
theorem tw_504 : (Cond.static ⟨"java/lang/String", "checkIndex", "(II)V"⟩ : Cond) ∈ WS := ws_t (tb_3 (List.mem_of_getElem? (i := 24) rfl)) rfl
set_option maxRecDepth 20000 in
theorem tw_505 : (Cond.code ⟨"java/lang/String", "checkIndex", "(II)V"⟩ prog_22_method_155_code 2 none : Cond) ∈ WS := ws_t (tb_3 (List.mem_of_getElem? (i := 25) rfl)) rfl
set_option maxRecDepth 20000 in
theorem tw_506 : (Cond.fieldLink "java/lang/String" 1053 "jdk/internal/util/Preconditions" "SIOOBE_FORMATTER" "Ljava/util/function/BiFunction;" : Cond) ∈ WS := ws_t (tb_3 (List.mem_of_getElem? (i := 26) rfl)) rfl
set_option maxRecDepth 20000 in
theorem tw_508 : (Cond.methodLink "java/lang/String" 1059 ⟨"jdk/internal/util/Preconditions", "checkIndex", "(IILjava/util/function/BiFunction;)I"⟩ : Cond) ∈ WS := ws_t (tb_3 (List.mem_of_getElem? (i := 28) rfl)) rfl
set_option maxRecDepth 20000 in
theorem tw_509 : (Cond.static ⟨"jdk/internal/util/Preconditions", "checkIndex", "(IILjava/util/function/BiFunction;)I"⟩ : Cond) ∈ WS := ws_t (tb_3 (List.mem_of_getElem? (i := 29) rfl)) rfl
set_option maxRecDepth 20000 in
theorem tw_510 : (Cond.code ⟨"jdk/internal/util/Preconditions", "checkIndex", "(IILjava/util/function/BiFunction;)I"⟩ prog_30_method_11_code 3 (Option.some FieldType.int) : Cond) ∈ WS := ws_t (tb_3 (List.mem_of_getElem? (i := 30) rfl)) rfl
set_option maxRecDepth 20000 in
theorem tw_511 : (Cond.methodLink "java/lang/String" 498 ⟨"java/lang/StringUTF16", "charAt", "([BI)C"⟩ : Cond) ∈ WS := ws_t (tb_3 (List.mem_of_getElem? (i := 31) rfl)) rfl
set_option maxRecDepth 20000 in
theorem tw_512 : (Cond.static ⟨"java/lang/StringUTF16", "charAt", "([BI)C"⟩ : Cond) ∈ WS := ws_t (tb_3 (List.mem_of_getElem? (i := 32) rfl)) rfl
set_option maxRecDepth 20000 in
theorem tw_513 : (Cond.code ⟨"java/lang/StringUTF16", "charAt", "([BI)C"⟩ prog_24_method_83_code 2 (Option.some FieldType.char) : Cond) ∈ WS := ws_t (tb_3 (List.mem_of_getElem? (i := 33) rfl)) rfl
set_option maxRecDepth 20000 in
theorem tw_514 : (Cond.methodLink "java/lang/StringUTF16" 67 ⟨"java/lang/StringUTF16", "checkIndex", "(I[B)V"⟩ : Cond) ∈ WS := ws_t (tb_3 (List.mem_of_getElem? (i := 34) rfl)) rfl
set_option maxRecDepth 20000 in
theorem tw_515 : (Cond.static ⟨"java/lang/StringUTF16", "checkIndex", "(I[B)V"⟩ : Cond) ∈ WS := ws_t (tb_3 (List.mem_of_getElem? (i := 35) rfl)) rfl
set_option maxRecDepth 20000 in
theorem tw_516 : (Cond.code ⟨"java/lang/StringUTF16", "checkIndex", "(I[B)V"⟩ prog_24_method_91_code 2 none : Cond) ∈ WS := ws_t (tb_3 (List.mem_of_getElem? (i := 36) rfl)) rfl
set_option maxRecDepth 20000 in
theorem tw_517 : (Cond.methodLink "java/lang/StringUTF16" 48 ⟨"java/lang/StringUTF16", "length", "([B)I"⟩ : Cond) ∈ WS := ws_t (tb_3 (List.mem_of_getElem? (i := 37) rfl)) rfl
set_option maxRecDepth 20000 in
theorem tw_518 : (Cond.static ⟨"java/lang/StringUTF16", "length", "([B)I"⟩ : Cond) ∈ WS := ws_t (tb_3 (List.mem_of_getElem? (i := 38) rfl)) rfl
set_option maxRecDepth 20000 in
theorem tw_519 : (Cond.code ⟨"java/lang/StringUTF16", "length", "([B)I"⟩ prog_24_method_6_code 1 (Option.some FieldType.int) : Cond) ∈ WS := ws_t (tb_3 (List.mem_of_getElem? (i := 39) rfl)) rfl
set_option maxRecDepth 20000 in
theorem tw_520 : (Cond.methodLink "java/lang/StringUTF16" 414 ⟨"java/lang/String", "checkIndex", "(II)V"⟩ : Cond) ∈ WS := ws_t (tb_3 (List.mem_of_getElem? (i := 40) rfl)) rfl
set_option maxRecDepth 20000 in
theorem tw_521 : (Cond.methodLink "java/lang/StringUTF16" 71 ⟨"java/lang/StringUTF16", "getChar", "([BI)C"⟩ : Cond) ∈ WS := ws_t (tb_3 (List.mem_of_getElem? (i := 41) rfl)) rfl
set_option maxRecDepth 20000 in
theorem tw_522 : (Cond.static ⟨"java/lang/StringUTF16", "getChar", "([BI)C"⟩ : Cond) ∈ WS := ws_t (tb_3 (List.mem_of_getElem? (i := 42) rfl)) rfl
set_option maxRecDepth 20000 in
theorem tw_523 : (Cond.code ⟨"java/lang/StringUTF16", "getChar", "([BI)C"⟩ prog_24_method_5_code 2 (Option.some FieldType.char) : Cond) ∈ WS := ws_t (tb_3 (List.mem_of_getElem? (i := 43) rfl)) rfl
set_option maxRecDepth 20000 in
theorem tw_524 : (Cond.fieldLink "java/lang/StringUTF16" 44 "java/lang/StringUTF16" "$assertionsDisabled" "Z" : Cond) ∈ WS := ws_t (tb_3 (List.mem_of_getElem? (i := 44) rfl)) rfl
set_option maxRecDepth 20000 in
theorem tw_526 : (Cond.fieldLink "java/lang/StringUTF16" 59 "java/lang/StringUTF16" "HI_BYTE_SHIFT" "I" : Cond) ∈ WS := ws_t (tb_3 (List.mem_of_getElem? (i := 46) rfl)) rfl
set_option maxRecDepth 20000 in
theorem tw_528 : (Cond.fieldLink "java/lang/StringUTF16" 63 "java/lang/StringUTF16" "LO_BYTE_SHIFT" "I" : Cond) ∈ WS := ws_t (tb_3 (List.mem_of_getElem? (i := 48) rfl)) rfl
set_option maxRecDepth 20000 in
theorem tw_530 : (Cond.methodLink "MownMaze$Tokens" 71 ⟨"MownMaze$Tokens", "codeOf", "(Ljava/lang/String;II)J"⟩ : Cond) ∈ WS := ws_t (tb_3 (List.mem_of_getElem? (i := 50) rfl)) rfl
set_option maxRecDepth 20000 in
theorem tw_531 : (Cond.static ⟨"MownMaze$Tokens", "codeOf", "(Ljava/lang/String;II)J"⟩ : Cond) ∈ WS := ws_t (tb_3 (List.mem_of_getElem? (i := 51) rfl)) rfl
set_option maxRecDepth 20000 in
theorem tw_532 : (Cond.code ⟨"MownMaze$Tokens", "codeOf", "(Ljava/lang/String;II)J"⟩ prog_9_method_15_code 6 (Option.some FieldType.long) : Cond) ∈ WS := ws_t (tb_3 (List.mem_of_getElem? (i := 52) rfl)) rfl
set_option maxRecDepth 20000 in
theorem tw_533 : (Cond.methodLink "MownMaze$Reader" 45 ⟨"MownMaze$Reader", "fail", "(I)Z"⟩ : Cond) ∈ WS := ws_t (tb_3 (List.mem_of_getElem? (i := 53) rfl)) rfl
set_option maxRecDepth 20000 in
theorem tw_535 : (Cond.instanceMethod ⟨"MownMaze$Reader", "fail", "(I)Z"⟩ : Cond) ∈ WS := ws_t (tb_3 (List.mem_of_getElem? (i := 55) rfl)) rfl
set_option maxRecDepth 20000 in
theorem tw_536 : (Cond.code ⟨"MownMaze$Reader", "fail", "(I)Z"⟩ prog_6_method_18_code 2 (Option.some FieldType.boolean) : Cond) ∈ WS := ws_t (tb_3 (List.mem_of_getElem? (i := 56) rfl)) rfl
set_option maxRecDepth 20000 in
theorem tw_537 : (Cond.methodLink "MownMaze$Reader" 222 ⟨"MownMaze$Tokens", "start", "()I"⟩ : Cond) ∈ WS := ws_t (tb_3 (List.mem_of_getElem? (i := 57) rfl)) rfl
set_option maxRecDepth 20000 in
theorem tw_538 : (Cond.instanceMethod ⟨"MownMaze$Tokens", "start", "()I"⟩ : Cond) ∈ WS := ws_t (tb_3 (List.mem_of_getElem? (i := 58) rfl)) rfl
set_option maxRecDepth 20000 in
theorem tw_539 : (Cond.selects "MownMaze$Tokens" ⟨"MownMaze$Tokens", "start", "()I"⟩ ⟨"MownMaze$Tokens", "start", "()I"⟩ : Cond) ∈ WS := ws_t (tb_3 (List.mem_of_getElem? (i := 59) rfl)) rfl
set_option maxRecDepth 20000 in
theorem tw_540 : (Cond.code ⟨"MownMaze$Tokens", "start", "()I"⟩ prog_9_method_3_code 1 (Option.some FieldType.int) : Cond) ∈ WS := ws_t (tb_3 (List.mem_of_getElem? (i := 60) rfl)) rfl
set_option maxRecDepth 20000 in
theorem tw_541 : (Cond.methodLink "MownMaze$Reader" 166 ⟨"MownMaze$Reader", "failAt", "(II)Z"⟩ : Cond) ∈ WS := ws_t (tb_3 (List.mem_of_getElem? (i := 61) rfl)) rfl
set_option maxRecDepth 20000 in
theorem tw_543 : (Cond.instanceMethod ⟨"MownMaze$Reader", "failAt", "(II)Z"⟩ : Cond) ∈ WS := ws_t (tb_3 (List.mem_of_getElem? (i := 63) rfl)) rfl
set_option maxRecDepth 20000 in
theorem tw_544 : (Cond.code ⟨"MownMaze$Reader", "failAt", "(II)Z"⟩ prog_6_method_19_code 3 (Option.some FieldType.boolean) : Cond) ∈ WS := ws_t (tb_3 (List.mem_of_getElem? (i := 64) rfl)) rfl
set_option maxRecDepth 20000 in
theorem tw_545 : (Cond.methodLink "MownMaze$Reader" 59 ⟨"MownMaze$Plan", "isLaid", "()Z"⟩ : Cond) ∈ WS := ws_t (tb_3 (List.mem_of_getElem? (i := 65) rfl)) rfl
set_option maxRecDepth 20000 in
theorem tw_546 : (Cond.instanceMethod ⟨"MownMaze$Plan", "isLaid", "()Z"⟩ : Cond) ∈ WS := ws_t (tb_3 (List.mem_of_getElem? (i := 66) rfl)) rfl
set_option maxRecDepth 20000 in
theorem tw_547 : (Cond.selects "MownMaze$Plan" ⟨"MownMaze$Plan", "isLaid", "()Z"⟩ ⟨"MownMaze$Plan", "isLaid", "()Z"⟩ : Cond) ∈ WS := ws_t (tb_3 (List.mem_of_getElem? (i := 67) rfl)) rfl
set_option maxRecDepth 20000 in
theorem tw_548 : (Cond.code ⟨"MownMaze$Plan", "isLaid", "()Z"⟩ prog_5_method_4_code 1 (Option.some FieldType.boolean) : Cond) ∈ WS := ws_t (tb_3 (List.mem_of_getElem? (i := 68) rfl)) rfl
set_option maxRecDepth 20000 in
theorem tw_549 : (Cond.methodLink "MownMaze$Reader" 62 ⟨"MownMaze$Reader", "readSizes", "(LMownMaze$Plan;)Z"⟩ : Cond) ∈ WS := ws_t (tb_3 (List.mem_of_getElem? (i := 69) rfl)) rfl
set_option maxRecDepth 20000 in
theorem tw_551 : (Cond.instanceMethod ⟨"MownMaze$Reader", "readSizes", "(LMownMaze$Plan;)Z"⟩ : Cond) ∈ WS := ws_t (tb_3 (List.mem_of_getElem? (i := 71) rfl)) rfl
set_option maxRecDepth 20000 in
theorem tw_552 : (Cond.code ⟨"MownMaze$Reader", "readSizes", "(LMownMaze$Plan;)Z"⟩ prog_6_method_6_code 6 (Option.some FieldType.boolean) : Cond) ∈ WS := ws_t (tb_3 (List.mem_of_getElem? (i := 72) rfl)) rfl
set_option maxRecDepth 20000 in
theorem tw_553 : (Cond.methodLink "MownMaze$Reader" 71 ⟨"MownMaze$Tokens", "goOn", "()V"⟩ : Cond) ∈ WS := ws_t (tb_3 (List.mem_of_getElem? (i := 73) rfl)) rfl
set_option maxRecDepth 20000 in
theorem tw_555 : (Cond.methodLink "MownMaze$Reader" 102 ⟨"MownMaze$Reader", "takeNamed", "(Ljava/lang/String;II)Z"⟩ : Cond) ∈ WS := ws_t (tb_3 (List.mem_of_getElem? (i := 75) rfl)) rfl
set_option maxRecDepth 20000 in
theorem tw_557 : (Cond.instanceMethod ⟨"MownMaze$Reader", "takeNamed", "(Ljava/lang/String;II)Z"⟩ : Cond) ∈ WS := ws_t (tb_3 (List.mem_of_getElem? (i := 77) rfl)) rfl
set_option maxRecDepth 20000 in
theorem tw_558 : (Cond.code ⟨"MownMaze$Reader", "takeNamed", "(Ljava/lang/String;II)Z"⟩ prog_6_method_16_code 4 (Option.some FieldType.boolean) : Cond) ∈ WS := ws_t (tb_3 (List.mem_of_getElem? (i := 78) rfl)) rfl
set_option maxRecDepth 20000 in
theorem tw_559 : (Cond.methodLink "MownMaze$Reader" 181 ⟨"MownMaze$Reader", "takeWord", "(Ljava/lang/String;)Z"⟩ : Cond) ∈ WS := ws_t (tb_3 (List.mem_of_getElem? (i := 79) rfl)) rfl
set_option maxRecDepth 20000 in
theorem tw_561 : (Cond.instanceMethod ⟨"MownMaze$Reader", "takeWord", "(Ljava/lang/String;)Z"⟩ : Cond) ∈ WS := ws_t (tb_3 (List.mem_of_getElem? (i := 81) rfl)) rfl
set_option maxRecDepth 20000 in
theorem tw_562 : (Cond.code ⟨"MownMaze$Reader", "takeWord", "(Ljava/lang/String;)Z"⟩ prog_6_method_13_code 2 (Option.some FieldType.boolean) : Cond) ∈ WS := ws_t (tb_3 (List.mem_of_getElem? (i := 82) rfl)) rfl
set_option maxRecDepth 20000 in
theorem tw_563 : (Cond.methodLink "MownMaze$Reader" 216 ⟨"MownMaze$Tokens", "isWord", "(Ljava/lang/String;)Z"⟩ : Cond) ∈ WS := ws_t (tb_3 (List.mem_of_getElem? (i := 83) rfl)) rfl
set_option maxRecDepth 20000 in
theorem tw_564 : (Cond.instanceMethod ⟨"MownMaze$Tokens", "isWord", "(Ljava/lang/String;)Z"⟩ : Cond) ∈ WS := ws_t (tb_3 (List.mem_of_getElem? (i := 84) rfl)) rfl
set_option maxRecDepth 20000 in
theorem tw_565 : (Cond.selects "MownMaze$Tokens" ⟨"MownMaze$Tokens", "isWord", "(Ljava/lang/String;)Z"⟩ ⟨"MownMaze$Tokens", "isWord", "(Ljava/lang/String;)Z"⟩ : Cond) ∈ WS := ws_t (tb_3 (List.mem_of_getElem? (i := 85) rfl)) rfl
set_option maxRecDepth 20000 in
theorem tw_566 : (Cond.code ⟨"MownMaze$Tokens", "isWord", "(Ljava/lang/String;)Z"⟩ prog_9_method_11_code 4 (Option.some FieldType.boolean) : Cond) ∈ WS := ws_t (tb_3 (List.mem_of_getElem? (i := 86) rfl)) rfl
set_option maxRecDepth 20000 in
theorem tw_567 : (Cond.methodLink "MownMaze$Tokens" 59 ⟨"MownMaze$Tokens", "letterCount", "()I"⟩ : Cond) ∈ WS := ws_t (tb_3 (List.mem_of_getElem? (i := 87) rfl)) rfl
set_option maxRecDepth 20000 in
theorem tw_568 : (Cond.instanceMethod ⟨"MownMaze$Tokens", "letterCount", "()I"⟩ : Cond) ∈ WS := ws_t (tb_3 (List.mem_of_getElem? (i := 88) rfl)) rfl
set_option maxRecDepth 20000 in
theorem tw_569 : (Cond.selects "MownMaze$Tokens" ⟨"MownMaze$Tokens", "letterCount", "()I"⟩ ⟨"MownMaze$Tokens", "letterCount", "()I"⟩ : Cond) ∈ WS := ws_t (tb_3 (List.mem_of_getElem? (i := 89) rfl)) rfl
set_option maxRecDepth 20000 in
theorem tw_570 : (Cond.code ⟨"MownMaze$Tokens", "letterCount", "()I"⟩ prog_9_method_6_code 1 (Option.some FieldType.int) : Cond) ∈ WS := ws_t (tb_3 (List.mem_of_getElem? (i := 90) rfl)) rfl
set_option maxRecDepth 20000 in
theorem tw_571 : (Cond.methodLink "MownMaze$Reader" 176 ⟨"MownMaze$Reader", "takeWhole", "(II)Z"⟩ : Cond) ∈ WS := ws_t (tb_3 (List.mem_of_getElem? (i := 91) rfl)) rfl
set_option maxRecDepth 20000 in
theorem tw_573 : (Cond.instanceMethod ⟨"MownMaze$Reader", "takeWhole", "(II)Z"⟩ : Cond) ∈ WS := ws_t (tb_3 (List.mem_of_getElem? (i := 93) rfl)) rfl
set_option maxRecDepth 20000 in
theorem tw_574 : (Cond.code ⟨"MownMaze$Reader", "takeWhole", "(II)Z"⟩ prog_6_method_15_code 3 (Option.some FieldType.boolean) : Cond) ∈ WS := ws_t (tb_3 (List.mem_of_getElem? (i := 94) rfl)) rfl
set_option maxRecDepth 20000 in
theorem tw_575 : (Cond.methodLink "MownMaze$Reader" 37 ⟨"MownMaze$Tokens", "kind", "()I"⟩ : Cond) ∈ WS := ws_t (tb_3 (List.mem_of_getElem? (i := 95) rfl)) rfl
set_option maxRecDepth 20000 in
theorem tw_576 : (Cond.instanceMethod ⟨"MownMaze$Tokens", "kind", "()I"⟩ : Cond) ∈ WS := ws_t (tb_3 (List.mem_of_getElem? (i := 96) rfl)) rfl
set_option maxRecDepth 20000 in
theorem tw_577 : (Cond.selects "MownMaze$Tokens" ⟨"MownMaze$Tokens", "kind", "()I"⟩ ⟨"MownMaze$Tokens", "kind", "()I"⟩ : Cond) ∈ WS := ws_t (tb_3 (List.mem_of_getElem? (i := 97) rfl)) rfl
set_option maxRecDepth 20000 in
theorem tw_578 : (Cond.code ⟨"MownMaze$Tokens", "kind", "()I"⟩ prog_9_method_2_code 1 (Option.some FieldType.int) : Cond) ∈ WS := ws_t (tb_3 (List.mem_of_getElem? (i := 98) rfl)) rfl
set_option maxRecDepth 20000 in
theorem tw_579 : (Cond.methodLink "MownMaze$Reader" 219 ⟨"MownMaze$Tokens", "value", "()I"⟩ : Cond) ∈ WS := ws_t (tb_3 (List.mem_of_getElem? (i := 99) rfl)) rfl
set_option maxRecDepth 20000 in
theorem tw_580 : (Cond.instanceMethod ⟨"MownMaze$Tokens", "value", "()I"⟩ : Cond) ∈ WS := ws_t (tb_3 (List.mem_of_getElem? (i := 100) rfl)) rfl
set_option maxRecDepth 20000 in
theorem tw_581 : (Cond.selects "MownMaze$Tokens" ⟨"MownMaze$Tokens", "value", "()I"⟩ ⟨"MownMaze$Tokens", "value", "()I"⟩ : Cond) ∈ WS := ws_t (tb_3 (List.mem_of_getElem? (i := 101) rfl)) rfl
set_option maxRecDepth 20000 in
theorem tw_582 : (Cond.code ⟨"MownMaze$Tokens", "value", "()I"⟩ prog_9_method_4_code 1 (Option.some FieldType.int) : Cond) ∈ WS := ws_t (tb_3 (List.mem_of_getElem? (i := 102) rfl)) rfl
set_option maxRecDepth 20000 in
theorem tw_587 : (Cond.methodLink "MownMaze$Reader" 117 ⟨"MownMaze$Plan", "lay", "(IIIII)V"⟩ : Cond) ∈ WS := ws_t (tb_3 (List.mem_of_getElem? (i := 107) rfl)) rfl
set_option maxRecDepth 20000 in
theorem tw_588 : (Cond.instanceMethod ⟨"MownMaze$Plan", "lay", "(IIIII)V"⟩ : Cond) ∈ WS := ws_t (tb_3 (List.mem_of_getElem? (i := 108) rfl)) rfl
set_option maxRecDepth 20000 in
theorem tw_589 : (Cond.selects "MownMaze$Plan" ⟨"MownMaze$Plan", "lay", "(IIIII)V"⟩ ⟨"MownMaze$Plan", "lay", "(IIIII)V"⟩ : Cond) ∈ WS := ws_t (tb_3 (List.mem_of_getElem? (i := 109) rfl)) rfl
set_option maxRecDepth 20000 in
theorem tw_590 : (Cond.code ⟨"MownMaze$Plan", "lay", "(IIIII)V"⟩ prog_5_method_3_code 6 none : Cond) ∈ WS := ws_t (tb_3 (List.mem_of_getElem? (i := 110) rfl)) rfl
set_option maxRecDepth 20000 in
theorem tw_591 : (Cond.methodLink "MownMaze$Reader" 65 ⟨"MownMaze$Plan", "hasNoise", "()Z"⟩ : Cond) ∈ WS := ws_t (tb_3 (List.mem_of_getElem? (i := 111) rfl)) rfl
set_option maxRecDepth 20000 in
theorem tw_592 : (Cond.instanceMethod ⟨"MownMaze$Plan", "hasNoise", "()Z"⟩ : Cond) ∈ WS := ws_t (tb_3 (List.mem_of_getElem? (i := 112) rfl)) rfl
set_option maxRecDepth 20000 in
theorem tw_593 : (Cond.selects "MownMaze$Plan" ⟨"MownMaze$Plan", "hasNoise", "()Z"⟩ ⟨"MownMaze$Plan", "hasNoise", "()Z"⟩ : Cond) ∈ WS := ws_t (tb_3 (List.mem_of_getElem? (i := 113) rfl)) rfl
set_option maxRecDepth 20000 in
theorem tw_594 : (Cond.code ⟨"MownMaze$Plan", "hasNoise", "()Z"⟩ prog_5_method_6_code 1 (Option.some FieldType.boolean) : Cond) ∈ WS := ws_t (tb_3 (List.mem_of_getElem? (i := 114) rfl)) rfl
set_option maxRecDepth 20000 in
theorem tw_595 : (Cond.methodLink "MownMaze$Reader" 68 ⟨"MownMaze$Plan", "hasRoomFor", "(I)Z"⟩ : Cond) ∈ WS := ws_t (tb_3 (List.mem_of_getElem? (i := 115) rfl)) rfl
set_option maxRecDepth 20000 in
theorem tw_596 : (Cond.instanceMethod ⟨"MownMaze$Plan", "hasRoomFor", "(I)Z"⟩ : Cond) ∈ WS := ws_t (tb_3 (List.mem_of_getElem? (i := 116) rfl)) rfl
set_option maxRecDepth 20000 in
theorem tw_597 : (Cond.selects "MownMaze$Plan" ⟨"MownMaze$Plan", "hasRoomFor", "(I)Z"⟩ ⟨"MownMaze$Plan", "hasRoomFor", "(I)Z"⟩ : Cond) ∈ WS := ws_t (tb_3 (List.mem_of_getElem? (i := 117) rfl)) rfl
set_option maxRecDepth 20000 in
theorem tw_598 : (Cond.code ⟨"MownMaze$Plan", "hasRoomFor", "(I)Z"⟩ prog_5_method_7_code 2 (Option.some FieldType.boolean) : Cond) ∈ WS := ws_t (tb_3 (List.mem_of_getElem? (i := 118) rfl)) rfl
set_option maxRecDepth 20000 in
theorem tw_599 : (Cond.methodLink "MownMaze$Reader" 78 ⟨"MownMaze$Reader", "readRow", "(LMownMaze$Plan;LMownMaze$Picture;Z)Z"⟩ : Cond) ∈ WS := ws_t (tb_3 (List.mem_of_getElem? (i := 119) rfl)) rfl
set_option maxRecDepth 20000 in
theorem tw_601 : (Cond.instanceMethod ⟨"MownMaze$Reader", "readRow", "(LMownMaze$Plan;LMownMaze$Picture;Z)Z"⟩ : Cond) ∈ WS := ws_t (tb_3 (List.mem_of_getElem? (i := 121) rfl)) rfl
set_option maxRecDepth 20000 in
theorem tw_602 : (Cond.code ⟨"MownMaze$Reader", "readRow", "(LMownMaze$Plan;LMownMaze$Picture;Z)Z"⟩ prog_6_method_7_code 7 (Option.some FieldType.boolean) : Cond) ∈ WS := ws_t (tb_3 (List.mem_of_getElem? (i := 122) rfl)) rfl
set_option maxRecDepth 20000 in
theorem tw_603 : (Cond.methodLink "MownMaze$Reader" 129 ⟨"MownMaze$Tokens", "letterCount", "()I"⟩ : Cond) ∈ WS := ws_t (tb_3 (List.mem_of_getElem? (i := 123) rfl)) rfl
set_option maxRecDepth 20000 in
theorem tw_604 : (Cond.methodLink "MownMaze$Reader" 132 ⟨"MownMaze$Tokens", "letter", "(I)I"⟩ : Cond) ∈ WS := ws_t (tb_3 (List.mem_of_getElem? (i := 124) rfl)) rfl
set_option maxRecDepth 20000 in
theorem tw_605 : (Cond.instanceMethod ⟨"MownMaze$Tokens", "letter", "(I)I"⟩ : Cond) ∈ WS := ws_t (tb_3 (List.mem_of_getElem? (i := 125) rfl)) rfl
set_option maxRecDepth 20000 in
theorem tw_606 : (Cond.selects "MownMaze$Tokens" ⟨"MownMaze$Tokens", "letter", "(I)I"⟩ ⟨"MownMaze$Tokens", "letter", "(I)I"⟩ : Cond) ∈ WS := ws_t (tb_3 (List.mem_of_getElem? (i := 126) rfl)) rfl
set_option maxRecDepth 20000 in
theorem tw_607 : (Cond.code ⟨"MownMaze$Tokens", "letter", "(I)I"⟩ prog_9_method_7_code 2 (Option.some FieldType.int) : Cond) ∈ WS := ws_t (tb_3 (List.mem_of_getElem? (i := 127) rfl)) rfl
set_option maxRecDepth 20000 in
theorem tw_608 : (Cond.methodLink "MownMaze$Reader" 141 ⟨"MownMaze$Ground", "number", "(II)I"⟩ : Cond) ∈ WS := ws_t (tb_3 (List.mem_of_getElem? (i := 128) rfl)) rfl
set_option maxRecDepth 20000 in
theorem tw_609 : (Cond.methodLink "MownMaze$Reader" 144 ⟨"MownMaze$Picture", "tell", "(II)V"⟩ : Cond) ∈ WS := ws_t (tb_3 (List.mem_of_getElem? (i := 129) rfl)) rfl
set_option maxRecDepth 20000 in
theorem tw_610 : (Cond.instanceMethod ⟨"MownMaze$Picture", "tell", "(II)V"⟩ : Cond) ∈ WS := ws_t (tb_3 (List.mem_of_getElem? (i := 130) rfl)) rfl
set_option maxRecDepth 20000 in
theorem tw_611 : (Cond.selects "MownMaze$Picture" ⟨"MownMaze$Picture", "tell", "(II)V"⟩ ⟨"MownMaze$Picture", "tell", "(II)V"⟩ : Cond) ∈ WS := ws_t (tb_3 (List.mem_of_getElem? (i := 131) rfl)) rfl
set_option maxRecDepth 20000 in
theorem tw_612 : (Cond.code ⟨"MownMaze$Picture", "tell", "(II)V"⟩ prog_4_method_3_code 3 none : Cond) ∈ WS := ws_t (tb_3 (List.mem_of_getElem? (i := 132) rfl)) rfl
set_option maxRecDepth 20000 in
theorem tw_614 : (Cond.methodLink "MownMaze$Reader" 88 ⟨"MownMaze$Reader", "readGate", "(LMownMaze$Plan;)Z"⟩ : Cond) ∈ WS := ws_t (tb_3 (List.mem_of_getElem? (i := 134) rfl)) rfl
set_option maxRecDepth 20000 in
theorem tw_616 : (Cond.instanceMethod ⟨"MownMaze$Reader", "readGate", "(LMownMaze$Plan;)Z"⟩ : Cond) ∈ WS := ws_t (tb_3 (List.mem_of_getElem? (i := 136) rfl)) rfl
set_option maxRecDepth 20000 in
theorem tw_617 : (Cond.code ⟨"MownMaze$Reader", "readGate", "(LMownMaze$Plan;)Z"⟩ prog_6_method_8_code 2 (Option.some FieldType.boolean) : Cond) ∈ WS := ws_t (tb_3 (List.mem_of_getElem? (i := 137) rfl)) rfl
set_option maxRecDepth 20000 in
theorem tw_618 : (Cond.methodLink "MownMaze$Reader" 148 ⟨"MownMaze$Reader", "takeCell", "(LMownMaze$Ground;)Z"⟩ : Cond) ∈ WS := ws_t (tb_3 (List.mem_of_getElem? (i := 138) rfl)) rfl
set_option maxRecDepth 20000 in
theorem tw_620 : (Cond.instanceMethod ⟨"MownMaze$Reader", "takeCell", "(LMownMaze$Ground;)Z"⟩ : Cond) ∈ WS := ws_t (tb_3 (List.mem_of_getElem? (i := 140) rfl)) rfl
set_option maxRecDepth 20000 in
theorem tw_621 : (Cond.code ⟨"MownMaze$Reader", "takeCell", "(LMownMaze$Ground;)Z"⟩ prog_6_method_17_code 3 (Option.some FieldType.boolean) : Cond) ∈ WS := ws_t (tb_3 (List.mem_of_getElem? (i := 141) rfl)) rfl
set_option maxRecDepth 20000 in
theorem tw_622 : (Cond.methodLink "MownMaze$Reader" 49 ⟨"MownMaze$Reader", "takeSign", "(C)Z"⟩ : Cond) ∈ WS := ws_t (tb_3 (List.mem_of_getElem? (i := 142) rfl)) rfl
set_option maxRecDepth 20000 in
theorem tw_624 : (Cond.instanceMethod ⟨"MownMaze$Reader", "takeSign", "(C)Z"⟩ : Cond) ∈ WS := ws_t (tb_3 (List.mem_of_getElem? (i := 144) rfl)) rfl
set_option maxRecDepth 20000 in
theorem tw_625 : (Cond.code ⟨"MownMaze$Reader", "takeSign", "(C)Z"⟩ prog_6_method_12_code 2 (Option.some FieldType.boolean) : Cond) ∈ WS := ws_t (tb_3 (List.mem_of_getElem? (i := 145) rfl)) rfl
set_option maxRecDepth 20000 in
theorem tw_626 : (Cond.methodLink "MownMaze$Reader" 213 ⟨"MownMaze$Tokens", "isSign", "(C)Z"⟩ : Cond) ∈ WS := ws_t (tb_3 (List.mem_of_getElem? (i := 146) rfl)) rfl
set_option maxRecDepth 20000 in
theorem tw_627 : (Cond.instanceMethod ⟨"MownMaze$Tokens", "isSign", "(C)Z"⟩ : Cond) ∈ WS := ws_t (tb_3 (List.mem_of_getElem? (i := 147) rfl)) rfl
set_option maxRecDepth 20000 in
theorem tw_628 : (Cond.selects "MownMaze$Tokens" ⟨"MownMaze$Tokens", "isSign", "(C)Z"⟩ ⟨"MownMaze$Tokens", "isSign", "(C)Z"⟩ : Cond) ∈ WS := ws_t (tb_3 (List.mem_of_getElem? (i := 148) rfl)) rfl
set_option maxRecDepth 20000 in
theorem tw_629 : (Cond.code ⟨"MownMaze$Tokens", "isSign", "(C)Z"⟩ prog_9_method_10_code 2 (Option.some FieldType.boolean) : Cond) ∈ WS := ws_t (tb_3 (List.mem_of_getElem? (i := 149) rfl)) rfl
set_option maxRecDepth 20000 in
theorem tw_631 : (Cond.static ⟨"MownMaze", "isIn", "(JI)Z"⟩ : Cond) ∈ WS := ws_t (tb_3 (List.mem_of_getElem? (i := 151) rfl)) rfl
set_option maxRecDepth 20000 in
theorem tw_632 : (Cond.code ⟨"MownMaze", "isIn", "(JI)Z"⟩ prog_1_method_72_code 3 (Option.some FieldType.boolean) : Cond) ∈ WS := ws_t (tb_3 (List.mem_of_getElem? (i := 152) rfl)) rfl
set_option maxRecDepth 20000 in
theorem tw_633 : (Cond.methodLink "MownMaze$Reader" 170 ⟨"MownMaze$Plan", "addGate", "(I)V"⟩ : Cond) ∈ WS := ws_t (tb_3 (List.mem_of_getElem? (i := 153) rfl)) rfl
set_option maxRecDepth 20000 in
theorem tw_634 : (Cond.instanceMethod ⟨"MownMaze$Plan", "addGate", "(I)V"⟩ : Cond) ∈ WS := ws_t (tb_3 (List.mem_of_getElem? (i := 154) rfl)) rfl
set_option maxRecDepth 20000 in
theorem tw_635 : (Cond.selects "MownMaze$Plan" ⟨"MownMaze$Plan", "addGate", "(I)V"⟩ ⟨"MownMaze$Plan", "addGate", "(I)V"⟩ : Cond) ∈ WS := ws_t (tb_3 (List.mem_of_getElem? (i := 155) rfl)) rfl
set_option maxRecDepth 20000 in
theorem tw_636 : (Cond.code ⟨"MownMaze$Plan", "addGate", "(I)V"⟩ prog_5_method_8_code 2 none : Cond) ∈ WS := ws_t (tb_3 (List.mem_of_getElem? (i := 156) rfl)) rfl
set_option maxRecDepth 20000 in
theorem tw_638 : (Cond.methodLink "MownMaze$Reader" 91 ⟨"MownMaze$Reader", "readNoise", "(LMownMaze$Plan;)Z"⟩ : Cond) ∈ WS := ws_t (tb_3 (List.mem_of_getElem? (i := 158) rfl)) rfl
set_option maxRecDepth 20000 in
theorem tw_640 : (Cond.instanceMethod ⟨"MownMaze$Reader", "readNoise", "(LMownMaze$Plan;)Z"⟩ : Cond) ∈ WS := ws_t (tb_3 (List.mem_of_getElem? (i := 160) rfl)) rfl
set_option maxRecDepth 20000 in
theorem tw_641 : (Cond.code ⟨"MownMaze$Reader", "readNoise", "(LMownMaze$Plan;)Z"⟩ prog_6_method_9_code 2 (Option.some FieldType.boolean) : Cond) ∈ WS := ws_t (tb_3 (List.mem_of_getElem? (i := 161) rfl)) rfl
set_option maxRecDepth 20000 in
theorem tw_642 : (Cond.methodLink "MownMaze$Reader" 94 ⟨"MownMaze$Reader", "readHeard", "(LMownMaze$Plan;)Z"⟩ : Cond) ∈ WS := ws_t (tb_3 (List.mem_of_getElem? (i := 162) rfl)) rfl
set_option maxRecDepth 20000 in
theorem tw_644 : (Cond.instanceMethod ⟨"MownMaze$Reader", "readHeard", "(LMownMaze$Plan;)Z"⟩ : Cond) ∈ WS := ws_t (tb_3 (List.mem_of_getElem? (i := 164) rfl)) rfl
set_option maxRecDepth 20000 in
theorem tw_645 : (Cond.code ⟨"MownMaze$Reader", "readHeard", "(LMownMaze$Plan;)Z"⟩ prog_6_method_10_code 3 (Option.some FieldType.boolean) : Cond) ∈ WS := ws_t (tb_3 (List.mem_of_getElem? (i := 165) rfl)) rfl
set_option maxRecDepth 20000 in
theorem tw_647 : (Cond.methodLink "MownMaze$Reader" 185 ⟨"MownMaze$Plan", "addHeard", "(II)V"⟩ : Cond) ∈ WS := ws_t (tb_3 (List.mem_of_getElem? (i := 167) rfl)) rfl
set_option maxRecDepth 20000 in
theorem tw_648 : (Cond.instanceMethod ⟨"MownMaze$Plan", "addHeard", "(II)V"⟩ : Cond) ∈ WS := ws_t (tb_3 (List.mem_of_getElem? (i := 168) rfl)) rfl
set_option maxRecDepth 20000 in
theorem tw_649 : (Cond.selects "MownMaze$Plan" ⟨"MownMaze$Plan", "addHeard", "(II)V"⟩ ⟨"MownMaze$Plan", "addHeard", "(II)V"⟩ : Cond) ∈ WS := ws_t (tb_3 (List.mem_of_getElem? (i := 169) rfl)) rfl
set_option maxRecDepth 20000 in
theorem tw_650 : (Cond.code ⟨"MownMaze$Plan", "addHeard", "(II)V"⟩ prog_5_method_9_code 3 none : Cond) ∈ WS := ws_t (tb_3 (List.mem_of_getElem? (i := 170) rfl)) rfl
set_option maxRecDepth 20000 in
theorem tw_651 : (Cond.methodLink "MownMaze$Reader" 97 ⟨"MownMaze$Reader", "readWalker", "(LMownMaze$Plan;)Z"⟩ : Cond) ∈ WS := ws_t (tb_3 (List.mem_of_getElem? (i := 171) rfl)) rfl
set_option maxRecDepth 20000 in
theorem tw_653 : (Cond.instanceMethod ⟨"MownMaze$Reader", "readWalker", "(LMownMaze$Plan;)Z"⟩ : Cond) ∈ WS := ws_t (tb_3 (List.mem_of_getElem? (i := 173) rfl)) rfl
set_option maxRecDepth 20000 in
theorem tw_654 : (Cond.code ⟨"MownMaze$Reader", "readWalker", "(LMownMaze$Plan;)Z"⟩ prog_6_method_11_code 6 (Option.some FieldType.boolean) : Cond) ∈ WS := ws_t (tb_3 (List.mem_of_getElem? (i := 174) rfl)) rfl
set_option maxRecDepth 20000 in
theorem tw_655 : (Cond.methodLink "MownMaze$Reader" 188 ⟨"MownMaze$Tokens", "code", "()J"⟩ : Cond) ∈ WS := ws_t (tb_3 (List.mem_of_getElem? (i := 175) rfl)) rfl
set_option maxRecDepth 20000 in
theorem tw_656 : (Cond.instanceMethod ⟨"MownMaze$Tokens", "code", "()J"⟩ : Cond) ∈ WS := ws_t (tb_3 (List.mem_of_getElem? (i := 176) rfl)) rfl
set_option maxRecDepth 20000 in
theorem tw_657 : (Cond.selects "MownMaze$Tokens" ⟨"MownMaze$Tokens", "code", "()J"⟩ ⟨"MownMaze$Tokens", "code", "()J"⟩ : Cond) ∈ WS := ws_t (tb_3 (List.mem_of_getElem? (i := 177) rfl)) rfl
set_option maxRecDepth 20000 in
theorem tw_658 : (Cond.code ⟨"MownMaze$Tokens", "code", "()J"⟩ prog_9_method_5_code 1 (Option.some FieldType.long) : Cond) ∈ WS := ws_t (tb_3 (List.mem_of_getElem? (i := 178) rfl)) rfl
set_option maxRecDepth 20000 in
theorem tw_659 : (Cond.methodLink "MownMaze$Reader" 192 ⟨"MownMaze$Plan", "hasWalkerNamed", "(J)Z"⟩ : Cond) ∈ WS := ws_t (tb_3 (List.mem_of_getElem? (i := 179) rfl)) rfl
set_option maxRecDepth 20000 in
theorem tw_660 : (Cond.instanceMethod ⟨"MownMaze$Plan", "hasWalkerNamed", "(J)Z"⟩ : Cond) ∈ WS := ws_t (tb_3 (List.mem_of_getElem? (i := 180) rfl)) rfl
set_option maxRecDepth 20000 in
theorem tw_661 : (Cond.selects "MownMaze$Plan" ⟨"MownMaze$Plan", "hasWalkerNamed", "(J)Z"⟩ ⟨"MownMaze$Plan", "hasWalkerNamed", "(J)Z"⟩ : Cond) ∈ WS := ws_t (tb_3 (List.mem_of_getElem? (i := 181) rfl)) rfl
set_option maxRecDepth 20000 in
theorem tw_662 : (Cond.code ⟨"MownMaze$Plan", "hasWalkerNamed", "(J)Z"⟩ prog_5_method_11_code 4 (Option.some FieldType.boolean) : Cond) ∈ WS := ws_t (tb_3 (List.mem_of_getElem? (i := 182) rfl)) rfl
set_option maxRecDepth 20000 in
theorem tw_664 : (Cond.methodLink "MownMaze$Reader" 198 ⟨"MownMaze$Reader", "takeOneOf", "(Ljava/lang/String;)Z"⟩ : Cond) ∈ WS := ws_t (tb_3 (List.mem_of_getElem? (i := 184) rfl)) rfl
set_option maxRecDepth 20000 in
theorem tw_666 : (Cond.instanceMethod ⟨"MownMaze$Reader", "takeOneOf", "(Ljava/lang/String;)Z"⟩ : Cond) ∈ WS := ws_t (tb_3 (List.mem_of_getElem? (i := 186) rfl)) rfl
set_option maxRecDepth 20000 in
theorem tw_667 : (Cond.code ⟨"MownMaze$Reader", "takeOneOf", "(Ljava/lang/String;)Z"⟩ prog_6_method_14_code 2 (Option.some FieldType.boolean) : Cond) ∈ WS := ws_t (tb_3 (List.mem_of_getElem? (i := 187) rfl)) rfl
set_option maxRecDepth 20000 in
theorem tw_672 : (Cond.methodLink "MownMaze$Reader" 209 ⟨"MownMaze$Plan", "addWalker", "(JIIII)V"⟩ : Cond) ∈ WS := ws_t (tb_3 (List.mem_of_getElem? (i := 192) rfl)) rfl
set_option maxRecDepth 20000 in
theorem tw_673 : (Cond.instanceMethod ⟨"MownMaze$Plan", "addWalker", "(JIIII)V"⟩ : Cond) ∈ WS := ws_t (tb_3 (List.mem_of_getElem? (i := 193) rfl)) rfl
set_option maxRecDepth 20000 in
theorem tw_674 : (Cond.selects "MownMaze$Plan" ⟨"MownMaze$Plan", "addWalker", "(JIIII)V"⟩ ⟨"MownMaze$Plan", "addWalker", "(JIIII)V"⟩ : Cond) ∈ WS := ws_t (tb_3 (List.mem_of_getElem? (i := 194) rfl)) rfl
set_option maxRecDepth 20000 in
theorem tw_675 : (Cond.code ⟨"MownMaze$Plan", "addWalker", "(JIIII)V"⟩ prog_5_method_10_code 8 none : Cond) ∈ WS := ws_t (tb_3 (List.mem_of_getElem? (i := 195) rfl)) rfl
set_option maxRecDepth 20000 in
theorem tw_676 : (Cond.methodLink "MownMaze$Reader" 41 ⟨"MownMaze$Plan", "lacksRows", "()Z"⟩ : Cond) ∈ WS := ws_t (tb_3 (List.mem_of_getElem? (i := 196) rfl)) rfl
set_option maxRecDepth 20000 in
theorem tw_677 : (Cond.instanceMethod ⟨"MownMaze$Plan", "lacksRows", "()Z"⟩ : Cond) ∈ WS := ws_t (tb_3 (List.mem_of_getElem? (i := 197) rfl)) rfl
set_option maxRecDepth 20000 in
theorem tw_678 : (Cond.selects "MownMaze$Plan" ⟨"MownMaze$Plan", "lacksRows", "()Z"⟩ ⟨"MownMaze$Plan", "lacksRows", "()Z"⟩ : Cond) ∈ WS := ws_t (tb_3 (List.mem_of_getElem? (i := 198) rfl)) rfl
set_option maxRecDepth 20000 in
theorem tw_679 : (Cond.code ⟨"MownMaze$Plan", "lacksRows", "()Z"⟩ prog_5_method_5_code 1 (Option.some FieldType.boolean) : Cond) ∈ WS := ws_t (tb_3 (List.mem_of_getElem? (i := 199) rfl)) rfl
set_option maxRecDepth 20000 in
theorem tw_680 : (Cond.methodLink "MownMaze" 90 ⟨"MownMaze$Tape", "clear", "()V"⟩ : Cond) ∈ WS := ws_t (tb_3 (List.mem_of_getElem? (i := 200) rfl)) rfl
set_option maxRecDepth 20000 in
theorem tw_681 : (Cond.instanceMethod ⟨"MownMaze$Tape", "clear", "()V"⟩ : Cond) ∈ WS := ws_t (tb_3 (List.mem_of_getElem? (i := 201) rfl)) rfl
set_option maxRecDepth 20000 in
theorem tw_682 : (Cond.selects "MownMaze$Tape" ⟨"MownMaze$Tape", "clear", "()V"⟩ ⟨"MownMaze$Tape", "clear", "()V"⟩ : Cond) ∈ WS := ws_t (tb_3 (List.mem_of_getElem? (i := 202) rfl)) rfl
set_option maxRecDepth 20000 in
theorem tw_683 : (Cond.code ⟨"MownMaze$Tape", "clear", "()V"⟩ prog_8_method_4_code 1 none : Cond) ∈ WS := ws_t (tb_3 (List.mem_of_getElem? (i := 203) rfl)) rfl
set_option maxRecDepth 20000 in
theorem tw_684 : (Cond.methodLink "MownMaze" 93 ⟨"MownMaze$Reader", "faultFound", "()I"⟩ : Cond) ∈ WS := ws_t (tb_3 (List.mem_of_getElem? (i := 204) rfl)) rfl
set_option maxRecDepth 20000 in
theorem tw_685 : (Cond.instanceMethod ⟨"MownMaze$Reader", "faultFound", "()I"⟩ : Cond) ∈ WS := ws_t (tb_3 (List.mem_of_getElem? (i := 205) rfl)) rfl
set_option maxRecDepth 20000 in
theorem tw_686 : (Cond.selects "MownMaze$Reader" ⟨"MownMaze$Reader", "faultFound", "()I"⟩ ⟨"MownMaze$Reader", "faultFound", "()I"⟩ : Cond) ∈ WS := ws_t (tb_3 (List.mem_of_getElem? (i := 206) rfl)) rfl
set_option maxRecDepth 20000 in
theorem tw_687 : (Cond.code ⟨"MownMaze$Reader", "faultFound", "()I"⟩ prog_6_method_2_code 1 (Option.some FieldType.int) : Cond) ∈ WS := ws_t (tb_3 (List.mem_of_getElem? (i := 207) rfl)) rfl
set_option maxRecDepth 20000 in
theorem tw_688 : (Cond.methodLink "MownMaze" 100 ⟨"MownMaze$Reader", "placeOfFault", "()I"⟩ : Cond) ∈ WS := ws_t (tb_3 (List.mem_of_getElem? (i := 208) rfl)) rfl
set_option maxRecDepth 20000 in
theorem tw_689 : (Cond.instanceMethod ⟨"MownMaze$Reader", "placeOfFault", "()I"⟩ : Cond) ∈ WS := ws_t (tb_3 (List.mem_of_getElem? (i := 209) rfl)) rfl
set_option maxRecDepth 20000 in
theorem tw_690 : (Cond.selects "MownMaze$Reader" ⟨"MownMaze$Reader", "placeOfFault", "()I"⟩ ⟨"MownMaze$Reader", "placeOfFault", "()I"⟩ : Cond) ∈ WS := ws_t (tb_3 (List.mem_of_getElem? (i := 210) rfl)) rfl
set_option maxRecDepth 20000 in
theorem tw_691 : (Cond.code ⟨"MownMaze$Reader", "placeOfFault", "()I"⟩ prog_6_method_3_code 1 (Option.some FieldType.int) : Cond) ∈ WS := ws_t (tb_3 (List.mem_of_getElem? (i := 211) rfl)) rfl
set_option maxRecDepth 20000 in
theorem tw_692 : (Cond.methodLink "MownMaze" 126 ⟨"MownMaze$History", "forget", "()V"⟩ : Cond) ∈ WS := ws_t (tb_3 (List.mem_of_getElem? (i := 212) rfl)) rfl
set_option maxRecDepth 20000 in
theorem tw_693 : (Cond.instanceMethod ⟨"MownMaze$History", "forget", "()V"⟩ : Cond) ∈ WS := ws_t (tb_3 (List.mem_of_getElem? (i := 213) rfl)) rfl
set_option maxRecDepth 20000 in
theorem tw_694 : (Cond.selects "MownMaze$History" ⟨"MownMaze$History", "forget", "()V"⟩ ⟨"MownMaze$History", "forget", "()V"⟩ : Cond) ∈ WS := ws_t (tb_3 (List.mem_of_getElem? (i := 214) rfl)) rfl
set_option maxRecDepth 20000 in
theorem tw_695 : (Cond.code ⟨"MownMaze$History", "forget", "()V"⟩ prog_3_method_2_code 1 none : Cond) ∈ WS := ws_t (tb_3 (List.mem_of_getElem? (i := 215) rfl)) rfl
set_option maxRecDepth 20000 in
theorem tw_696 : (Cond.methodLink "MownMaze" 129 ⟨"java/lang/Long", "bitCount", "(J)I"⟩ : Cond) ∈ WS := ws_t (tb_3 (List.mem_of_getElem? (i := 216) rfl)) rfl
set_option maxRecDepth 20000 in
theorem tw_697 : (Cond.static ⟨"java/lang/Long", "bitCount", "(J)I"⟩ : Cond) ∈ WS := ws_t (tb_3 (List.mem_of_getElem? (i := 217) rfl)) rfl
set_option maxRecDepth 20000 in
theorem tw_698 : (Cond.code ⟨"java/lang/Long", "bitCount", "(J)I"⟩ prog_19_method_50_code 2 (Option.some FieldType.int) : Cond) ∈ WS := ws_t (tb_3 (List.mem_of_getElem? (i := 218) rfl)) rfl
set_option maxRecDepth 20000 in
theorem tw_699 : (Cond.constantLong "java/lang/Long" 314 6148914691236517205 : Cond) ∈ WS := ws_t (tb_3 (List.mem_of_getElem? (i := 219) rfl)) rfl
set_option maxRecDepth 20000 in
theorem tw_700 : (Cond.constantLong "java/lang/Long" 316 3689348814741910323 : Cond) ∈ WS := ws_t (tb_3 (List.mem_of_getElem? (i := 220) rfl)) rfl
set_option maxRecDepth 20000 in
theorem tw_701 : (Cond.constantLong "java/lang/Long" 318 1085102592571150095 : Cond) ∈ WS := ws_t (tb_3 (List.mem_of_getElem? (i := 221) rfl)) rfl
set_option maxRecDepth 20000 in
theorem tw_702 : (Cond.methodLink "MownMaze" 135 ⟨"MownMaze", "answer", "(I)I"⟩ : Cond) ∈ WS := ws_t (tb_3 (List.mem_of_getElem? (i := 222) rfl)) rfl
set_option maxRecDepth 20000 in
theorem tw_704 : (Cond.instanceMethod ⟨"MownMaze", "answer", "(I)I"⟩ : Cond) ∈ WS := ws_t (tb_3 (List.mem_of_getElem? (i := 224) rfl)) rfl
set_option maxRecDepth 20000 in
theorem tw_705 : (Cond.code ⟨"MownMaze", "answer", "(I)I"⟩ prog_1_method_50_code 2 (Option.some FieldType.int) : Cond) ∈ WS := ws_t (tb_3 (List.mem_of_getElem? (i := 225) rfl)) rfl
set_option maxRecDepth 20000 in
theorem tw_706 : (Cond.methodLink "MownMazeLaw" 28 ⟨"MownMaze", "fault", "()I"⟩ : Cond) ∈ WS := ws_t (tb_3 (List.mem_of_getElem? (i := 226) rfl)) rfl
set_option maxRecDepth 20000 in
theorem tw_707 : (Cond.instanceMethod ⟨"MownMaze", "fault", "()I"⟩ : Cond) ∈ WS := ws_t (tb_3 (List.mem_of_getElem? (i := 227) rfl)) rfl
set_option maxRecDepth 20000 in
theorem tw_708 : (Cond.selects "MownMaze" ⟨"MownMaze", "fault", "()I"⟩ ⟨"MownMaze", "fault", "()I"⟩ : Cond) ∈ WS := ws_t (tb_3 (List.mem_of_getElem? (i := 228) rfl)) rfl
set_option maxRecDepth 20000 in
theorem tw_709 : (Cond.code ⟨"MownMaze", "fault", "()I"⟩ prog_1_method_4_code 1 (Option.some FieldType.int) : Cond) ∈ WS := ws_t (tb_3 (List.mem_of_getElem? (i := 229) rfl)) rfl
set_option maxRecDepth 20000 in
theorem tw_710 : (Cond.methodLink "MownMazeLaw" 33 ⟨"MownMaze", "where", "()I"⟩ : Cond) ∈ WS := ws_t (tb_3 (List.mem_of_getElem? (i := 230) rfl)) rfl
set_option maxRecDepth 20000 in
theorem tw_711 : (Cond.instanceMethod ⟨"MownMaze", "where", "()I"⟩ : Cond) ∈ WS := ws_t (tb_3 (List.mem_of_getElem? (i := 231) rfl)) rfl
set_option maxRecDepth 20000 in
theorem tw_712 : (Cond.selects "MownMaze" ⟨"MownMaze", "where", "()I"⟩ ⟨"MownMaze", "where", "()I"⟩ : Cond) ∈ WS := ws_t (tb_3 (List.mem_of_getElem? (i := 232) rfl)) rfl
set_option maxRecDepth 20000 in
theorem tw_713 : (Cond.code ⟨"MownMaze", "where", "()I"⟩ prog_1_method_5_code 1 (Option.some FieldType.int) : Cond) ∈ WS := ws_t (tb_3 (List.mem_of_getElem? (i := 233) rfl)) rfl
set_option maxRecDepth 20000 in
theorem tw_714 : (Cond.methodLink "MownMazeLaw" 37 ⟨"MownMaze", "mown", "(II)I"⟩ : Cond) ∈ WS := ws_t (tb_3 (List.mem_of_getElem? (i := 234) rfl)) rfl
set_option maxRecDepth 20000 in
theorem tw_715 : (Cond.instanceMethod ⟨"MownMaze", "mown", "(II)I"⟩ : Cond) ∈ WS := ws_t (tb_3 (List.mem_of_getElem? (i := 235) rfl)) rfl
set_option maxRecDepth 20000 in
theorem tw_716 : (Cond.selects "MownMaze" ⟨"MownMaze", "mown", "(II)I"⟩ ⟨"MownMaze", "mown", "(II)I"⟩ : Cond) ∈ WS := ws_t (tb_3 (List.mem_of_getElem? (i := 236) rfl)) rfl
set_option maxRecDepth 20000 in
theorem tw_717 : (Cond.code ⟨"MownMaze", "mown", "(II)I"⟩ prog_1_method_6_code 3 (Option.some FieldType.int) : Cond) ∈ WS := ws_t (tb_3 (List.mem_of_getElem? (i := 237) rfl)) rfl
set_option maxRecDepth 20000 in
theorem tw_718 : (Cond.methodLink "MownMaze" 141 ⟨"MownMaze", "isCell", "(II)Z"⟩ : Cond) ∈ WS := ws_t (tb_3 (List.mem_of_getElem? (i := 238) rfl)) rfl
set_option maxRecDepth 20000 in
theorem tw_720 : (Cond.instanceMethod ⟨"MownMaze", "isCell", "(II)Z"⟩ : Cond) ∈ WS := ws_t (tb_4 (List.mem_of_getElem? (i := 0) rfl)) rfl
set_option maxRecDepth 20000 in
theorem tw_721 : (Cond.code ⟨"MownMaze", "isCell", "(II)Z"⟩ prog_1_method_54_code 3 (Option.some FieldType.boolean) : Cond) ∈ WS := ws_t (tb_4 (List.mem_of_getElem? (i := 1) rfl)) rfl
set_option maxRecDepth 20000 in
theorem tw_722 : (Cond.methodLink "MownMaze" 346 ⟨"MownMaze$Ground", "isInside", "(II)Z"⟩ : Cond) ∈ WS := ws_t (tb_4 (List.mem_of_getElem? (i := 2) rfl)) rfl
set_option maxRecDepth 20000 in
theorem tw_723 : (Cond.methodLink "MownMaze" 145 ⟨"MownMaze", "isMown", "(II)Z"⟩ : Cond) ∈ WS := ws_t (tb_4 (List.mem_of_getElem? (i := 3) rfl)) rfl
set_option maxRecDepth 20000 in
theorem tw_725 : (Cond.instanceMethod ⟨"MownMaze", "isMown", "(II)Z"⟩ : Cond) ∈ WS := ws_t (tb_4 (List.mem_of_getElem? (i := 5) rfl)) rfl
set_option maxRecDepth 20000 in
theorem tw_726 : (Cond.code ⟨"MownMaze", "isMown", "(II)Z"⟩ prog_1_method_58_code 3 (Option.some FieldType.boolean) : Cond) ∈ WS := ws_t (tb_4 (List.mem_of_getElem? (i := 6) rfl)) rfl
set_option maxRecDepth 20000 in
theorem tw_727 : (Cond.methodLink "MownMaze" 152 ⟨"MownMaze$Ground", "number", "(II)I"⟩ : Cond) ∈ WS := ws_t (tb_4 (List.mem_of_getElem? (i := 7) rfl)) rfl
set_option maxRecDepth 20000 in
theorem tw_728 : (Cond.methodLink "MownMaze" 352 ⟨"MownMaze", "isIn", "(JI)Z"⟩ : Cond) ∈ WS := ws_t (tb_4 (List.mem_of_getElem? (i := 8) rfl)) rfl
set_option maxRecDepth 20000 in
theorem tw_729 : (Cond.methodLink "MownMazeLaw" 42 ⟨"MownMaze", "beside", "(II)I"⟩ : Cond) ∈ WS := ws_t (tb_4 (List.mem_of_getElem? (i := 9) rfl)) rfl
set_option maxRecDepth 20000 in
theorem tw_730 : (Cond.instanceMethod ⟨"MownMaze", "beside", "(II)I"⟩ : Cond) ∈ WS := ws_t (tb_4 (List.mem_of_getElem? (i := 10) rfl)) rfl
set_option maxRecDepth 20000 in
theorem tw_731 : (Cond.selects "MownMaze" ⟨"MownMaze", "beside", "(II)I"⟩ ⟨"MownMaze", "beside", "(II)I"⟩ : Cond) ∈ WS := ws_t (tb_4 (List.mem_of_getElem? (i := 11) rfl)) rfl
set_option maxRecDepth 20000 in
theorem tw_732 : (Cond.code ⟨"MownMaze", "beside", "(II)I"⟩ prog_1_method_7_code 3 (Option.some FieldType.int) : Cond) ∈ WS := ws_t (tb_4 (List.mem_of_getElem? (i := 12) rfl)) rfl
set_option maxRecDepth 20000 in
theorem tw_733 : (Cond.methodLink "MownMaze" 158 ⟨"MownMaze$Ground", "countBeside", "(JI)I"⟩ : Cond) ∈ WS := ws_t (tb_4 (List.mem_of_getElem? (i := 13) rfl)) rfl
set_option maxRecDepth 20000 in
theorem tw_734 : (Cond.instanceMethod ⟨"MownMaze$Ground", "countBeside", "(JI)I"⟩ : Cond) ∈ WS := ws_t (tb_4 (List.mem_of_getElem? (i := 14) rfl)) rfl
set_option maxRecDepth 20000 in
theorem tw_735 : (Cond.selects "MownMaze$Ground" ⟨"MownMaze$Ground", "countBeside", "(JI)I"⟩ ⟨"MownMaze$Ground", "countBeside", "(JI)I"⟩ : Cond) ∈ WS := ws_t (tb_4 (List.mem_of_getElem? (i := 15) rfl)) rfl
set_option maxRecDepth 20000 in
theorem tw_736 : (Cond.code ⟨"MownMaze$Ground", "countBeside", "(JI)I"⟩ prog_2_method_8_code 4 (Option.some FieldType.int) : Cond) ∈ WS := ws_t (tb_4 (List.mem_of_getElem? (i := 16) rfl)) rfl
set_option maxRecDepth 20000 in
theorem tw_737 : (Cond.methodLink "MownMaze$Ground" 53 ⟨"MownMaze$Ground", "besideAll", "(J)J"⟩ : Cond) ∈ WS := ws_t (tb_4 (List.mem_of_getElem? (i := 17) rfl)) rfl
set_option maxRecDepth 20000 in
theorem tw_738 : (Cond.instanceMethod ⟨"MownMaze$Ground", "besideAll", "(J)J"⟩ : Cond) ∈ WS := ws_t (tb_4 (List.mem_of_getElem? (i := 18) rfl)) rfl
set_option maxRecDepth 20000 in
theorem tw_739 : (Cond.selects "MownMaze$Ground" ⟨"MownMaze$Ground", "besideAll", "(J)J"⟩ ⟨"MownMaze$Ground", "besideAll", "(J)J"⟩ : Cond) ∈ WS := ws_t (tb_4 (List.mem_of_getElem? (i := 19) rfl)) rfl
set_option maxRecDepth 20000 in
theorem tw_740 : (Cond.code ⟨"MownMaze$Ground", "besideAll", "(J)J"⟩ prog_2_method_7_code 7 (Option.some FieldType.long) : Cond) ∈ WS := ws_t (tb_4 (List.mem_of_getElem? (i := 20) rfl)) rfl
set_option maxRecDepth 20000 in
theorem tw_741 : (Cond.constantLong "MownMaze$Ground" 51 (-1) : Cond) ∈ WS := ws_t (tb_4 (List.mem_of_getElem? (i := 21) rfl)) rfl
set_option maxRecDepth 20000 in
theorem tw_742 : (Cond.methodLink "MownMaze$Ground" 57 ⟨"java/lang/Long", "bitCount", "(J)I"⟩ : Cond) ∈ WS := ws_t (tb_4 (List.mem_of_getElem? (i := 22) rfl)) rfl
set_option maxRecDepth 20000 in
theorem tw_743 : (Cond.methodLink "MownMazeLaw" 46 ⟨"MownMaze", "parts", "()I"⟩ : Cond) ∈ WS := ws_t (tb_4 (List.mem_of_getElem? (i := 23) rfl)) rfl
set_option maxRecDepth 20000 in
theorem tw_744 : (Cond.instanceMethod ⟨"MownMaze", "parts", "()I"⟩ : Cond) ∈ WS := ws_t (tb_4 (List.mem_of_getElem? (i := 24) rfl)) rfl
set_option maxRecDepth 20000 in
theorem tw_745 : (Cond.selects "MownMaze" ⟨"MownMaze", "parts", "()I"⟩ ⟨"MownMaze", "parts", "()I"⟩ : Cond) ∈ WS := ws_t (tb_4 (List.mem_of_getElem? (i := 25) rfl)) rfl
set_option maxRecDepth 20000 in
theorem tw_746 : (Cond.code ⟨"MownMaze", "parts", "()I"⟩ prog_1_method_8_code 1 (Option.some FieldType.int) : Cond) ∈ WS := ws_t (tb_4 (List.mem_of_getElem? (i := 26) rfl)) rfl
set_option maxRecDepth 20000 in
theorem tw_747 : (Cond.methodLink "MownMaze" 162 ⟨"MownMaze$Ground", "countParts", "(J)I"⟩ : Cond) ∈ WS := ws_t (tb_4 (List.mem_of_getElem? (i := 27) rfl)) rfl
set_option maxRecDepth 20000 in
theorem tw_748 : (Cond.instanceMethod ⟨"MownMaze$Ground", "countParts", "(J)I"⟩ : Cond) ∈ WS := ws_t (tb_4 (List.mem_of_getElem? (i := 28) rfl)) rfl
set_option maxRecDepth 20000 in
theorem tw_749 : (Cond.selects "MownMaze$Ground" ⟨"MownMaze$Ground", "countParts", "(J)I"⟩ ⟨"MownMaze$Ground", "countParts", "(J)I"⟩ : Cond) ∈ WS := ws_t (tb_4 (List.mem_of_getElem? (i := 29) rfl)) rfl
set_option maxRecDepth 20000 in
theorem tw_750 : (Cond.code ⟨"MownMaze$Ground", "countParts", "(J)I"⟩ prog_2_method_10_code 7 (Option.some FieldType.int) : Cond) ∈ WS := ws_t (tb_4 (List.mem_of_getElem? (i := 30) rfl)) rfl
set_option maxRecDepth 20000 in
theorem tw_751 : (Cond.methodLink "MownMaze$Ground" 63 ⟨"MownMaze$Ground", "flood", "(JJ)J"⟩ : Cond) ∈ WS := ws_t (tb_4 (List.mem_of_getElem? (i := 31) rfl)) rfl
set_option maxRecDepth 20000 in
theorem tw_752 : (Cond.instanceMethod ⟨"MownMaze$Ground", "flood", "(JJ)J"⟩ : Cond) ∈ WS := ws_t (tb_4 (List.mem_of_getElem? (i := 32) rfl)) rfl
set_option maxRecDepth 20000 in
theorem tw_753 : (Cond.selects "MownMaze$Ground" ⟨"MownMaze$Ground", "flood", "(JJ)J"⟩ ⟨"MownMaze$Ground", "flood", "(JJ)J"⟩ : Cond) ∈ WS := ws_t (tb_4 (List.mem_of_getElem? (i := 33) rfl)) rfl
set_option maxRecDepth 20000 in
theorem tw_754 : (Cond.code ⟨"MownMaze$Ground", "flood", "(JJ)J"⟩ prog_2_method_9_code 10 (Option.some FieldType.long) : Cond) ∈ WS := ws_t (tb_4 (List.mem_of_getElem? (i := 34) rfl)) rfl
set_option maxRecDepth 20000 in
theorem tw_755 : (Cond.methodLink "MownMazeLaw" 50 ⟨"MownMaze", "rings", "()I"⟩ : Cond) ∈ WS := ws_t (tb_4 (List.mem_of_getElem? (i := 35) rfl)) rfl
set_option maxRecDepth 20000 in
theorem tw_756 : (Cond.instanceMethod ⟨"MownMaze", "rings", "()I"⟩ : Cond) ∈ WS := ws_t (tb_4 (List.mem_of_getElem? (i := 36) rfl)) rfl
set_option maxRecDepth 20000 in
theorem tw_757 : (Cond.selects "MownMaze" ⟨"MownMaze", "rings", "()I"⟩ ⟨"MownMaze", "rings", "()I"⟩ : Cond) ∈ WS := ws_t (tb_4 (List.mem_of_getElem? (i := 37) rfl)) rfl
set_option maxRecDepth 20000 in
theorem tw_758 : (Cond.code ⟨"MownMaze", "rings", "()I"⟩ prog_1_method_9_code 1 (Option.some FieldType.int) : Cond) ∈ WS := ws_t (tb_4 (List.mem_of_getElem? (i := 38) rfl)) rfl
set_option maxRecDepth 20000 in
theorem tw_759 : (Cond.methodLink "MownMaze" 165 ⟨"MownMaze$Ground", "countRings", "(J)I"⟩ : Cond) ∈ WS := ws_t (tb_4 (List.mem_of_getElem? (i := 39) rfl)) rfl
set_option maxRecDepth 20000 in
theorem tw_760 : (Cond.instanceMethod ⟨"MownMaze$Ground", "countRings", "(J)I"⟩ : Cond) ∈ WS := ws_t (tb_4 (List.mem_of_getElem? (i := 40) rfl)) rfl
set_option maxRecDepth 20000 in
theorem tw_761 : (Cond.selects "MownMaze$Ground" ⟨"MownMaze$Ground", "countRings", "(J)I"⟩ ⟨"MownMaze$Ground", "countRings", "(J)I"⟩ : Cond) ∈ WS := ws_t (tb_4 (List.mem_of_getElem? (i := 41) rfl)) rfl
set_option maxRecDepth 20000 in
theorem tw_762 : (Cond.code ⟨"MownMaze$Ground", "countRings", "(J)I"⟩ prog_2_method_11_code 5 (Option.some FieldType.int) : Cond) ∈ WS := ws_t (tb_4 (List.mem_of_getElem? (i := 42) rfl)) rfl
set_option maxRecDepth 20000 in
theorem tw_763 : (Cond.methodLink "MownMaze$Ground" 67 ⟨"MownMaze$Ground", "countParts", "(J)I"⟩ : Cond) ∈ WS := ws_t (tb_4 (List.mem_of_getElem? (i := 43) rfl)) rfl
set_option maxRecDepth 20000 in
theorem tw_764 : (Cond.methodLink "MownMazeLaw" 54 ⟨"MownMaze", "ends", "()I"⟩ : Cond) ∈ WS := ws_t (tb_4 (List.mem_of_getElem? (i := 44) rfl)) rfl
set_option maxRecDepth 20000 in
theorem tw_765 : (Cond.instanceMethod ⟨"MownMaze", "ends", "()I"⟩ : Cond) ∈ WS := ws_t (tb_4 (List.mem_of_getElem? (i := 45) rfl)) rfl
set_option maxRecDepth 20000 in
theorem tw_766 : (Cond.selects "MownMaze" ⟨"MownMaze", "ends", "()I"⟩ ⟨"MownMaze", "ends", "()I"⟩ : Cond) ∈ WS := ws_t (tb_4 (List.mem_of_getElem? (i := 46) rfl)) rfl
set_option maxRecDepth 20000 in
theorem tw_767 : (Cond.code ⟨"MownMaze", "ends", "()I"⟩ prog_1_method_10_code 1 (Option.some FieldType.int) : Cond) ∈ WS := ws_t (tb_4 (List.mem_of_getElem? (i := 47) rfl)) rfl
set_option maxRecDepth 20000 in
theorem tw_768 : (Cond.methodLink "MownMaze" 168 ⟨"MownMaze$Ground", "countEnds", "(J)I"⟩ : Cond) ∈ WS := ws_t (tb_4 (List.mem_of_getElem? (i := 48) rfl)) rfl
set_option maxRecDepth 20000 in
theorem tw_769 : (Cond.instanceMethod ⟨"MownMaze$Ground", "countEnds", "(J)I"⟩ : Cond) ∈ WS := ws_t (tb_4 (List.mem_of_getElem? (i := 49) rfl)) rfl
set_option maxRecDepth 20000 in
theorem tw_770 : (Cond.selects "MownMaze$Ground" ⟨"MownMaze$Ground", "countEnds", "(J)I"⟩ ⟨"MownMaze$Ground", "countEnds", "(J)I"⟩ : Cond) ∈ WS := ws_t (tb_4 (List.mem_of_getElem? (i := 50) rfl)) rfl
set_option maxRecDepth 20000 in
theorem tw_771 : (Cond.code ⟨"MownMaze$Ground", "countEnds", "(J)I"⟩ prog_2_method_12_code 5 (Option.some FieldType.int) : Cond) ∈ WS := ws_t (tb_4 (List.mem_of_getElem? (i := 51) rfl)) rfl
set_option maxRecDepth 20000 in
theorem tw_773 : (Cond.methodLink "MownMaze$Ground" 74 ⟨"MownMaze$Ground", "countBeside", "(JI)I"⟩ : Cond) ∈ WS := ws_t (tb_4 (List.mem_of_getElem? (i := 53) rfl)) rfl
set_option maxRecDepth 20000 in
theorem tw_774 : (Cond.methodLink "MownMazeLaw" 58 ⟨"MownMaze", "steps", "(II)I"⟩ : Cond) ∈ WS := ws_t (tb_4 (List.mem_of_getElem? (i := 54) rfl)) rfl
set_option maxRecDepth 20000 in
theorem tw_775 : (Cond.instanceMethod ⟨"MownMaze", "steps", "(II)I"⟩ : Cond) ∈ WS := ws_t (tb_4 (List.mem_of_getElem? (i := 55) rfl)) rfl
set_option maxRecDepth 20000 in
theorem tw_776 : (Cond.selects "MownMaze" ⟨"MownMaze", "steps", "(II)I"⟩ ⟨"MownMaze", "steps", "(II)I"⟩ : Cond) ∈ WS := ws_t (tb_4 (List.mem_of_getElem? (i := 56) rfl)) rfl
set_option maxRecDepth 20000 in
theorem tw_777 : (Cond.code ⟨"MownMaze", "steps", "(II)I"⟩ prog_1_method_11_code 3 (Option.some FieldType.int) : Cond) ∈ WS := ws_t (tb_4 (List.mem_of_getElem? (i := 57) rfl)) rfl
set_option maxRecDepth 20000 in
theorem tw_778 : (Cond.methodLink "MownMaze" 171 ⟨"MownMaze", "isNumber", "(I)Z"⟩ : Cond) ∈ WS := ws_t (tb_4 (List.mem_of_getElem? (i := 58) rfl)) rfl
set_option maxRecDepth 20000 in
theorem tw_780 : (Cond.instanceMethod ⟨"MownMaze", "isNumber", "(I)Z"⟩ : Cond) ∈ WS := ws_t (tb_4 (List.mem_of_getElem? (i := 60) rfl)) rfl
set_option maxRecDepth 20000 in
theorem tw_781 : (Cond.code ⟨"MownMaze", "isNumber", "(I)Z"⟩ prog_1_method_55_code 2 (Option.some FieldType.boolean) : Cond) ∈ WS := ws_t (tb_4 (List.mem_of_getElem? (i := 61) rfl)) rfl
set_option maxRecDepth 20000 in
theorem tw_782 : (Cond.methodLink "MownMaze" 174 ⟨"MownMaze$Ground", "stepsBetween", "(JII)I"⟩ : Cond) ∈ WS := ws_t (tb_4 (List.mem_of_getElem? (i := 62) rfl)) rfl
set_option maxRecDepth 20000 in
theorem tw_783 : (Cond.instanceMethod ⟨"MownMaze$Ground", "stepsBetween", "(JII)I"⟩ : Cond) ∈ WS := ws_t (tb_4 (List.mem_of_getElem? (i := 63) rfl)) rfl
set_option maxRecDepth 20000 in
theorem tw_784 : (Cond.selects "MownMaze$Ground" ⟨"MownMaze$Ground", "stepsBetween", "(JII)I"⟩ ⟨"MownMaze$Ground", "stepsBetween", "(JII)I"⟩ : Cond) ∈ WS := ws_t (tb_4 (List.mem_of_getElem? (i := 64) rfl)) rfl
set_option maxRecDepth 20000 in
theorem tw_785 : (Cond.code ⟨"MownMaze$Ground", "stepsBetween", "(JII)I"⟩ prog_2_method_15_code 10 (Option.some FieldType.int) : Cond) ∈ WS := ws_t (tb_4 (List.mem_of_getElem? (i := 65) rfl)) rfl
set_option maxRecDepth 20000 in
theorem tw_786 : (Cond.methodLink "MownMazeLaw" 62 ⟨"MownMaze", "longest", "()I"⟩ : Cond) ∈ WS := ws_t (tb_4 (List.mem_of_getElem? (i := 66) rfl)) rfl
set_option maxRecDepth 20000 in
theorem tw_787 : (Cond.instanceMethod ⟨"MownMaze", "longest", "()I"⟩ : Cond) ∈ WS := ws_t (tb_4 (List.mem_of_getElem? (i := 67) rfl)) rfl
set_option maxRecDepth 20000 in
theorem tw_788 : (Cond.selects "MownMaze" ⟨"MownMaze", "longest", "()I"⟩ ⟨"MownMaze", "longest", "()I"⟩ : Cond) ∈ WS := ws_t (tb_4 (List.mem_of_getElem? (i := 68) rfl)) rfl
set_option maxRecDepth 20000 in
theorem tw_789 : (Cond.code ⟨"MownMaze", "longest", "()I"⟩ prog_1_method_12_code 1 (Option.some FieldType.int) : Cond) ∈ WS := ws_t (tb_4 (List.mem_of_getElem? (i := 69) rfl)) rfl
set_option maxRecDepth 20000 in
theorem tw_790 : (Cond.methodLink "MownMaze" 178 ⟨"MownMaze$Ground", "longestWay", "(J)I"⟩ : Cond) ∈ WS := ws_t (tb_4 (List.mem_of_getElem? (i := 70) rfl)) rfl
set_option maxRecDepth 20000 in
theorem tw_791 : (Cond.instanceMethod ⟨"MownMaze$Ground", "longestWay", "(J)I"⟩ : Cond) ∈ WS := ws_t (tb_4 (List.mem_of_getElem? (i := 71) rfl)) rfl
set_option maxRecDepth 20000 in
theorem tw_792 : (Cond.selects "MownMaze$Ground" ⟨"MownMaze$Ground", "longestWay", "(J)I"⟩ ⟨"MownMaze$Ground", "longestWay", "(J)I"⟩ : Cond) ∈ WS := ws_t (tb_4 (List.mem_of_getElem? (i := 72) rfl)) rfl
set_option maxRecDepth 20000 in
theorem tw_793 : (Cond.code ⟨"MownMaze$Ground", "longestWay", "(J)I"⟩ prog_2_method_17_code 5 (Option.some FieldType.int) : Cond) ∈ WS := ws_t (tb_4 (List.mem_of_getElem? (i := 73) rfl)) rfl
set_option maxRecDepth 20000 in
theorem tw_794 : (Cond.methodLink "MownMaze$Ground" 78 ⟨"MownMaze$Ground", "farthest", "(JI)I"⟩ : Cond) ∈ WS := ws_t (tb_4 (List.mem_of_getElem? (i := 74) rfl)) rfl
set_option maxRecDepth 20000 in
theorem tw_796 : (Cond.instanceMethod ⟨"MownMaze$Ground", "farthest", "(JI)I"⟩ : Cond) ∈ WS := ws_t (tb_4 (List.mem_of_getElem? (i := 76) rfl)) rfl
set_option maxRecDepth 20000 in
theorem tw_797 : (Cond.code ⟨"MownMaze$Ground", "farthest", "(JI)I"⟩ prog_2_method_18_code 10 (Option.some FieldType.int) : Cond) ∈ WS := ws_t (tb_4 (List.mem_of_getElem? (i := 77) rfl)) rfl
set_option maxRecDepth 20000 in
theorem tw_798 : (Cond.methodLink "MownMaze$Ground" 81 ⟨"java/lang/Math", "max", "(II)I"⟩ : Cond) ∈ WS := ws_t (tb_4 (List.mem_of_getElem? (i := 78) rfl)) rfl
set_option maxRecDepth 20000 in
theorem tw_799 : (Cond.static ⟨"java/lang/Math", "max", "(II)I"⟩ : Cond) ∈ WS := ws_t (tb_4 (List.mem_of_getElem? (i := 79) rfl)) rfl
set_option maxRecDepth 20000 in
theorem tw_800 : (Cond.code ⟨"java/lang/Math", "max", "(II)I"⟩ prog_20_method_65_code 2 (Option.some FieldType.int) : Cond) ∈ WS := ws_t (tb_4 (List.mem_of_getElem? (i := 80) rfl)) rfl
set_option maxRecDepth 20000 in
theorem tw_801 : (Cond.methodLink "MownMazeLaw" 66 ⟨"MownMaze", "splits", "(II)I"⟩ : Cond) ∈ WS := ws_t (tb_4 (List.mem_of_getElem? (i := 81) rfl)) rfl
set_option maxRecDepth 20000 in
theorem tw_802 : (Cond.instanceMethod ⟨"MownMaze", "splits", "(II)I"⟩ : Cond) ∈ WS := ws_t (tb_4 (List.mem_of_getElem? (i := 82) rfl)) rfl
set_option maxRecDepth 20000 in
theorem tw_803 : (Cond.selects "MownMaze" ⟨"MownMaze", "splits", "(II)I"⟩ ⟨"MownMaze", "splits", "(II)I"⟩ : Cond) ∈ WS := ws_t (tb_4 (List.mem_of_getElem? (i := 83) rfl)) rfl
set_option maxRecDepth 20000 in
theorem tw_804 : (Cond.code ⟨"MownMaze", "splits", "(II)I"⟩ prog_1_method_13_code 3 (Option.some FieldType.int) : Cond) ∈ WS := ws_t (tb_4 (List.mem_of_getElem? (i := 84) rfl)) rfl
set_option maxRecDepth 20000 in
theorem tw_805 : (Cond.methodLink "MownMaze" 181 ⟨"MownMaze$Ground", "isParting", "(JI)Z"⟩ : Cond) ∈ WS := ws_t (tb_4 (List.mem_of_getElem? (i := 85) rfl)) rfl
set_option maxRecDepth 20000 in
theorem tw_806 : (Cond.instanceMethod ⟨"MownMaze$Ground", "isParting", "(JI)Z"⟩ : Cond) ∈ WS := ws_t (tb_4 (List.mem_of_getElem? (i := 86) rfl)) rfl
set_option maxRecDepth 20000 in
theorem tw_807 : (Cond.selects "MownMaze$Ground" ⟨"MownMaze$Ground", "isParting", "(JI)Z"⟩ ⟨"MownMaze$Ground", "isParting", "(JI)Z"⟩ : Cond) ∈ WS := ws_t (tb_4 (List.mem_of_getElem? (i := 87) rfl)) rfl
set_option maxRecDepth 20000 in
theorem tw_808 : (Cond.code ⟨"MownMaze$Ground", "isParting", "(JI)Z"⟩ prog_2_method_13_code 8 (Option.some FieldType.boolean) : Cond) ∈ WS := ws_t (tb_4 (List.mem_of_getElem? (i := 88) rfl)) rfl
set_option maxRecDepth 20000 in
theorem tw_809 : (Cond.methodLink "MownMazeLaw" 70 ⟨"MownMaze", "at", "(II)I"⟩ : Cond) ∈ WS := ws_t (tb_4 (List.mem_of_getElem? (i := 89) rfl)) rfl
set_option maxRecDepth 20000 in
theorem tw_810 : (Cond.instanceMethod ⟨"MownMaze", "at", "(II)I"⟩ : Cond) ∈ WS := ws_t (tb_4 (List.mem_of_getElem? (i := 90) rfl)) rfl
set_option maxRecDepth 20000 in
theorem tw_811 : (Cond.selects "MownMaze" ⟨"MownMaze", "at", "(II)I"⟩ ⟨"MownMaze", "at", "(II)I"⟩ : Cond) ∈ WS := ws_t (tb_4 (List.mem_of_getElem? (i := 91) rfl)) rfl
set_option maxRecDepth 20000 in
theorem tw_812 : (Cond.code ⟨"MownMaze", "at", "(II)I"⟩ prog_1_method_14_code 3 (Option.some FieldType.int) : Cond) ∈ WS := ws_t (tb_4 (List.mem_of_getElem? (i := 92) rfl)) rfl
set_option maxRecDepth 20000 in
theorem tw_813 : (Cond.methodLink "MownMaze" 185 ⟨"MownMaze", "isWalker", "(I)Z"⟩ : Cond) ∈ WS := ws_t (tb_4 (List.mem_of_getElem? (i := 93) rfl)) rfl
set_option maxRecDepth 20000 in
theorem tw_815 : (Cond.instanceMethod ⟨"MownMaze", "isWalker", "(I)Z"⟩ : Cond) ∈ WS := ws_t (tb_4 (List.mem_of_getElem? (i := 95) rfl)) rfl
set_option maxRecDepth 20000 in
theorem tw_816 : (Cond.code ⟨"MownMaze", "isWalker", "(I)Z"⟩ prog_1_method_56_code 2 (Option.some FieldType.boolean) : Cond) ∈ WS := ws_t (tb_4 (List.mem_of_getElem? (i := 96) rfl)) rfl
set_option maxRecDepth 20000 in
theorem tw_817 : (Cond.methodLink "MownMaze" 188 ⟨"MownMaze", "isMinute", "(I)Z"⟩ : Cond) ∈ WS := ws_t (tb_4 (List.mem_of_getElem? (i := 97) rfl)) rfl
set_option maxRecDepth 20000 in
theorem tw_819 : (Cond.instanceMethod ⟨"MownMaze", "isMinute", "(I)Z"⟩ : Cond) ∈ WS := ws_t (tb_4 (List.mem_of_getElem? (i := 99) rfl)) rfl
set_option maxRecDepth 20000 in
theorem tw_820 : (Cond.code ⟨"MownMaze", "isMinute", "(I)Z"⟩ prog_1_method_57_code 2 (Option.some FieldType.boolean) : Cond) ∈ WS := ws_t (tb_4 (List.mem_of_getElem? (i := 100) rfl)) rfl
set_option maxRecDepth 20000 in
theorem tw_821 : (Cond.methodLink "MownMaze" 191 ⟨"MownMaze$Walk", "goTillDusk", "(LMownMaze$Plan;IJI)V"⟩ : Cond) ∈ WS := ws_t (tb_4 (List.mem_of_getElem? (i := 101) rfl)) rfl
set_option maxRecDepth 20000 in
theorem tw_822 : (Cond.instanceMethod ⟨"MownMaze$Walk", "goTillDusk", "(LMownMaze$Plan;IJI)V"⟩ : Cond) ∈ WS := ws_t (tb_4 (List.mem_of_getElem? (i := 102) rfl)) rfl
set_option maxRecDepth 20000 in
theorem tw_823 : (Cond.selects "MownMaze$Walk" ⟨"MownMaze$Walk", "goTillDusk", "(LMownMaze$Plan;IJI)V"⟩ ⟨"MownMaze$Walk", "goTillDusk", "(LMownMaze$Plan;IJI)V"⟩ : Cond) ∈ WS := ws_t (tb_4 (List.mem_of_getElem? (i := 103) rfl)) rfl
set_option maxRecDepth 20000 in
theorem tw_824 : (Cond.code ⟨"MownMaze$Walk", "goTillDusk", "(LMownMaze$Plan;IJI)V"⟩ prog_10_method_3_code 7 none : Cond) ∈ WS := ws_t (tb_4 (List.mem_of_getElem? (i := 104) rfl)) rfl
set_option maxRecDepth 20000 in
theorem tw_825 : (Cond.methodLink "MownMaze$Walk" 82 ⟨"MownMaze$Walk", "begin", "(LMownMaze$Plan;IJI)V"⟩ : Cond) ∈ WS := ws_t (tb_4 (List.mem_of_getElem? (i := 105) rfl)) rfl
set_option maxRecDepth 20000 in
theorem tw_826 : (Cond.instanceMethod ⟨"MownMaze$Walk", "begin", "(LMownMaze$Plan;IJI)V"⟩ : Cond) ∈ WS := ws_t (tb_4 (List.mem_of_getElem? (i := 106) rfl)) rfl
set_option maxRecDepth 20000 in
theorem tw_827 : (Cond.selects "MownMaze$Walk" ⟨"MownMaze$Walk", "begin", "(LMownMaze$Plan;IJI)V"⟩ ⟨"MownMaze$Walk", "begin", "(LMownMaze$Plan;IJI)V"⟩ : Cond) ∈ WS := ws_t (tb_4 (List.mem_of_getElem? (i := 107) rfl)) rfl
set_option maxRecDepth 20000 in
theorem tw_828 : (Cond.code ⟨"MownMaze$Walk", "begin", "(LMownMaze$Plan;IJI)V"⟩ prog_10_method_2_code 6 none : Cond) ∈ WS := ws_t (tb_4 (List.mem_of_getElem? (i := 108) rfl)) rfl
set_option maxRecDepth 20000 in
theorem tw_829 : (Cond.constant "MownMaze$Walk" 51 65537 : Cond) ∈ WS := ws_t (tb_4 (List.mem_of_getElem? (i := 109) rfl)) rfl
set_option maxRecDepth 20000 in
theorem tw_830 : (Cond.methodLink "MownMaze$Walk" 58 ⟨"MownMaze$Walk", "enter", "(II)V"⟩ : Cond) ∈ WS := ws_t (tb_4 (List.mem_of_getElem? (i := 110) rfl)) rfl
set_option maxRecDepth 20000 in
theorem tw_832 : (Cond.instanceMethod ⟨"MownMaze$Walk", "enter", "(II)V"⟩ : Cond) ∈ WS := ws_t (tb_4 (List.mem_of_getElem? (i := 112) rfl)) rfl
set_option maxRecDepth 20000 in
theorem tw_833 : (Cond.code ⟨"MownMaze$Walk", "enter", "(II)V"⟩ prog_10_method_13_code 3 none : Cond) ∈ WS := ws_t (tb_4 (List.mem_of_getElem? (i := 113) rfl)) rfl
set_option maxRecDepth 20000 in
theorem tw_836 : (Cond.methodLink "MownMaze$Walk" 69 ⟨"MownMaze$Plan", "hasNoise", "()Z"⟩ : Cond) ∈ WS := ws_t (tb_4 (List.mem_of_getElem? (i := 116) rfl)) rfl
set_option maxRecDepth 20000 in
theorem tw_837 : (Cond.methodLink "MownMaze$Walk" 76 ⟨"MownMaze$Ground", "measure", "(JI[I)V"⟩ : Cond) ∈ WS := ws_t (tb_4 (List.mem_of_getElem? (i := 117) rfl)) rfl
set_option maxRecDepth 20000 in
theorem tw_838 : (Cond.instanceMethod ⟨"MownMaze$Ground", "measure", "(JI[I)V"⟩ : Cond) ∈ WS := ws_t (tb_4 (List.mem_of_getElem? (i := 118) rfl)) rfl
set_option maxRecDepth 20000 in
theorem tw_839 : (Cond.selects "MownMaze$Ground" ⟨"MownMaze$Ground", "measure", "(JI[I)V"⟩ ⟨"MownMaze$Ground", "measure", "(JI[I)V"⟩ : Cond) ∈ WS := ws_t (tb_4 (List.mem_of_getElem? (i := 119) rfl)) rfl
set_option maxRecDepth 20000 in
theorem tw_840 : (Cond.code ⟨"MownMaze$Ground", "measure", "(JI[I)V"⟩ prog_2_method_16_code 11 none : Cond) ∈ WS := ws_t (tb_4 (List.mem_of_getElem? (i := 120) rfl)) rfl
set_option maxRecDepth 20000 in
theorem tw_841 : (Cond.methodLink "MownMaze$Walk" 98 ⟨"MownMaze$Walk", "step", "()V"⟩ : Cond) ∈ WS := ws_t (tb_4 (List.mem_of_getElem? (i := 121) rfl)) rfl
set_option maxRecDepth 20000 in
theorem tw_843 : (Cond.instanceMethod ⟨"MownMaze$Walk", "step", "()V"⟩ : Cond) ∈ WS := ws_t (tb_4 (List.mem_of_getElem? (i := 123) rfl)) rfl
set_option maxRecDepth 20000 in
theorem tw_844 : (Cond.code ⟨"MownMaze$Walk", "step", "()V"⟩ prog_10_method_11_code 1 none : Cond) ∈ WS := ws_t (tb_4 (List.mem_of_getElem? (i := 124) rfl)) rfl
set_option maxRecDepth 20000 in
theorem tw_845 : (Cond.methodLink "MownMaze$Walk" 123 ⟨"MownMaze$Walk", "stepTurning", "(II)V"⟩ : Cond) ∈ WS := ws_t (tb_4 (List.mem_of_getElem? (i := 125) rfl)) rfl
set_option maxRecDepth 20000 in
theorem tw_847 : (Cond.instanceMethod ⟨"MownMaze$Walk", "stepTurning", "(II)V"⟩ : Cond) ∈ WS := ws_t (tb_4 (List.mem_of_getElem? (i := 127) rfl)) rfl
set_option maxRecDepth 20000 in
theorem tw_848 : (Cond.code ⟨"MownMaze$Walk", "stepTurning", "(II)V"⟩ prog_10_method_14_code 6 none : Cond) ∈ WS := ws_t (tb_4 (List.mem_of_getElem? (i := 128) rfl)) rfl
set_option maxRecDepth 20000 in
theorem tw_849 : (Cond.methodLink "MownMaze$Walk" 142 ⟨"MownMaze$Walk", "mownTo", "(I)I"⟩ : Cond) ∈ WS := ws_t (tb_4 (List.mem_of_getElem? (i := 129) rfl)) rfl
set_option maxRecDepth 20000 in
theorem tw_851 : (Cond.instanceMethod ⟨"MownMaze$Walk", "mownTo", "(I)I"⟩ : Cond) ∈ WS := ws_t (tb_4 (List.mem_of_getElem? (i := 131) rfl)) rfl
set_option maxRecDepth 20000 in
theorem tw_852 : (Cond.code ⟨"MownMaze$Walk", "mownTo", "(I)I"⟩ prog_10_method_12_code 3 (Option.some FieldType.int) : Cond) ∈ WS := ws_t (tb_4 (List.mem_of_getElem? (i := 132) rfl)) rfl
set_option maxRecDepth 20000 in
theorem tw_853 : (Cond.methodLink "MownMaze$Walk" 135 ⟨"MownMaze$Ground", "cellTo", "(II)I"⟩ : Cond) ∈ WS := ws_t (tb_4 (List.mem_of_getElem? (i := 133) rfl)) rfl
set_option maxRecDepth 20000 in
theorem tw_854 : (Cond.instanceMethod ⟨"MownMaze$Ground", "cellTo", "(II)I"⟩ : Cond) ∈ WS := ws_t (tb_4 (List.mem_of_getElem? (i := 134) rfl)) rfl
set_option maxRecDepth 20000 in
theorem tw_855 : (Cond.selects "MownMaze$Ground" ⟨"MownMaze$Ground", "cellTo", "(II)I"⟩ ⟨"MownMaze$Ground", "cellTo", "(II)I"⟩ : Cond) ∈ WS := ws_t (tb_4 (List.mem_of_getElem? (i := 135) rfl)) rfl
set_option maxRecDepth 20000 in
theorem tw_856 : (Cond.code ⟨"MownMaze$Ground", "cellTo", "(II)I"⟩ prog_2_method_6_code 4 (Option.some FieldType.int) : Cond) ∈ WS := ws_t (tb_4 (List.mem_of_getElem? (i := 136) rfl)) rfl
set_option maxRecDepth 20000 in
theorem tw_857 : (Cond.methodLink "MownMaze$Walk" 126 ⟨"MownMaze$Walk", "stepOnce", "()V"⟩ : Cond) ∈ WS := ws_t (tb_4 (List.mem_of_getElem? (i := 137) rfl)) rfl
set_option maxRecDepth 20000 in
theorem tw_859 : (Cond.instanceMethod ⟨"MownMaze$Walk", "stepOnce", "()V"⟩ : Cond) ∈ WS := ws_t (tb_4 (List.mem_of_getElem? (i := 139) rfl)) rfl
set_option maxRecDepth 20000 in
theorem tw_860 : (Cond.code ⟨"MownMaze$Walk", "stepOnce", "()V"⟩ prog_10_method_15_code 3 none : Cond) ∈ WS := ws_t (tb_4 (List.mem_of_getElem? (i := 140) rfl)) rfl
set_option maxRecDepth 20000 in
theorem tw_861 : (Cond.methodLink "MownMaze$Walk" 129 ⟨"MownMaze$Walk", "stepToNoise", "()V"⟩ : Cond) ∈ WS := ws_t (tb_4 (List.mem_of_getElem? (i := 141) rfl)) rfl
set_option maxRecDepth 20000 in
theorem tw_863 : (Cond.instanceMethod ⟨"MownMaze$Walk", "stepToNoise", "()V"⟩ : Cond) ∈ WS := ws_t (tb_4 (List.mem_of_getElem? (i := 143) rfl)) rfl
set_option maxRecDepth 20000 in
theorem tw_864 : (Cond.code ⟨"MownMaze$Walk", "stepToNoise", "()V"⟩ prog_10_method_16_code 6 none : Cond) ∈ WS := ws_t (tb_4 (List.mem_of_getElem? (i := 144) rfl)) rfl
set_option maxRecDepth 20000 in
theorem tw_865 : (Cond.methodLink "MownMaze$Walk" 132 ⟨"MownMaze$Walk", "stepByLot", "()V"⟩ : Cond) ∈ WS := ws_t (tb_4 (List.mem_of_getElem? (i := 145) rfl)) rfl
set_option maxRecDepth 20000 in
theorem tw_867 : (Cond.instanceMethod ⟨"MownMaze$Walk", "stepByLot", "()V"⟩ : Cond) ∈ WS := ws_t (tb_4 (List.mem_of_getElem? (i := 147) rfl)) rfl
set_option maxRecDepth 20000 in
theorem tw_868 : (Cond.code ⟨"MownMaze$Walk", "stepByLot", "()V"⟩ prog_10_method_17_code 5 none : Cond) ∈ WS := ws_t (tb_4 (List.mem_of_getElem? (i := 148) rfl)) rfl
set_option maxRecDepth 20000 in
theorem tw_869 : (Cond.methodLink "MownMaze$Walk" 146 ⟨"MownMaze$Ground", "countBeside", "(JI)I"⟩ : Cond) ∈ WS := ws_t (tb_4 (List.mem_of_getElem? (i := 149) rfl)) rfl
set_option maxRecDepth 20000 in
theorem tw_871 : (Cond.static ⟨"MownMaze", "draw", "(I)I"⟩ : Cond) ∈ WS := ws_t (tb_4 (List.mem_of_getElem? (i := 151) rfl)) rfl
set_option maxRecDepth 20000 in
theorem tw_872 : (Cond.code ⟨"MownMaze", "draw", "(I)I"⟩ prog_1_method_70_code 1 (Option.some FieldType.int) : Cond) ∈ WS := ws_t (tb_4 (List.mem_of_getElem? (i := 152) rfl)) rfl
set_option maxRecDepth 20000 in
theorem tw_873 : (Cond.constant "MownMaze" 305 65537 : Cond) ∈ WS := ws_t (tb_4 (List.mem_of_getElem? (i := 153) rfl)) rfl
set_option maxRecDepth 20000 in
theorem tw_874 : (Cond.methodLink "MownMaze$Walk" 101 ⟨"MownMaze$Walk", "isAtGate", "()Z"⟩ : Cond) ∈ WS := ws_t (tb_4 (List.mem_of_getElem? (i := 154) rfl)) rfl
set_option maxRecDepth 20000 in
theorem tw_876 : (Cond.instanceMethod ⟨"MownMaze$Walk", "isAtGate", "()Z"⟩ : Cond) ∈ WS := ws_t (tb_4 (List.mem_of_getElem? (i := 156) rfl)) rfl
set_option maxRecDepth 20000 in
theorem tw_877 : (Cond.code ⟨"MownMaze$Walk", "isAtGate", "()Z"⟩ prog_10_method_10_code 1 (Option.some FieldType.boolean) : Cond) ∈ WS := ws_t (tb_4 (List.mem_of_getElem? (i := 157) rfl)) rfl
set_option maxRecDepth 20000 in
theorem tw_878 : (Cond.methodLink "MownMaze" 195 ⟨"MownMaze$Walk", "cellIn", "(I)I"⟩ : Cond) ∈ WS := ws_t (tb_4 (List.mem_of_getElem? (i := 158) rfl)) rfl
set_option maxRecDepth 20000 in
theorem tw_879 : (Cond.instanceMethod ⟨"MownMaze$Walk", "cellIn", "(I)I"⟩ : Cond) ∈ WS := ws_t (tb_4 (List.mem_of_getElem? (i := 159) rfl)) rfl
set_option maxRecDepth 20000 in
theorem tw_880 : (Cond.selects "MownMaze$Walk" ⟨"MownMaze$Walk", "cellIn", "(I)I"⟩ ⟨"MownMaze$Walk", "cellIn", "(I)I"⟩ : Cond) ∈ WS := ws_t (tb_4 (List.mem_of_getElem? (i := 160) rfl)) rfl
set_option maxRecDepth 20000 in
theorem tw_881 : (Cond.code ⟨"MownMaze$Walk", "cellIn", "(I)I"⟩ prog_10_method_4_code 3 (Option.some FieldType.int) : Cond) ∈ WS := ws_t (tb_4 (List.mem_of_getElem? (i := 161) rfl)) rfl
set_option maxRecDepth 20000 in
theorem tw_882 : (Cond.methodLink "MownMazeLaw" 74 ⟨"MownMaze", "out", "(I)I"⟩ : Cond) ∈ WS := ws_t (tb_4 (List.mem_of_getElem? (i := 162) rfl)) rfl
set_option maxRecDepth 20000 in
theorem tw_883 : (Cond.instanceMethod ⟨"MownMaze", "out", "(I)I"⟩ : Cond) ∈ WS := ws_t (tb_4 (List.mem_of_getElem? (i := 163) rfl)) rfl
set_option maxRecDepth 20000 in
theorem tw_884 : (Cond.selects "MownMaze" ⟨"MownMaze", "out", "(I)I"⟩ ⟨"MownMaze", "out", "(I)I"⟩ : Cond) ∈ WS := ws_t (tb_4 (List.mem_of_getElem? (i := 164) rfl)) rfl
set_option maxRecDepth 20000 in
theorem tw_885 : (Cond.code ⟨"MownMaze", "out", "(I)I"⟩ prog_1_method_15_code 2 (Option.some FieldType.int) : Cond) ∈ WS := ws_t (tb_4 (List.mem_of_getElem? (i := 165) rfl)) rfl
set_option maxRecDepth 20000 in
theorem tw_886 : (Cond.methodLink "MownMaze" 198 ⟨"MownMaze$Walk", "outIn", "()I"⟩ : Cond) ∈ WS := ws_t (tb_4 (List.mem_of_getElem? (i := 166) rfl)) rfl
set_option maxRecDepth 20000 in
theorem tw_887 : (Cond.instanceMethod ⟨"MownMaze$Walk", "outIn", "()I"⟩ : Cond) ∈ WS := ws_t (tb_4 (List.mem_of_getElem? (i := 167) rfl)) rfl
set_option maxRecDepth 20000 in
theorem tw_888 : (Cond.selects "MownMaze$Walk" ⟨"MownMaze$Walk", "outIn", "()I"⟩ ⟨"MownMaze$Walk", "outIn", "()I"⟩ : Cond) ∈ WS := ws_t (tb_4 (List.mem_of_getElem? (i := 168) rfl)) rfl
set_option maxRecDepth 20000 in
theorem tw_889 : (Cond.code ⟨"MownMaze$Walk", "outIn", "()I"⟩ prog_10_method_5_code 1 (Option.some FieldType.int) : Cond) ∈ WS := ws_t (tb_4 (List.mem_of_getElem? (i := 169) rfl)) rfl
set_option maxRecDepth 20000 in
theorem tw_890 : (Cond.methodLink "MownMazeLaw" 78 ⟨"MownMaze", "ever", "(I)I"⟩ : Cond) ∈ WS := ws_t (tb_4 (List.mem_of_getElem? (i := 170) rfl)) rfl
set_option maxRecDepth 20000 in
theorem tw_891 : (Cond.instanceMethod ⟨"MownMaze", "ever", "(I)I"⟩ : Cond) ∈ WS := ws_t (tb_4 (List.mem_of_getElem? (i := 171) rfl)) rfl
set_option maxRecDepth 20000 in
theorem tw_892 : (Cond.selects "MownMaze" ⟨"MownMaze", "ever", "(I)I"⟩ ⟨"MownMaze", "ever", "(I)I"⟩ : Cond) ∈ WS := ws_t (tb_4 (List.mem_of_getElem? (i := 172) rfl)) rfl
set_option maxRecDepth 20000 in
theorem tw_893 : (Cond.code ⟨"MownMaze", "ever", "(I)I"⟩ prog_1_method_16_code 2 (Option.some FieldType.int) : Cond) ∈ WS := ws_t (tb_4 (List.mem_of_getElem? (i := 173) rfl)) rfl
set_option maxRecDepth 20000 in
theorem tw_894 : (Cond.methodLink "MownMaze" 201 ⟨"MownMaze", "goesByLot", "(I)Z"⟩ : Cond) ∈ WS := ws_t (tb_4 (List.mem_of_getElem? (i := 174) rfl)) rfl
set_option maxRecDepth 20000 in
theorem tw_896 : (Cond.instanceMethod ⟨"MownMaze", "goesByLot", "(I)Z"⟩ : Cond) ∈ WS := ws_t (tb_4 (List.mem_of_getElem? (i := 176) rfl)) rfl
set_option maxRecDepth 20000 in
theorem tw_897 : (Cond.code ⟨"MownMaze", "goesByLot", "(I)Z"⟩ prog_1_method_59_code 2 (Option.some FieldType.boolean) : Cond) ∈ WS := ws_t (tb_4 (List.mem_of_getElem? (i := 177) rfl)) rfl
set_option maxRecDepth 20000 in
theorem tw_898 : (Cond.methodLink "MownMaze" 355 ⟨"MownMaze$Plan", "walker", "(I)LMownMaze$Walker;"⟩ : Cond) ∈ WS := ws_t (tb_4 (List.mem_of_getElem? (i := 178) rfl)) rfl
set_option maxRecDepth 20000 in
theorem tw_899 : (Cond.methodLink "MownMaze" 204 ⟨"MownMaze$Walk", "begin", "(LMownMaze$Plan;IJI)V"⟩ : Cond) ∈ WS := ws_t (tb_4 (List.mem_of_getElem? (i := 179) rfl)) rfl
set_option maxRecDepth 20000 in
theorem tw_900 : (Cond.methodLink "MownMaze" 207 ⟨"MownMaze$Walk", "isOutSometime", "()Z"⟩ : Cond) ∈ WS := ws_t (tb_4 (List.mem_of_getElem? (i := 180) rfl)) rfl
set_option maxRecDepth 20000 in
theorem tw_901 : (Cond.instanceMethod ⟨"MownMaze$Walk", "isOutSometime", "()Z"⟩ : Cond) ∈ WS := ws_t (tb_4 (List.mem_of_getElem? (i := 181) rfl)) rfl
set_option maxRecDepth 20000 in
theorem tw_902 : (Cond.selects "MownMaze$Walk" ⟨"MownMaze$Walk", "isOutSometime", "()Z"⟩ ⟨"MownMaze$Walk", "isOutSometime", "()Z"⟩ : Cond) ∈ WS := ws_t (tb_4 (List.mem_of_getElem? (i := 182) rfl)) rfl
set_option maxRecDepth 20000 in
theorem tw_903 : (Cond.code ⟨"MownMaze$Walk", "isOutSometime", "()Z"⟩ prog_10_method_8_code 2 (Option.some FieldType.boolean) : Cond) ∈ WS := ws_t (tb_4 (List.mem_of_getElem? (i := 183) rfl)) rfl
set_option maxRecDepth 20000 in
theorem tw_904 : (Cond.methodLink "MownMazeLaw" 82 ⟨"MownMaze", "ring", "(I)I"⟩ : Cond) ∈ WS := ws_t (tb_4 (List.mem_of_getElem? (i := 184) rfl)) rfl
set_option maxRecDepth 20000 in
theorem tw_905 : (Cond.instanceMethod ⟨"MownMaze", "ring", "(I)I"⟩ : Cond) ∈ WS := ws_t (tb_4 (List.mem_of_getElem? (i := 185) rfl)) rfl
set_option maxRecDepth 20000 in
theorem tw_906 : (Cond.selects "MownMaze" ⟨"MownMaze", "ring", "(I)I"⟩ ⟨"MownMaze", "ring", "(I)I"⟩ : Cond) ∈ WS := ws_t (tb_4 (List.mem_of_getElem? (i := 186) rfl)) rfl
set_option maxRecDepth 20000 in
theorem tw_907 : (Cond.code ⟨"MownMaze", "ring", "(I)I"⟩ prog_1_method_17_code 2 (Option.some FieldType.int) : Cond) ∈ WS := ws_t (tb_4 (List.mem_of_getElem? (i := 187) rfl)) rfl
set_option maxRecDepth 20000 in
theorem tw_908 : (Cond.methodLink "MownMaze" 211 ⟨"MownMaze$Walk", "ringLength", "()I"⟩ : Cond) ∈ WS := ws_t (tb_4 (List.mem_of_getElem? (i := 188) rfl)) rfl
set_option maxRecDepth 20000 in
theorem tw_909 : (Cond.instanceMethod ⟨"MownMaze$Walk", "ringLength", "()I"⟩ : Cond) ∈ WS := ws_t (tb_4 (List.mem_of_getElem? (i := 189) rfl)) rfl
set_option maxRecDepth 20000 in
theorem tw_910 : (Cond.selects "MownMaze$Walk" ⟨"MownMaze$Walk", "ringLength", "()I"⟩ ⟨"MownMaze$Walk", "ringLength", "()I"⟩ : Cond) ∈ WS := ws_t (tb_4 (List.mem_of_getElem? (i := 190) rfl)) rfl
set_option maxRecDepth 20000 in
theorem tw_911 : (Cond.code ⟨"MownMaze$Walk", "ringLength", "()I"⟩ prog_10_method_9_code 4 (Option.some FieldType.int) : Cond) ∈ WS := ws_t (tb_4 (List.mem_of_getElem? (i := 191) rfl)) rfl
set_option maxRecDepth 20000 in
theorem tw_912 : (Cond.methodLink "MownMazeLaw" 86 ⟨"MownMaze", "meets", "(II)I"⟩ : Cond) ∈ WS := ws_t (tb_4 (List.mem_of_getElem? (i := 192) rfl)) rfl
set_option maxRecDepth 20000 in
theorem tw_913 : (Cond.instanceMethod ⟨"MownMaze", "meets", "(II)I"⟩ : Cond) ∈ WS := ws_t (tb_4 (List.mem_of_getElem? (i := 193) rfl)) rfl
set_option maxRecDepth 20000 in
theorem tw_914 : (Cond.selects "MownMaze" ⟨"MownMaze", "meets", "(II)I"⟩ ⟨"MownMaze", "meets", "(II)I"⟩ : Cond) ∈ WS := ws_t (tb_4 (List.mem_of_getElem? (i := 194) rfl)) rfl
set_option maxRecDepth 20000 in
theorem tw_915 : (Cond.code ⟨"MownMaze", "meets", "(II)I"⟩ prog_1_method_18_code 5 (Option.some FieldType.int) : Cond) ∈ WS := ws_t (tb_4 (List.mem_of_getElem? (i := 195) rfl)) rfl
set_option maxRecDepth 20000 in
theorem tw_916 : (Cond.methodLink "MownMazeLaw" 90 ⟨"MownMaze", "shouts", "(I)I"⟩ : Cond) ∈ WS := ws_t (tb_4 (List.mem_of_getElem? (i := 196) rfl)) rfl
set_option maxRecDepth 20000 in
theorem tw_917 : (Cond.instanceMethod ⟨"MownMaze", "shouts", "(I)I"⟩ : Cond) ∈ WS := ws_t (tb_4 (List.mem_of_getElem? (i := 197) rfl)) rfl
set_option maxRecDepth 20000 in
theorem tw_918 : (Cond.selects "MownMaze" ⟨"MownMaze", "shouts", "(I)I"⟩ ⟨"MownMaze", "shouts", "(I)I"⟩ : Cond) ∈ WS := ws_t (tb_4 (List.mem_of_getElem? (i := 198) rfl)) rfl
set_option maxRecDepth 20000 in
theorem tw_919 : (Cond.code ⟨"MownMaze", "shouts", "(I)I"⟩ prog_1_method_19_code 2 (Option.some FieldType.int) : Cond) ∈ WS := ws_t (tb_4 (List.mem_of_getElem? (i := 199) rfl)) rfl
set_option maxRecDepth 20000 in
theorem tw_920 : (Cond.methodLink "MownMaze" 217 ⟨"MownMaze$Walk", "countShouts", "()I"⟩ : Cond) ∈ WS := ws_t (tb_4 (List.mem_of_getElem? (i := 200) rfl)) rfl
set_option maxRecDepth 20000 in
theorem tw_921 : (Cond.instanceMethod ⟨"MownMaze$Walk", "countShouts", "()I"⟩ : Cond) ∈ WS := ws_t (tb_4 (List.mem_of_getElem? (i := 201) rfl)) rfl
set_option maxRecDepth 20000 in
theorem tw_922 : (Cond.selects "MownMaze$Walk" ⟨"MownMaze$Walk", "countShouts", "()I"⟩ ⟨"MownMaze$Walk", "countShouts", "()I"⟩ : Cond) ∈ WS := ws_t (tb_4 (List.mem_of_getElem? (i := 202) rfl)) rfl
set_option maxRecDepth 20000 in
theorem tw_923 : (Cond.code ⟨"MownMaze$Walk", "countShouts", "()I"⟩ prog_10_method_6_code 2 (Option.some FieldType.int) : Cond) ∈ WS := ws_t (tb_4 (List.mem_of_getElem? (i := 203) rfl)) rfl
set_option maxRecDepth 20000 in
theorem tw_924 : (Cond.methodLink "MownMaze$Walk" 104 ⟨"java/lang/Math", "max", "(II)I"⟩ : Cond) ∈ WS := ws_t (tb_4 (List.mem_of_getElem? (i := 204) rfl)) rfl
set_option maxRecDepth 20000 in
theorem tw_925 : (Cond.methodLink "MownMazeLaw" 94 ⟨"MownMaze", "visits", "(I)I"⟩ : Cond) ∈ WS := ws_t (tb_4 (List.mem_of_getElem? (i := 205) rfl)) rfl
set_option maxRecDepth 20000 in
theorem tw_926 : (Cond.instanceMethod ⟨"MownMaze", "visits", "(I)I"⟩ : Cond) ∈ WS := ws_t (tb_4 (List.mem_of_getElem? (i := 206) rfl)) rfl
set_option maxRecDepth 20000 in
theorem tw_927 : (Cond.selects "MownMaze" ⟨"MownMaze", "visits", "(I)I"⟩ ⟨"MownMaze", "visits", "(I)I"⟩ : Cond) ∈ WS := ws_t (tb_4 (List.mem_of_getElem? (i := 207) rfl)) rfl
set_option maxRecDepth 20000 in
theorem tw_928 : (Cond.code ⟨"MownMaze", "visits", "(I)I"⟩ prog_1_method_20_code 2 (Option.some FieldType.int) : Cond) ∈ WS := ws_t (tb_4 (List.mem_of_getElem? (i := 208) rfl)) rfl
set_option maxRecDepth 20000 in
theorem tw_929 : (Cond.methodLink "MownMaze" 220 ⟨"MownMaze$Walk", "countCells", "()I"⟩ : Cond) ∈ WS := ws_t (tb_4 (List.mem_of_getElem? (i := 209) rfl)) rfl
set_option maxRecDepth 20000 in
theorem tw_930 : (Cond.instanceMethod ⟨"MownMaze$Walk", "countCells", "()I"⟩ : Cond) ∈ WS := ws_t (tb_4 (List.mem_of_getElem? (i := 210) rfl)) rfl
set_option maxRecDepth 20000 in
theorem tw_931 : (Cond.selects "MownMaze$Walk" ⟨"MownMaze$Walk", "countCells", "()I"⟩ ⟨"MownMaze$Walk", "countCells", "()I"⟩ : Cond) ∈ WS := ws_t (tb_4 (List.mem_of_getElem? (i := 211) rfl)) rfl
set_option maxRecDepth 20000 in
theorem tw_932 : (Cond.code ⟨"MownMaze$Walk", "countCells", "()I"⟩ prog_10_method_7_code 1 (Option.some FieldType.int) : Cond) ∈ WS := ws_t (tb_4 (List.mem_of_getElem? (i := 212) rfl)) rfl
set_option maxRecDepth 20000 in
theorem tw_933 : (Cond.methodLink "MownMaze$Walk" 110 ⟨"java/lang/Long", "bitCount", "(J)I"⟩ : Cond) ∈ WS := ws_t (tb_4 (List.mem_of_getElem? (i := 213) rfl)) rfl
set_option maxRecDepth 20000 in
theorem tw_934 : (Cond.methodLink "MownMazeLaw" 98 ⟨"MownMaze", "crowd", "(I)I"⟩ : Cond) ∈ WS := ws_t (tb_4 (List.mem_of_getElem? (i := 214) rfl)) rfl
set_option maxRecDepth 20000 in
theorem tw_935 : (Cond.instanceMethod ⟨"MownMaze", "crowd", "(I)I"⟩ : Cond) ∈ WS := ws_t (tb_4 (List.mem_of_getElem? (i := 215) rfl)) rfl
set_option maxRecDepth 20000 in
theorem tw_936 : (Cond.selects "MownMaze" ⟨"MownMaze", "crowd", "(I)I"⟩ ⟨"MownMaze", "crowd", "(I)I"⟩ : Cond) ∈ WS := ws_t (tb_4 (List.mem_of_getElem? (i := 216) rfl)) rfl
set_option maxRecDepth 20000 in
theorem tw_937 : (Cond.code ⟨"MownMaze", "crowd", "(I)I"⟩ prog_1_method_21_code 4 (Option.some FieldType.int) : Cond) ∈ WS := ws_t (tb_4 (List.mem_of_getElem? (i := 217) rfl)) rfl
set_option maxRecDepth 20000 in
theorem tw_938 : (Cond.methodLink "MownMazeLaw" 102 ⟨"MownMaze", "paid", "()I"⟩ : Cond) ∈ WS := ws_t (tb_4 (List.mem_of_getElem? (i := 218) rfl)) rfl
set_option maxRecDepth 20000 in
theorem tw_939 : (Cond.instanceMethod ⟨"MownMaze", "paid", "()I"⟩ : Cond) ∈ WS := ws_t (tb_4 (List.mem_of_getElem? (i := 219) rfl)) rfl
set_option maxRecDepth 20000 in
theorem tw_940 : (Cond.selects "MownMaze" ⟨"MownMaze", "paid", "()I"⟩ ⟨"MownMaze", "paid", "()I"⟩ : Cond) ∈ WS := ws_t (tb_4 (List.mem_of_getElem? (i := 220) rfl)) rfl
set_option maxRecDepth 20000 in
theorem tw_941 : (Cond.code ⟨"MownMaze", "paid", "()I"⟩ prog_1_method_22_code 3 (Option.some FieldType.int) : Cond) ∈ WS := ws_t (tb_4 (List.mem_of_getElem? (i := 221) rfl)) rfl
set_option maxRecDepth 20000 in
theorem tw_942 : (Cond.methodLink "MownMazeLaw" 106 ⟨"MownMaze", "stuck", "()I"⟩ : Cond) ∈ WS := ws_t (tb_4 (List.mem_of_getElem? (i := 222) rfl)) rfl
set_option maxRecDepth 20000 in
theorem tw_943 : (Cond.instanceMethod ⟨"MownMaze", "stuck", "()I"⟩ : Cond) ∈ WS := ws_t (tb_4 (List.mem_of_getElem? (i := 223) rfl)) rfl
set_option maxRecDepth 20000 in
theorem tw_944 : (Cond.selects "MownMaze" ⟨"MownMaze", "stuck", "()I"⟩ ⟨"MownMaze", "stuck", "()I"⟩ : Cond) ∈ WS := ws_t (tb_4 (List.mem_of_getElem? (i := 224) rfl)) rfl
set_option maxRecDepth 20000 in
theorem tw_945 : (Cond.code ⟨"MownMaze", "stuck", "()I"⟩ prog_1_method_23_code 3 (Option.some FieldType.int) : Cond) ∈ WS := ws_t (tb_4 (List.mem_of_getElem? (i := 225) rfl)) rfl
set_option maxRecDepth 20000 in
theorem tw_946 : (Cond.methodLink "MownMazeLaw" 110 ⟨"MownMaze", "caught", "(III)I"⟩ : Cond) ∈ WS := ws_t (tb_4 (List.mem_of_getElem? (i := 226) rfl)) rfl
set_option maxRecDepth 20000 in
theorem tw_947 : (Cond.instanceMethod ⟨"MownMaze", "caught", "(III)I"⟩ : Cond) ∈ WS := ws_t (tb_4 (List.mem_of_getElem? (i := 227) rfl)) rfl
set_option maxRecDepth 20000 in
theorem tw_948 : (Cond.selects "MownMaze" ⟨"MownMaze", "caught", "(III)I"⟩ ⟨"MownMaze", "caught", "(III)I"⟩ : Cond) ∈ WS := ws_t (tb_4 (List.mem_of_getElem? (i := 228) rfl)) rfl
set_option maxRecDepth 20000 in
theorem tw_949 : (Cond.code ⟨"MownMaze", "caught", "(III)I"⟩ prog_1_method_24_code 6 (Option.some FieldType.int) : Cond) ∈ WS := ws_t (tb_4 (List.mem_of_getElem? (i := 229) rfl)) rfl
set_option maxRecDepth 20000 in
theorem tw_950 : (Cond.methodLink "MownMaze" 229 ⟨"MownMaze$Ground", "measure", "(JI[I)V"⟩ : Cond) ∈ WS := ws_t (tb_4 (List.mem_of_getElem? (i := 230) rfl)) rfl
set_option maxRecDepth 20000 in
theorem tw_951 : (Cond.methodLink "MownMazeLaw" 115 ⟨"MownMaze", "unlike", "(Z)I"⟩ : Cond) ∈ WS := ws_t (tb_4 (List.mem_of_getElem? (i := 231) rfl)) rfl
set_option maxRecDepth 20000 in
theorem tw_952 : (Cond.instanceMethod ⟨"MownMaze", "unlike", "(Z)I"⟩ : Cond) ∈ WS := ws_t (tb_4 (List.mem_of_getElem? (i := 232) rfl)) rfl
set_option maxRecDepth 20000 in
theorem tw_953 : (Cond.selects "MownMaze" ⟨"MownMaze", "unlike", "(Z)I"⟩ ⟨"MownMaze", "unlike", "(Z)I"⟩ : Cond) ∈ WS := ws_t (tb_4 (List.mem_of_getElem? (i := 233) rfl)) rfl
set_option maxRecDepth 20000 in
theorem tw_954 : (Cond.code ⟨"MownMaze", "unlike", "(Z)I"⟩ prog_1_method_25_code 2 (Option.some FieldType.int) : Cond) ∈ WS := ws_t (tb_4 (List.mem_of_getElem? (i := 234) rfl)) rfl
set_option maxRecDepth 20000 in
theorem tw_955 : (Cond.methodLink "MownMaze" 233 ⟨"MownMaze", "unlikeCells", "(Z)J"⟩ : Cond) ∈ WS := ws_t (tb_4 (List.mem_of_getElem? (i := 235) rfl)) rfl
set_option maxRecDepth 20000 in
theorem tw_957 : (Cond.instanceMethod ⟨"MownMaze", "unlikeCells", "(Z)J"⟩ : Cond) ∈ WS := ws_t (tb_4 (List.mem_of_getElem? (i := 237) rfl)) rfl
set_option maxRecDepth 20000 in
theorem tw_958 : (Cond.code ⟨"MownMaze", "unlikeCells", "(Z)J"⟩ prog_1_method_63_code 2 (Option.some FieldType.long) : Cond) ∈ WS := ws_t (tb_4 (List.mem_of_getElem? (i := 238) rfl)) rfl
set_option maxRecDepth 20000 in
theorem tw_959 : (Cond.methodLink "MownMaze" 383 ⟨"MownMaze$Picture", "cellsUnlike", "(J)J"⟩ : Cond) ∈ WS := ws_t (tb_4 (List.mem_of_getElem? (i := 239) rfl)) rfl
set_option maxRecDepth 20000 in
theorem tw_960 : (Cond.instanceMethod ⟨"MownMaze$Picture", "cellsUnlike", "(J)J"⟩ : Cond) ∈ WS := ws_t (tb_5 (List.mem_of_getElem? (i := 0) rfl)) rfl
set_option maxRecDepth 20000 in
theorem tw_961 : (Cond.selects "MownMaze$Picture" ⟨"MownMaze$Picture", "cellsUnlike", "(J)J"⟩ ⟨"MownMaze$Picture", "cellsUnlike", "(J)J"⟩ : Cond) ∈ WS := ws_t (tb_5 (List.mem_of_getElem? (i := 1) rfl)) rfl
set_option maxRecDepth 20000 in
theorem tw_962 : (Cond.code ⟨"MownMaze$Picture", "cellsUnlike", "(J)J"⟩ prog_4_method_4_code 3 (Option.some FieldType.long) : Cond) ∈ WS := ws_t (tb_5 (List.mem_of_getElem? (i := 2) rfl)) rfl
set_option maxRecDepth 20000 in
theorem tw_963 : (Cond.constantLong "MownMaze$Picture" 26 (-1) : Cond) ∈ WS := ws_t (tb_5 (List.mem_of_getElem? (i := 3) rfl)) rfl
set_option maxRecDepth 20000 in
theorem tw_964 : (Cond.methodLink "MownMazeLaw" 120 ⟨"MownMaze", "firstUnlike", "(Z)I"⟩ : Cond) ∈ WS := ws_t (tb_5 (List.mem_of_getElem? (i := 4) rfl)) rfl
set_option maxRecDepth 20000 in
theorem tw_965 : (Cond.instanceMethod ⟨"MownMaze", "firstUnlike", "(Z)I"⟩ : Cond) ∈ WS := ws_t (tb_5 (List.mem_of_getElem? (i := 5) rfl)) rfl
set_option maxRecDepth 20000 in
theorem tw_966 : (Cond.selects "MownMaze" ⟨"MownMaze", "firstUnlike", "(Z)I"⟩ ⟨"MownMaze", "firstUnlike", "(Z)I"⟩ : Cond) ∈ WS := ws_t (tb_5 (List.mem_of_getElem? (i := 6) rfl)) rfl
set_option maxRecDepth 20000 in
theorem tw_967 : (Cond.code ⟨"MownMaze", "firstUnlike", "(Z)I"⟩ prog_1_method_26_code 2 (Option.some FieldType.int) : Cond) ∈ WS := ws_t (tb_5 (List.mem_of_getElem? (i := 7) rfl)) rfl
set_option maxRecDepth 20000 in
theorem tw_968 : (Cond.methodLink "MownMaze" 237 ⟨"MownMaze", "nthCell", "(JI)I"⟩ : Cond) ∈ WS := ws_t (tb_5 (List.mem_of_getElem? (i := 8) rfl)) rfl
set_option maxRecDepth 20000 in
theorem tw_969 : (Cond.static ⟨"MownMaze", "nthCell", "(JI)I"⟩ : Cond) ∈ WS := ws_t (tb_5 (List.mem_of_getElem? (i := 9) rfl)) rfl
set_option maxRecDepth 20000 in
theorem tw_970 : (Cond.code ⟨"MownMaze", "nthCell", "(JI)I"⟩ prog_1_method_73_code 5 (Option.some FieldType.int) : Cond) ∈ WS := ws_t (tb_5 (List.mem_of_getElem? (i := 10) rfl)) rfl
set_option maxRecDepth 20000 in
theorem tw_971 : (Cond.methodLink "MownMazeLaw" 124 ⟨"MownMaze", "clash", "()I"⟩ : Cond) ∈ WS := ws_t (tb_5 (List.mem_of_getElem? (i := 11) rfl)) rfl
set_option maxRecDepth 20000 in
theorem tw_972 : (Cond.instanceMethod ⟨"MownMaze", "clash", "()I"⟩ : Cond) ∈ WS := ws_t (tb_5 (List.mem_of_getElem? (i := 12) rfl)) rfl
set_option maxRecDepth 20000 in
theorem tw_973 : (Cond.selects "MownMaze" ⟨"MownMaze", "clash", "()I"⟩ ⟨"MownMaze", "clash", "()I"⟩ : Cond) ∈ WS := ws_t (tb_5 (List.mem_of_getElem? (i := 13) rfl)) rfl
set_option maxRecDepth 20000 in
theorem tw_974 : (Cond.code ⟨"MownMaze", "clash", "()I"⟩ prog_1_method_27_code 1 (Option.some FieldType.int) : Cond) ∈ WS := ws_t (tb_5 (List.mem_of_getElem? (i := 14) rfl)) rfl
set_option maxRecDepth 20000 in
theorem tw_975 : (Cond.methodLink "MownMaze" 240 ⟨"MownMaze", "clashingCells", "()J"⟩ : Cond) ∈ WS := ws_t (tb_5 (List.mem_of_getElem? (i := 15) rfl)) rfl
set_option maxRecDepth 20000 in
theorem tw_977 : (Cond.instanceMethod ⟨"MownMaze", "clashingCells", "()J"⟩ : Cond) ∈ WS := ws_t (tb_5 (List.mem_of_getElem? (i := 17) rfl)) rfl
set_option maxRecDepth 20000 in
theorem tw_978 : (Cond.code ⟨"MownMaze", "clashingCells", "()J"⟩ prog_1_method_64_code 1 (Option.some FieldType.long) : Cond) ∈ WS := ws_t (tb_5 (List.mem_of_getElem? (i := 18) rfl)) rfl
set_option maxRecDepth 20000 in
theorem tw_979 : (Cond.methodLink "MownMazeLaw" 128 ⟨"MownMaze", "changes", "()I"⟩ : Cond) ∈ WS := ws_t (tb_5 (List.mem_of_getElem? (i := 19) rfl)) rfl
set_option maxRecDepth 20000 in
theorem tw_980 : (Cond.instanceMethod ⟨"MownMaze", "changes", "()I"⟩ : Cond) ∈ WS := ws_t (tb_5 (List.mem_of_getElem? (i := 20) rfl)) rfl
set_option maxRecDepth 20000 in
theorem tw_981 : (Cond.selects "MownMaze" ⟨"MownMaze", "changes", "()I"⟩ ⟨"MownMaze", "changes", "()I"⟩ : Cond) ∈ WS := ws_t (tb_5 (List.mem_of_getElem? (i := 21) rfl)) rfl
set_option maxRecDepth 20000 in
theorem tw_982 : (Cond.code ⟨"MownMaze", "changes", "()I"⟩ prog_1_method_28_code 3 (Option.some FieldType.int) : Cond) ∈ WS := ws_t (tb_5 (List.mem_of_getElem? (i := 22) rfl)) rfl
set_option maxRecDepth 20000 in
theorem tw_983 : (Cond.constantLong "MownMaze" 244 (-1) : Cond) ∈ WS := ws_t (tb_5 (List.mem_of_getElem? (i := 23) rfl)) rfl
set_option maxRecDepth 20000 in
theorem tw_984 : (Cond.methodLink "MownMazeLaw" 132 ⟨"MownMaze", "toMow", "()I"⟩ : Cond) ∈ WS := ws_t (tb_5 (List.mem_of_getElem? (i := 24) rfl)) rfl
set_option maxRecDepth 20000 in
theorem tw_985 : (Cond.instanceMethod ⟨"MownMaze", "toMow", "()I"⟩ : Cond) ∈ WS := ws_t (tb_5 (List.mem_of_getElem? (i := 25) rfl)) rfl
set_option maxRecDepth 20000 in
theorem tw_986 : (Cond.selects "MownMaze" ⟨"MownMaze", "toMow", "()I"⟩ ⟨"MownMaze", "toMow", "()I"⟩ : Cond) ∈ WS := ws_t (tb_5 (List.mem_of_getElem? (i := 26) rfl)) rfl
set_option maxRecDepth 20000 in
theorem tw_987 : (Cond.code ⟨"MownMaze", "toMow", "()I"⟩ prog_1_method_29_code 1 (Option.some FieldType.int) : Cond) ∈ WS := ws_t (tb_5 (List.mem_of_getElem? (i := 27) rfl)) rfl
set_option maxRecDepth 20000 in
theorem tw_988 : (Cond.methodLink "MownMaze" 246 ⟨"MownMaze", "cellsToMow", "()J"⟩ : Cond) ∈ WS := ws_t (tb_5 (List.mem_of_getElem? (i := 28) rfl)) rfl
set_option maxRecDepth 20000 in
theorem tw_990 : (Cond.instanceMethod ⟨"MownMaze", "cellsToMow", "()J"⟩ : Cond) ∈ WS := ws_t (tb_5 (List.mem_of_getElem? (i := 30) rfl)) rfl
set_option maxRecDepth 20000 in
theorem tw_991 : (Cond.code ⟨"MownMaze", "cellsToMow", "()J"⟩ prog_1_method_65_code 1 (Option.some FieldType.long) : Cond) ∈ WS := ws_t (tb_5 (List.mem_of_getElem? (i := 31) rfl)) rfl
set_option maxRecDepth 20000 in
theorem tw_992 : (Cond.methodLink "MownMazeLaw" 136 ⟨"MownMaze", "strokes", "()I"⟩ : Cond) ∈ WS := ws_t (tb_5 (List.mem_of_getElem? (i := 32) rfl)) rfl
set_option maxRecDepth 20000 in
theorem tw_993 : (Cond.instanceMethod ⟨"MownMaze", "strokes", "()I"⟩ : Cond) ∈ WS := ws_t (tb_5 (List.mem_of_getElem? (i := 33) rfl)) rfl
set_option maxRecDepth 20000 in
theorem tw_994 : (Cond.selects "MownMaze" ⟨"MownMaze", "strokes", "()I"⟩ ⟨"MownMaze", "strokes", "()I"⟩ : Cond) ∈ WS := ws_t (tb_5 (List.mem_of_getElem? (i := 34) rfl)) rfl
set_option maxRecDepth 20000 in
theorem tw_995 : (Cond.code ⟨"MownMaze", "strokes", "()I"⟩ prog_1_method_30_code 1 (Option.some FieldType.int) : Cond) ∈ WS := ws_t (tb_5 (List.mem_of_getElem? (i := 35) rfl)) rfl
set_option maxRecDepth 20000 in
theorem tw_996 : (Cond.methodLink "MownMaze" 249 ⟨"MownMaze$Scythe", "fewestStrokes", "(LMownMaze$Ground;J)I"⟩ : Cond) ∈ WS := ws_t (tb_5 (List.mem_of_getElem? (i := 36) rfl)) rfl
set_option maxRecDepth 20000 in
theorem tw_997 : (Cond.instanceMethod ⟨"MownMaze$Scythe", "fewestStrokes", "(LMownMaze$Ground;J)I"⟩ : Cond) ∈ WS := ws_t (tb_5 (List.mem_of_getElem? (i := 37) rfl)) rfl
set_option maxRecDepth 20000 in
theorem tw_998 : (Cond.selects "MownMaze$Scythe" ⟨"MownMaze$Scythe", "fewestStrokes", "(LMownMaze$Ground;J)I"⟩ ⟨"MownMaze$Scythe", "fewestStrokes", "(LMownMaze$Ground;J)I"⟩ : Cond) ∈ WS := ws_t (tb_5 (List.mem_of_getElem? (i := 38) rfl)) rfl
set_option maxRecDepth 20000 in
theorem tw_999 : (Cond.code ⟨"MownMaze$Scythe", "fewestStrokes", "(LMownMaze$Ground;J)I"⟩ prog_7_method_2_code 7 (Option.some FieldType.int) : Cond) ∈ WS := ws_t (tb_5 (List.mem_of_getElem? (i := 39) rfl)) rfl
set_option maxRecDepth 20000 in
theorem tw_1000 : (Cond.methodLink "MownMaze$Scythe" 21 ⟨"java/lang/Long", "bitCount", "(J)I"⟩ : Cond) ∈ WS := ws_t (tb_5 (List.mem_of_getElem? (i := 40) rfl)) rfl
set_option maxRecDepth 20000 in
theorem tw_1001 : (Cond.methodLink "MownMaze$Scythe" 27 ⟨"java/lang/Math", "min", "(II)I"⟩ : Cond) ∈ WS := ws_t (tb_5 (List.mem_of_getElem? (i := 41) rfl)) rfl
set_option maxRecDepth 20000 in
theorem tw_1002 : (Cond.methodLink "MownMaze$Scythe" 33 ⟨"MownMaze$Scythe", "findBesides", "(LMownMaze$Ground;JI)V"⟩ : Cond) ∈ WS := ws_t (tb_5 (List.mem_of_getElem? (i := 42) rfl)) rfl
set_option maxRecDepth 20000 in
theorem tw_1004 : (Cond.instanceMethod ⟨"MownMaze$Scythe", "findBesides", "(LMownMaze$Ground;JI)V"⟩ : Cond) ∈ WS := ws_t (tb_5 (List.mem_of_getElem? (i := 44) rfl)) rfl
set_option maxRecDepth 20000 in
theorem tw_1005 : (Cond.code ⟨"MownMaze$Scythe", "findBesides", "(LMownMaze$Ground;JI)V"⟩ prog_7_method_3_code 9 none : Cond) ∈ WS := ws_t (tb_5 (List.mem_of_getElem? (i := 45) rfl)) rfl
set_option maxRecDepth 20000 in
theorem tw_1008 : (Cond.methodLink "MownMaze$Scythe" 49 ⟨"MownMaze$Ground", "besideAll", "(J)J"⟩ : Cond) ∈ WS := ws_t (tb_5 (List.mem_of_getElem? (i := 48) rfl)) rfl
set_option maxRecDepth 20000 in
theorem tw_1010 : (Cond.methodLink "MownMaze$Scythe" 37 ⟨"MownMaze$Scythe", "mowOneMore", "(II)V"⟩ : Cond) ∈ WS := ws_t (tb_5 (List.mem_of_getElem? (i := 50) rfl)) rfl
set_option maxRecDepth 20000 in
theorem tw_1012 : (Cond.instanceMethod ⟨"MownMaze$Scythe", "mowOneMore", "(II)V"⟩ : Cond) ∈ WS := ws_t (tb_5 (List.mem_of_getElem? (i := 52) rfl)) rfl
set_option maxRecDepth 20000 in
theorem tw_1013 : (Cond.code ⟨"MownMaze$Scythe", "mowOneMore", "(II)V"⟩ prog_7_method_4_code 6 none : Cond) ∈ WS := ws_t (tb_5 (List.mem_of_getElem? (i := 53) rfl)) rfl
set_option maxRecDepth 20000 in
theorem tw_1014 : (Cond.methodLink "MownMazeLaw" 140 ⟨"MownMaze", "shut", "(II)I"⟩ : Cond) ∈ WS := ws_t (tb_5 (List.mem_of_getElem? (i := 54) rfl)) rfl
set_option maxRecDepth 20000 in
theorem tw_1015 : (Cond.instanceMethod ⟨"MownMaze", "shut", "(II)I"⟩ : Cond) ∈ WS := ws_t (tb_5 (List.mem_of_getElem? (i := 55) rfl)) rfl
set_option maxRecDepth 20000 in
theorem tw_1016 : (Cond.selects "MownMaze" ⟨"MownMaze", "shut", "(II)I"⟩ ⟨"MownMaze", "shut", "(II)I"⟩ : Cond) ∈ WS := ws_t (tb_5 (List.mem_of_getElem? (i := 56) rfl)) rfl
set_option maxRecDepth 20000 in
theorem tw_1017 : (Cond.code ⟨"MownMaze", "shut", "(II)I"⟩ prog_1_method_31_code 8 (Option.some FieldType.int) : Cond) ∈ WS := ws_t (tb_5 (List.mem_of_getElem? (i := 57) rfl)) rfl
set_option maxRecDepth 20000 in
theorem tw_1018 : (Cond.methodLink "MownMaze" 253 ⟨"MownMaze", "bit", "(I)J"⟩ : Cond) ∈ WS := ws_t (tb_5 (List.mem_of_getElem? (i := 58) rfl)) rfl
set_option maxRecDepth 20000 in
theorem tw_1019 : (Cond.methodLink "MownMaze" 257 ⟨"MownMaze", "weekLater", "(J)J"⟩ : Cond) ∈ WS := ws_t (tb_5 (List.mem_of_getElem? (i := 59) rfl)) rfl
set_option maxRecDepth 20000 in
theorem tw_1021 : (Cond.instanceMethod ⟨"MownMaze", "weekLater", "(J)J"⟩ : Cond) ∈ WS := ws_t (tb_5 (List.mem_of_getElem? (i := 61) rfl)) rfl
set_option maxRecDepth 20000 in
theorem tw_1022 : (Cond.code ⟨"MownMaze", "weekLater", "(J)J"⟩ prog_1_method_61_code 3 (Option.some FieldType.long) : Cond) ∈ WS := ws_t (tb_5 (List.mem_of_getElem? (i := 62) rfl)) rfl
set_option maxRecDepth 20000 in
theorem tw_1023 : (Cond.methodLink "MownMaze" 371 ⟨"MownMaze$Ground", "weekLater", "(JJI)J"⟩ : Cond) ∈ WS := ws_t (tb_5 (List.mem_of_getElem? (i := 63) rfl)) rfl
set_option maxRecDepth 20000 in
theorem tw_1024 : (Cond.instanceMethod ⟨"MownMaze$Ground", "weekLater", "(JJI)J"⟩ : Cond) ∈ WS := ws_t (tb_5 (List.mem_of_getElem? (i := 64) rfl)) rfl
set_option maxRecDepth 20000 in
theorem tw_1025 : (Cond.selects "MownMaze$Ground" ⟨"MownMaze$Ground", "weekLater", "(JJI)J"⟩ ⟨"MownMaze$Ground", "weekLater", "(JJI)J"⟩ : Cond) ∈ WS := ws_t (tb_5 (List.mem_of_getElem? (i := 65) rfl)) rfl
set_option maxRecDepth 20000 in
theorem tw_1026 : (Cond.code ⟨"MownMaze$Ground", "weekLater", "(JJI)J"⟩ prog_2_method_19_code 9 (Option.some FieldType.long) : Cond) ∈ WS := ws_t (tb_5 (List.mem_of_getElem? (i := 66) rfl)) rfl
set_option maxRecDepth 20000 in
theorem tw_1027 : (Cond.methodLink "MownMazeLaw" 144 ⟨"MownMaze", "shutWays", "()I"⟩ : Cond) ∈ WS := ws_t (tb_5 (List.mem_of_getElem? (i := 67) rfl)) rfl
set_option maxRecDepth 20000 in
theorem tw_1028 : (Cond.instanceMethod ⟨"MownMaze", "shutWays", "()I"⟩ : Cond) ∈ WS := ws_t (tb_5 (List.mem_of_getElem? (i := 68) rfl)) rfl
set_option maxRecDepth 20000 in
theorem tw_1029 : (Cond.selects "MownMaze" ⟨"MownMaze", "shutWays", "()I"⟩ ⟨"MownMaze", "shutWays", "()I"⟩ : Cond) ∈ WS := ws_t (tb_5 (List.mem_of_getElem? (i := 69) rfl)) rfl
set_option maxRecDepth 20000 in
theorem tw_1030 : (Cond.code ⟨"MownMaze", "shutWays", "()I"⟩ prog_1_method_32_code 8 (Option.some FieldType.int) : Cond) ∈ WS := ws_t (tb_5 (List.mem_of_getElem? (i := 70) rfl)) rfl
set_option maxRecDepth 20000 in
theorem tw_1031 : (Cond.methodLink "MownMaze" 261 ⟨"MownMaze$Plan", "walkerCells", "()J"⟩ : Cond) ∈ WS := ws_t (tb_5 (List.mem_of_getElem? (i := 71) rfl)) rfl
set_option maxRecDepth 20000 in
theorem tw_1032 : (Cond.instanceMethod ⟨"MownMaze$Plan", "walkerCells", "()J"⟩ : Cond) ∈ WS := ws_t (tb_5 (List.mem_of_getElem? (i := 72) rfl)) rfl
set_option maxRecDepth 20000 in
theorem tw_1033 : (Cond.selects "MownMaze$Plan" ⟨"MownMaze$Plan", "walkerCells", "()J"⟩ ⟨"MownMaze$Plan", "walkerCells", "()J"⟩ : Cond) ∈ WS := ws_t (tb_5 (List.mem_of_getElem? (i := 73) rfl)) rfl
set_option maxRecDepth 20000 in
theorem tw_1034 : (Cond.code ⟨"MownMaze$Plan", "walkerCells", "()J"⟩ prog_5_method_16_code 4 (Option.some FieldType.long) : Cond) ∈ WS := ws_t (tb_5 (List.mem_of_getElem? (i := 74) rfl)) rfl
set_option maxRecDepth 20000 in
theorem tw_1035 : (Cond.methodLink "MownMaze" 267 ⟨"MownMaze$Ground", "flood", "(JJ)J"⟩ : Cond) ∈ WS := ws_t (tb_5 (List.mem_of_getElem? (i := 75) rfl)) rfl
set_option maxRecDepth 20000 in
theorem tw_1036 : (Cond.methodLink "MownMazeLaw" 148 ⟨"MownMaze", "seen", "(II)I"⟩ : Cond) ∈ WS := ws_t (tb_5 (List.mem_of_getElem? (i := 76) rfl)) rfl
set_option maxRecDepth 20000 in
theorem tw_1037 : (Cond.instanceMethod ⟨"MownMaze", "seen", "(II)I"⟩ : Cond) ∈ WS := ws_t (tb_5 (List.mem_of_getElem? (i := 77) rfl)) rfl
set_option maxRecDepth 20000 in
theorem tw_1038 : (Cond.selects "MownMaze" ⟨"MownMaze", "seen", "(II)I"⟩ ⟨"MownMaze", "seen", "(II)I"⟩ : Cond) ∈ WS := ws_t (tb_5 (List.mem_of_getElem? (i := 78) rfl)) rfl
set_option maxRecDepth 20000 in
theorem tw_1039 : (Cond.code ⟨"MownMaze", "seen", "(II)I"⟩ prog_1_method_33_code 3 (Option.some FieldType.int) : Cond) ∈ WS := ws_t (tb_5 (List.mem_of_getElem? (i := 79) rfl)) rfl
set_option maxRecDepth 20000 in
theorem tw_1040 : (Cond.methodLink "MownMaze" 271 ⟨"MownMaze$Ground", "seenFromWall", "(JI)I"⟩ : Cond) ∈ WS := ws_t (tb_5 (List.mem_of_getElem? (i := 80) rfl)) rfl
set_option maxRecDepth 20000 in
theorem tw_1041 : (Cond.instanceMethod ⟨"MownMaze$Ground", "seenFromWall", "(JI)I"⟩ : Cond) ∈ WS := ws_t (tb_5 (List.mem_of_getElem? (i := 81) rfl)) rfl
set_option maxRecDepth 20000 in
theorem tw_1042 : (Cond.selects "MownMaze$Ground" ⟨"MownMaze$Ground", "seenFromWall", "(JI)I"⟩ ⟨"MownMaze$Ground", "seenFromWall", "(JI)I"⟩ : Cond) ∈ WS := ws_t (tb_5 (List.mem_of_getElem? (i := 82) rfl)) rfl
set_option maxRecDepth 20000 in
theorem tw_1043 : (Cond.code ⟨"MownMaze$Ground", "seenFromWall", "(JI)I"⟩ prog_2_method_20_code 5 (Option.some FieldType.int) : Cond) ∈ WS := ws_t (tb_5 (List.mem_of_getElem? (i := 83) rfl)) rfl
set_option maxRecDepth 20000 in
theorem tw_1044 : (Cond.methodLink "MownMaze$Ground" 86 ⟨"MownMaze$Ground", "isSeenAlong", "(JIIJ)Z"⟩ : Cond) ∈ WS := ws_t (tb_5 (List.mem_of_getElem? (i := 84) rfl)) rfl
set_option maxRecDepth 20000 in
theorem tw_1046 : (Cond.instanceMethod ⟨"MownMaze$Ground", "isSeenAlong", "(JIIJ)Z"⟩ : Cond) ∈ WS := ws_t (tb_5 (List.mem_of_getElem? (i := 86) rfl)) rfl
set_option maxRecDepth 20000 in
theorem tw_1047 : (Cond.code ⟨"MownMaze$Ground", "isSeenAlong", "(JIIJ)Z"⟩ prog_2_method_21_code 9 (Option.some FieldType.boolean) : Cond) ∈ WS := ws_t (tb_5 (List.mem_of_getElem? (i := 87) rfl)) rfl
set_option maxRecDepth 20000 in
theorem tw_1048 : (Cond.methodLink "MownMazeLaw" 152 ⟨"MownMaze", "gatesSeen", "()I"⟩ : Cond) ∈ WS := ws_t (tb_5 (List.mem_of_getElem? (i := 88) rfl)) rfl
set_option maxRecDepth 20000 in
theorem tw_1049 : (Cond.instanceMethod ⟨"MownMaze", "gatesSeen", "()I"⟩ : Cond) ∈ WS := ws_t (tb_5 (List.mem_of_getElem? (i := 89) rfl)) rfl
set_option maxRecDepth 20000 in
theorem tw_1050 : (Cond.selects "MownMaze" ⟨"MownMaze", "gatesSeen", "()I"⟩ ⟨"MownMaze", "gatesSeen", "()I"⟩ : Cond) ∈ WS := ws_t (tb_5 (List.mem_of_getElem? (i := 90) rfl)) rfl
set_option maxRecDepth 20000 in
theorem tw_1051 : (Cond.code ⟨"MownMaze", "gatesSeen", "()I"⟩ prog_1_method_34_code 3 (Option.some FieldType.int) : Cond) ∈ WS := ws_t (tb_5 (List.mem_of_getElem? (i := 91) rfl)) rfl
set_option maxRecDepth 20000 in
theorem tw_1052 : (Cond.methodLink "MownMaze" 277 ⟨"MownMaze", "isGateSeen", "(I)Z"⟩ : Cond) ∈ WS := ws_t (tb_5 (List.mem_of_getElem? (i := 92) rfl)) rfl
set_option maxRecDepth 20000 in
theorem tw_1054 : (Cond.instanceMethod ⟨"MownMaze", "isGateSeen", "(I)Z"⟩ : Cond) ∈ WS := ws_t (tb_5 (List.mem_of_getElem? (i := 94) rfl)) rfl
set_option maxRecDepth 20000 in
theorem tw_1055 : (Cond.code ⟨"MownMaze", "isGateSeen", "(I)Z"⟩ prog_1_method_62_code 2 (Option.some FieldType.boolean) : Cond) ∈ WS := ws_t (tb_5 (List.mem_of_getElem? (i := 95) rfl)) rfl
set_option maxRecDepth 20000 in
theorem tw_1056 : (Cond.methodLink "MownMaze" 374 ⟨"MownMaze$Plan", "gateCell", "(I)I"⟩ : Cond) ∈ WS := ws_t (tb_5 (List.mem_of_getElem? (i := 96) rfl)) rfl
set_option maxRecDepth 20000 in
theorem tw_1057 : (Cond.instanceMethod ⟨"MownMaze$Plan", "gateCell", "(I)I"⟩ : Cond) ∈ WS := ws_t (tb_5 (List.mem_of_getElem? (i := 97) rfl)) rfl
set_option maxRecDepth 20000 in
theorem tw_1058 : (Cond.selects "MownMaze$Plan" ⟨"MownMaze$Plan", "gateCell", "(I)I"⟩ ⟨"MownMaze$Plan", "gateCell", "(I)I"⟩ : Cond) ∈ WS := ws_t (tb_5 (List.mem_of_getElem? (i := 98) rfl)) rfl
set_option maxRecDepth 20000 in
theorem tw_1059 : (Cond.code ⟨"MownMaze$Plan", "gateCell", "(I)I"⟩ prog_5_method_12_code 2 (Option.some FieldType.int) : Cond) ∈ WS := ws_t (tb_5 (List.mem_of_getElem? (i := 99) rfl)) rfl
set_option maxRecDepth 20000 in
theorem tw_1060 : (Cond.methodLink "MownMazeLaw" 156 ⟨"MownMaze", "places", "()I"⟩ : Cond) ∈ WS := ws_t (tb_5 (List.mem_of_getElem? (i := 100) rfl)) rfl
set_option maxRecDepth 20000 in
theorem tw_1061 : (Cond.instanceMethod ⟨"MownMaze", "places", "()I"⟩ : Cond) ∈ WS := ws_t (tb_5 (List.mem_of_getElem? (i := 101) rfl)) rfl
set_option maxRecDepth 20000 in
theorem tw_1062 : (Cond.selects "MownMaze" ⟨"MownMaze", "places", "()I"⟩ ⟨"MownMaze", "places", "()I"⟩ : Cond) ∈ WS := ws_t (tb_5 (List.mem_of_getElem? (i := 102) rfl)) rfl
set_option maxRecDepth 20000 in
theorem tw_1063 : (Cond.code ⟨"MownMaze", "places", "()I"⟩ prog_1_method_35_code 1 (Option.some FieldType.int) : Cond) ∈ WS := ws_t (tb_5 (List.mem_of_getElem? (i := 103) rfl)) rfl
set_option maxRecDepth 20000 in
theorem tw_1064 : (Cond.methodLink "MownMaze" 280 ⟨"MownMaze", "placesByShouts", "()J"⟩ : Cond) ∈ WS := ws_t (tb_5 (List.mem_of_getElem? (i := 104) rfl)) rfl
set_option maxRecDepth 20000 in
theorem tw_1066 : (Cond.instanceMethod ⟨"MownMaze", "placesByShouts", "()J"⟩ : Cond) ∈ WS := ws_t (tb_5 (List.mem_of_getElem? (i := 106) rfl)) rfl
set_option maxRecDepth 20000 in
theorem tw_1067 : (Cond.code ⟨"MownMaze", "placesByShouts", "()J"⟩ prog_1_method_66_code 4 (Option.some FieldType.long) : Cond) ∈ WS := ws_t (tb_5 (List.mem_of_getElem? (i := 107) rfl)) rfl
set_option maxRecDepth 20000 in
theorem tw_1068 : (Cond.methodLink "MownMaze" 392 ⟨"MownMaze$Plan", "heardCell", "(I)I"⟩ : Cond) ∈ WS := ws_t (tb_5 (List.mem_of_getElem? (i := 108) rfl)) rfl
set_option maxRecDepth 20000 in
theorem tw_1069 : (Cond.instanceMethod ⟨"MownMaze$Plan", "heardCell", "(I)I"⟩ : Cond) ∈ WS := ws_t (tb_5 (List.mem_of_getElem? (i := 109) rfl)) rfl
set_option maxRecDepth 20000 in
theorem tw_1070 : (Cond.selects "MownMaze$Plan" ⟨"MownMaze$Plan", "heardCell", "(I)I"⟩ ⟨"MownMaze$Plan", "heardCell", "(I)I"⟩ : Cond) ∈ WS := ws_t (tb_5 (List.mem_of_getElem? (i := 110) rfl)) rfl
set_option maxRecDepth 20000 in
theorem tw_1071 : (Cond.code ⟨"MownMaze$Plan", "heardCell", "(I)I"⟩ prog_5_method_13_code 2 (Option.some FieldType.int) : Cond) ∈ WS := ws_t (tb_5 (List.mem_of_getElem? (i := 111) rfl)) rfl
set_option maxRecDepth 20000 in
theorem tw_1072 : (Cond.methodLink "MownMaze" 395 ⟨"MownMaze$Plan", "heardSteps", "(I)I"⟩ : Cond) ∈ WS := ws_t (tb_5 (List.mem_of_getElem? (i := 112) rfl)) rfl
set_option maxRecDepth 20000 in
theorem tw_1073 : (Cond.instanceMethod ⟨"MownMaze$Plan", "heardSteps", "(I)I"⟩ : Cond) ∈ WS := ws_t (tb_5 (List.mem_of_getElem? (i := 113) rfl)) rfl
set_option maxRecDepth 20000 in
theorem tw_1074 : (Cond.selects "MownMaze$Plan" ⟨"MownMaze$Plan", "heardSteps", "(I)I"⟩ ⟨"MownMaze$Plan", "heardSteps", "(I)I"⟩ : Cond) ∈ WS := ws_t (tb_5 (List.mem_of_getElem? (i := 114) rfl)) rfl
set_option maxRecDepth 20000 in
theorem tw_1075 : (Cond.code ⟨"MownMaze$Plan", "heardSteps", "(I)I"⟩ prog_5_method_14_code 2 (Option.some FieldType.int) : Cond) ∈ WS := ws_t (tb_5 (List.mem_of_getElem? (i := 115) rfl)) rfl
set_option maxRecDepth 20000 in
theorem tw_1076 : (Cond.methodLink "MownMaze" 398 ⟨"MownMaze$Ground", "cellsAtSteps", "(JII)J"⟩ : Cond) ∈ WS := ws_t (tb_5 (List.mem_of_getElem? (i := 116) rfl)) rfl
set_option maxRecDepth 20000 in
theorem tw_1077 : (Cond.instanceMethod ⟨"MownMaze$Ground", "cellsAtSteps", "(JII)J"⟩ : Cond) ∈ WS := ws_t (tb_5 (List.mem_of_getElem? (i := 117) rfl)) rfl
set_option maxRecDepth 20000 in
theorem tw_1078 : (Cond.selects "MownMaze$Ground" ⟨"MownMaze$Ground", "cellsAtSteps", "(JII)J"⟩ ⟨"MownMaze$Ground", "cellsAtSteps", "(JII)J"⟩ : Cond) ∈ WS := ws_t (tb_5 (List.mem_of_getElem? (i := 118) rfl)) rfl
set_option maxRecDepth 20000 in
theorem tw_1079 : (Cond.code ⟨"MownMaze$Ground", "cellsAtSteps", "(JII)J"⟩ prog_2_method_14_code 10 (Option.some FieldType.long) : Cond) ∈ WS := ws_t (tb_5 (List.mem_of_getElem? (i := 119) rfl)) rfl
set_option maxRecDepth 20000 in
theorem tw_1080 : (Cond.methodLink "MownMazeLaw" 160 ⟨"MownMaze", "place", "(I)I"⟩ : Cond) ∈ WS := ws_t (tb_5 (List.mem_of_getElem? (i := 120) rfl)) rfl
set_option maxRecDepth 20000 in
theorem tw_1081 : (Cond.instanceMethod ⟨"MownMaze", "place", "(I)I"⟩ : Cond) ∈ WS := ws_t (tb_5 (List.mem_of_getElem? (i := 121) rfl)) rfl
set_option maxRecDepth 20000 in
theorem tw_1082 : (Cond.selects "MownMaze" ⟨"MownMaze", "place", "(I)I"⟩ ⟨"MownMaze", "place", "(I)I"⟩ : Cond) ∈ WS := ws_t (tb_5 (List.mem_of_getElem? (i := 122) rfl)) rfl
set_option maxRecDepth 20000 in
theorem tw_1083 : (Cond.code ⟨"MownMaze", "place", "(I)I"⟩ prog_1_method_36_code 3 (Option.some FieldType.int) : Cond) ∈ WS := ws_t (tb_5 (List.mem_of_getElem? (i := 123) rfl)) rfl
set_option maxRecDepth 20000 in
theorem tw_1084 : (Cond.methodLink "MownMazeLaw" 164 ⟨"MownMaze", "best", "()I"⟩ : Cond) ∈ WS := ws_t (tb_5 (List.mem_of_getElem? (i := 124) rfl)) rfl
set_option maxRecDepth 20000 in
theorem tw_1085 : (Cond.instanceMethod ⟨"MownMaze", "best", "()I"⟩ : Cond) ∈ WS := ws_t (tb_5 (List.mem_of_getElem? (i := 125) rfl)) rfl
set_option maxRecDepth 20000 in
theorem tw_1086 : (Cond.selects "MownMaze" ⟨"MownMaze", "best", "()I"⟩ ⟨"MownMaze", "best", "()I"⟩ : Cond) ∈ WS := ws_t (tb_5 (List.mem_of_getElem? (i := 126) rfl)) rfl
set_option maxRecDepth 20000 in
theorem tw_1087 : (Cond.code ⟨"MownMaze", "best", "()I"⟩ prog_1_method_37_code 1 (Option.some FieldType.int) : Cond) ∈ WS := ws_t (tb_5 (List.mem_of_getElem? (i := 127) rfl)) rfl
set_option maxRecDepth 20000 in
theorem tw_1088 : (Cond.methodLink "MownMaze" 283 ⟨"MownMaze", "bestCell", "()I"⟩ : Cond) ∈ WS := ws_t (tb_5 (List.mem_of_getElem? (i := 128) rfl)) rfl
set_option maxRecDepth 20000 in
theorem tw_1090 : (Cond.instanceMethod ⟨"MownMaze", "bestCell", "()I"⟩ : Cond) ∈ WS := ws_t (tb_5 (List.mem_of_getElem? (i := 130) rfl)) rfl
set_option maxRecDepth 20000 in
theorem tw_1091 : (Cond.code ⟨"MownMaze", "bestCell", "()I"⟩ prog_1_method_68_code 7 (Option.some FieldType.int) : Cond) ∈ WS := ws_t (tb_5 (List.mem_of_getElem? (i := 131) rfl)) rfl
set_option maxRecDepth 20000 in
theorem tw_1092 : (Cond.methodLink "MownMaze" 286 ⟨"MownMaze", "paidIfAllGetOut", "(J)I"⟩ : Cond) ∈ WS := ws_t (tb_5 (List.mem_of_getElem? (i := 132) rfl)) rfl
set_option maxRecDepth 20000 in
theorem tw_1094 : (Cond.instanceMethod ⟨"MownMaze", "paidIfAllGetOut", "(J)I"⟩ : Cond) ∈ WS := ws_t (tb_5 (List.mem_of_getElem? (i := 134) rfl)) rfl
set_option maxRecDepth 20000 in
theorem tw_1095 : (Cond.code ⟨"MownMaze", "paidIfAllGetOut", "(J)I"⟩ prog_1_method_69_code 5 (Option.some FieldType.int) : Cond) ∈ WS := ws_t (tb_5 (List.mem_of_getElem? (i := 135) rfl)) rfl
set_option maxRecDepth 20000 in
theorem tw_1096 : (Cond.methodLink "MownMazeLaw" 168 ⟨"MownMaze", "bestPaid", "()I"⟩ : Cond) ∈ WS := ws_t (tb_5 (List.mem_of_getElem? (i := 136) rfl)) rfl
set_option maxRecDepth 20000 in
theorem tw_1097 : (Cond.instanceMethod ⟨"MownMaze", "bestPaid", "()I"⟩ : Cond) ∈ WS := ws_t (tb_5 (List.mem_of_getElem? (i := 137) rfl)) rfl
set_option maxRecDepth 20000 in
theorem tw_1098 : (Cond.selects "MownMaze" ⟨"MownMaze", "bestPaid", "()I"⟩ ⟨"MownMaze", "bestPaid", "()I"⟩ : Cond) ∈ WS := ws_t (tb_5 (List.mem_of_getElem? (i := 138) rfl)) rfl
set_option maxRecDepth 20000 in
theorem tw_1099 : (Cond.code ⟨"MownMaze", "bestPaid", "()I"⟩ prog_1_method_38_code 2 (Option.some FieldType.int) : Cond) ∈ WS := ws_t (tb_5 (List.mem_of_getElem? (i := 139) rfl)) rfl
set_option maxRecDepth 20000 in
theorem tw_1100 : (Cond.methodLink "MownMazeLaw" 172 ⟨"MownMaze", "mow", "(II)Z"⟩ : Cond) ∈ WS := ws_t (tb_5 (List.mem_of_getElem? (i := 140) rfl)) rfl
set_option maxRecDepth 20000 in
theorem tw_1101 : (Cond.instanceMethod ⟨"MownMaze", "mow", "(II)Z"⟩ : Cond) ∈ WS := ws_t (tb_5 (List.mem_of_getElem? (i := 141) rfl)) rfl
set_option maxRecDepth 20000 in
theorem tw_1102 : (Cond.selects "MownMaze" ⟨"MownMaze", "mow", "(II)Z"⟩ ⟨"MownMaze", "mow", "(II)Z"⟩ : Cond) ∈ WS := ws_t (tb_5 (List.mem_of_getElem? (i := 142) rfl)) rfl
set_option maxRecDepth 20000 in
theorem tw_1103 : (Cond.code ⟨"MownMaze", "mow", "(II)Z"⟩ prog_1_method_39_code 3 (Option.some FieldType.boolean) : Cond) ∈ WS := ws_t (tb_5 (List.mem_of_getElem? (i := 143) rfl)) rfl
set_option maxRecDepth 20000 in
theorem tw_1104 : (Cond.methodLink "MownMaze" 289 ⟨"MownMaze", "rejected", "(I)Z"⟩ : Cond) ∈ WS := ws_t (tb_5 (List.mem_of_getElem? (i := 144) rfl)) rfl
set_option maxRecDepth 20000 in
theorem tw_1106 : (Cond.instanceMethod ⟨"MownMaze", "rejected", "(I)Z"⟩ : Cond) ∈ WS := ws_t (tb_5 (List.mem_of_getElem? (i := 146) rfl)) rfl
set_option maxRecDepth 20000 in
theorem tw_1107 : (Cond.code ⟨"MownMaze", "rejected", "(I)Z"⟩ prog_1_method_53_code 2 (Option.some FieldType.boolean) : Cond) ∈ WS := ws_t (tb_5 (List.mem_of_getElem? (i := 147) rfl)) rfl
set_option maxRecDepth 20000 in
theorem tw_1108 : (Cond.methodLink "MownMaze" 292 ⟨"MownMaze", "act", "(J)V"⟩ : Cond) ∈ WS := ws_t (tb_5 (List.mem_of_getElem? (i := 148) rfl)) rfl
set_option maxRecDepth 20000 in
theorem tw_1110 : (Cond.instanceMethod ⟨"MownMaze", "act", "(J)V"⟩ : Cond) ∈ WS := ws_t (tb_5 (List.mem_of_getElem? (i := 150) rfl)) rfl
set_option maxRecDepth 20000 in
theorem tw_1111 : (Cond.code ⟨"MownMaze", "act", "(J)V"⟩ prog_1_method_60_code 3 none : Cond) ∈ WS := ws_t (tb_5 (List.mem_of_getElem? (i := 151) rfl)) rfl
set_option maxRecDepth 20000 in
theorem tw_1112 : (Cond.methodLink "MownMaze" 364 ⟨"MownMaze$History", "keepAct", "(JI)V"⟩ : Cond) ∈ WS := ws_t (tb_5 (List.mem_of_getElem? (i := 152) rfl)) rfl
set_option maxRecDepth 20000 in
theorem tw_1113 : (Cond.instanceMethod ⟨"MownMaze$History", "keepAct", "(JI)V"⟩ : Cond) ∈ WS := ws_t (tb_5 (List.mem_of_getElem? (i := 153) rfl)) rfl
set_option maxRecDepth 20000 in
theorem tw_1114 : (Cond.selects "MownMaze$History" ⟨"MownMaze$History", "keepAct", "(JI)V"⟩ ⟨"MownMaze$History", "keepAct", "(JI)V"⟩ : Cond) ∈ WS := ws_t (tb_5 (List.mem_of_getElem? (i := 154) rfl)) rfl
set_option maxRecDepth 20000 in
theorem tw_1115 : (Cond.code ⟨"MownMaze$History", "keepAct", "(JI)V"⟩ prog_3_method_6_code 4 none : Cond) ∈ WS := ws_t (tb_5 (List.mem_of_getElem? (i := 155) rfl)) rfl
set_option maxRecDepth 20000 in
theorem tw_1116 : (Cond.methodLink "MownMaze$History" 32 ⟨"java/lang/System", "arraycopy", "(Ljava/lang/Object;ILjava/lang/Object;II)V"⟩ : Cond) ∈ WS := ws_t (tb_5 (List.mem_of_getElem? (i := 156) rfl)) rfl
set_option maxRecDepth 20000 in
theorem tw_1117 : (Cond.static ⟨"java/lang/System", "arraycopy", "(Ljava/lang/Object;ILjava/lang/Object;II)V"⟩ : Cond) ∈ WS := ws_t (tb_5 (List.mem_of_getElem? (i := 157) rfl)) rfl
set_option maxRecDepth 20000 in
theorem tw_1118 : (Cond.native ⟨"java/lang/System", "arraycopy", "(Ljava/lang/Object;ILjava/lang/Object;II)V"⟩ : Cond) ∈ WS := ws_t (tb_5 (List.mem_of_getElem? (i := 158) rfl)) rfl
set_option maxRecDepth 20000 in
theorem tw_1119 : (Cond.methodLink "MownMaze" 296 ⟨"MownMaze", "accepted", "()Z"⟩ : Cond) ∈ WS := ws_t (tb_5 (List.mem_of_getElem? (i := 159) rfl)) rfl
set_option maxRecDepth 20000 in
theorem tw_1121 : (Cond.instanceMethod ⟨"MownMaze", "accepted", "()Z"⟩ : Cond) ∈ WS := ws_t (tb_5 (List.mem_of_getElem? (i := 161) rfl)) rfl
set_option maxRecDepth 20000 in
theorem tw_1122 : (Cond.code ⟨"MownMaze", "accepted", "()Z"⟩ prog_1_method_52_code 1 (Option.some FieldType.boolean) : Cond) ∈ WS := ws_t (tb_5 (List.mem_of_getElem? (i := 162) rfl)) rfl
set_option maxRecDepth 20000 in
theorem tw_1123 : (Cond.methodLink "MownMazeLaw" 177 ⟨"MownMaze", "stand", "(II)Z"⟩ : Cond) ∈ WS := ws_t (tb_5 (List.mem_of_getElem? (i := 163) rfl)) rfl
set_option maxRecDepth 20000 in
theorem tw_1124 : (Cond.instanceMethod ⟨"MownMaze", "stand", "(II)Z"⟩ : Cond) ∈ WS := ws_t (tb_5 (List.mem_of_getElem? (i := 164) rfl)) rfl
set_option maxRecDepth 20000 in
theorem tw_1125 : (Cond.selects "MownMaze" ⟨"MownMaze", "stand", "(II)Z"⟩ ⟨"MownMaze", "stand", "(II)Z"⟩ : Cond) ∈ WS := ws_t (tb_5 (List.mem_of_getElem? (i := 165) rfl)) rfl
set_option maxRecDepth 20000 in
theorem tw_1126 : (Cond.code ⟨"MownMaze", "stand", "(II)Z"⟩ prog_1_method_40_code 3 (Option.some FieldType.boolean) : Cond) ∈ WS := ws_t (tb_5 (List.mem_of_getElem? (i := 166) rfl)) rfl
set_option maxRecDepth 20000 in
theorem tw_1127 : (Cond.methodLink "MownMazeLaw" 181 ⟨"MownMaze", "week", "()I"⟩ : Cond) ∈ WS := ws_t (tb_5 (List.mem_of_getElem? (i := 167) rfl)) rfl
set_option maxRecDepth 20000 in
theorem tw_1128 : (Cond.instanceMethod ⟨"MownMaze", "week", "()I"⟩ : Cond) ∈ WS := ws_t (tb_5 (List.mem_of_getElem? (i := 168) rfl)) rfl
set_option maxRecDepth 20000 in
theorem tw_1129 : (Cond.selects "MownMaze" ⟨"MownMaze", "week", "()I"⟩ ⟨"MownMaze", "week", "()I"⟩ : Cond) ∈ WS := ws_t (tb_5 (List.mem_of_getElem? (i := 169) rfl)) rfl
set_option maxRecDepth 20000 in
theorem tw_1130 : (Cond.code ⟨"MownMaze", "week", "()I"⟩ prog_1_method_41_code 3 (Option.some FieldType.int) : Cond) ∈ WS := ws_t (tb_5 (List.mem_of_getElem? (i := 170) rfl)) rfl
set_option maxRecDepth 20000 in
theorem tw_1131 : (Cond.methodLink "MownMazeLaw" 185 ⟨"MownMaze", "thin", "()I"⟩ : Cond) ∈ WS := ws_t (tb_5 (List.mem_of_getElem? (i := 171) rfl)) rfl
set_option maxRecDepth 20000 in
theorem tw_1132 : (Cond.instanceMethod ⟨"MownMaze", "thin", "()I"⟩ : Cond) ∈ WS := ws_t (tb_5 (List.mem_of_getElem? (i := 172) rfl)) rfl
set_option maxRecDepth 20000 in
theorem tw_1133 : (Cond.selects "MownMaze" ⟨"MownMaze", "thin", "()I"⟩ ⟨"MownMaze", "thin", "()I"⟩ : Cond) ∈ WS := ws_t (tb_5 (List.mem_of_getElem? (i := 173) rfl)) rfl
set_option maxRecDepth 20000 in
theorem tw_1134 : (Cond.code ⟨"MownMaze", "thin", "()I"⟩ prog_1_method_42_code 6 (Option.some FieldType.int) : Cond) ∈ WS := ws_t (tb_5 (List.mem_of_getElem? (i := 174) rfl)) rfl
set_option maxRecDepth 20000 in
theorem tw_1135 : (Cond.methodLink "MownMaze" 299 ⟨"MownMaze", "cellsToThin", "()J"⟩ : Cond) ∈ WS := ws_t (tb_5 (List.mem_of_getElem? (i := 175) rfl)) rfl
set_option maxRecDepth 20000 in
theorem tw_1137 : (Cond.instanceMethod ⟨"MownMaze", "cellsToThin", "()J"⟩ : Cond) ∈ WS := ws_t (tb_5 (List.mem_of_getElem? (i := 177) rfl)) rfl
set_option maxRecDepth 20000 in
theorem tw_1138 : (Cond.code ⟨"MownMaze", "cellsToThin", "()J"⟩ prog_1_method_67_code 6 (Option.some FieldType.long) : Cond) ∈ WS := ws_t (tb_5 (List.mem_of_getElem? (i := 178) rfl)) rfl
set_option maxRecDepth 20000 in
theorem tw_1139 : (Cond.methodLink "MownMaze" 302 ⟨"MownMaze", "draw", "(I)I"⟩ : Cond) ∈ WS := ws_t (tb_5 (List.mem_of_getElem? (i := 179) rfl)) rfl
set_option maxRecDepth 20000 in
theorem tw_1140 : (Cond.methodLink "MownMazeLaw" 189 ⟨"MownMaze", "seed", "(I)Z"⟩ : Cond) ∈ WS := ws_t (tb_5 (List.mem_of_getElem? (i := 180) rfl)) rfl
set_option maxRecDepth 20000 in
theorem tw_1141 : (Cond.instanceMethod ⟨"MownMaze", "seed", "(I)Z"⟩ : Cond) ∈ WS := ws_t (tb_5 (List.mem_of_getElem? (i := 181) rfl)) rfl
set_option maxRecDepth 20000 in
theorem tw_1142 : (Cond.selects "MownMaze" ⟨"MownMaze", "seed", "(I)Z"⟩ ⟨"MownMaze", "seed", "(I)Z"⟩ : Cond) ∈ WS := ws_t (tb_5 (List.mem_of_getElem? (i := 182) rfl)) rfl
set_option maxRecDepth 20000 in
theorem tw_1143 : (Cond.code ⟨"MownMaze", "seed", "(I)Z"⟩ prog_1_method_43_code 2 (Option.some FieldType.boolean) : Cond) ∈ WS := ws_t (tb_5 (List.mem_of_getElem? (i := 183) rfl)) rfl
set_option maxRecDepth 20000 in
theorem tw_1144 : (Cond.methodLink "MownMazeLaw" 194 ⟨"MownMaze", "undo", "()Z"⟩ : Cond) ∈ WS := ws_t (tb_5 (List.mem_of_getElem? (i := 184) rfl)) rfl
set_option maxRecDepth 20000 in
theorem tw_1145 : (Cond.instanceMethod ⟨"MownMaze", "undo", "()Z"⟩ : Cond) ∈ WS := ws_t (tb_5 (List.mem_of_getElem? (i := 185) rfl)) rfl
set_option maxRecDepth 20000 in
theorem tw_1146 : (Cond.selects "MownMaze" ⟨"MownMaze", "undo", "()Z"⟩ ⟨"MownMaze", "undo", "()Z"⟩ : Cond) ∈ WS := ws_t (tb_5 (List.mem_of_getElem? (i := 186) rfl)) rfl
set_option maxRecDepth 20000 in
theorem tw_1147 : (Cond.code ⟨"MownMaze", "undo", "()Z"⟩ prog_1_method_44_code 1 (Option.some FieldType.boolean) : Cond) ∈ WS := ws_t (tb_5 (List.mem_of_getElem? (i := 187) rfl)) rfl
set_option maxRecDepth 20000 in
theorem tw_1148 : (Cond.methodLink "MownMaze" 306 ⟨"MownMaze$History", "actCount", "()I"⟩ : Cond) ∈ WS := ws_t (tb_5 (List.mem_of_getElem? (i := 188) rfl)) rfl
set_option maxRecDepth 20000 in
theorem tw_1149 : (Cond.instanceMethod ⟨"MownMaze$History", "actCount", "()I"⟩ : Cond) ∈ WS := ws_t (tb_5 (List.mem_of_getElem? (i := 189) rfl)) rfl
set_option maxRecDepth 20000 in
theorem tw_1150 : (Cond.selects "MownMaze$History" ⟨"MownMaze$History", "actCount", "()I"⟩ ⟨"MownMaze$History", "actCount", "()I"⟩ : Cond) ∈ WS := ws_t (tb_5 (List.mem_of_getElem? (i := 190) rfl)) rfl
set_option maxRecDepth 20000 in
theorem tw_1151 : (Cond.code ⟨"MownMaze$History", "actCount", "()I"⟩ prog_3_method_4_code 1 (Option.some FieldType.int) : Cond) ∈ WS := ws_t (tb_5 (List.mem_of_getElem? (i := 191) rfl)) rfl
set_option maxRecDepth 20000 in
theorem tw_1152 : (Cond.methodLink "MownMaze" 309 ⟨"MownMaze$History", "latestCells", "()J"⟩ : Cond) ∈ WS := ws_t (tb_5 (List.mem_of_getElem? (i := 192) rfl)) rfl
set_option maxRecDepth 20000 in
theorem tw_1153 : (Cond.instanceMethod ⟨"MownMaze$History", "latestCells", "()J"⟩ : Cond) ∈ WS := ws_t (tb_5 (List.mem_of_getElem? (i := 193) rfl)) rfl
set_option maxRecDepth 20000 in
theorem tw_1154 : (Cond.selects "MownMaze$History" ⟨"MownMaze$History", "latestCells", "()J"⟩ ⟨"MownMaze$History", "latestCells", "()J"⟩ : Cond) ∈ WS := ws_t (tb_5 (List.mem_of_getElem? (i := 194) rfl)) rfl
set_option maxRecDepth 20000 in
theorem tw_1155 : (Cond.code ⟨"MownMaze$History", "latestCells", "()J"⟩ prog_3_method_7_code 1 (Option.some FieldType.long) : Cond) ∈ WS := ws_t (tb_5 (List.mem_of_getElem? (i := 195) rfl)) rfl
set_option maxRecDepth 20000 in
theorem tw_1156 : (Cond.methodLink "MownMaze" 312 ⟨"MownMaze$History", "latestSeed", "()I"⟩ : Cond) ∈ WS := ws_t (tb_5 (List.mem_of_getElem? (i := 196) rfl)) rfl
set_option maxRecDepth 20000 in
theorem tw_1157 : (Cond.instanceMethod ⟨"MownMaze$History", "latestSeed", "()I"⟩ : Cond) ∈ WS := ws_t (tb_5 (List.mem_of_getElem? (i := 197) rfl)) rfl
set_option maxRecDepth 20000 in
theorem tw_1158 : (Cond.selects "MownMaze$History" ⟨"MownMaze$History", "latestSeed", "()I"⟩ ⟨"MownMaze$History", "latestSeed", "()I"⟩ : Cond) ∈ WS := ws_t (tb_5 (List.mem_of_getElem? (i := 198) rfl)) rfl
set_option maxRecDepth 20000 in
theorem tw_1159 : (Cond.code ⟨"MownMaze$History", "latestSeed", "()I"⟩ prog_3_method_8_code 1 (Option.some FieldType.int) : Cond) ∈ WS := ws_t (tb_5 (List.mem_of_getElem? (i := 199) rfl)) rfl
set_option maxRecDepth 20000 in
theorem tw_1160 : (Cond.methodLink "MownMaze" 315 ⟨"MownMaze$History", "dropLatest", "()V"⟩ : Cond) ∈ WS := ws_t (tb_5 (List.mem_of_getElem? (i := 200) rfl)) rfl
set_option maxRecDepth 20000 in
theorem tw_1161 : (Cond.instanceMethod ⟨"MownMaze$History", "dropLatest", "()V"⟩ : Cond) ∈ WS := ws_t (tb_5 (List.mem_of_getElem? (i := 201) rfl)) rfl
set_option maxRecDepth 20000 in
theorem tw_1162 : (Cond.selects "MownMaze$History" ⟨"MownMaze$History", "dropLatest", "()V"⟩ ⟨"MownMaze$History", "dropLatest", "()V"⟩ : Cond) ∈ WS := ws_t (tb_5 (List.mem_of_getElem? (i := 202) rfl)) rfl
set_option maxRecDepth 20000 in
theorem tw_1163 : (Cond.code ⟨"MownMaze$History", "dropLatest", "()V"⟩ prog_3_method_9_code 1 none : Cond) ∈ WS := ws_t (tb_5 (List.mem_of_getElem? (i := 203) rfl)) rfl
set_option maxRecDepth 20000 in
theorem tw_1164 : (Cond.methodLink "MownMazeLaw" 199 ⟨"MownMaze", "mark", "()I"⟩ : Cond) ∈ WS := ws_t (tb_5 (List.mem_of_getElem? (i := 204) rfl)) rfl
set_option maxRecDepth 20000 in
theorem tw_1165 : (Cond.instanceMethod ⟨"MownMaze", "mark", "()I"⟩ : Cond) ∈ WS := ws_t (tb_5 (List.mem_of_getElem? (i := 205) rfl)) rfl
set_option maxRecDepth 20000 in
theorem tw_1166 : (Cond.selects "MownMaze" ⟨"MownMaze", "mark", "()I"⟩ ⟨"MownMaze", "mark", "()I"⟩ : Cond) ∈ WS := ws_t (tb_5 (List.mem_of_getElem? (i := 206) rfl)) rfl
set_option maxRecDepth 20000 in
theorem tw_1167 : (Cond.code ⟨"MownMaze", "mark", "()I"⟩ prog_1_method_45_code 2 (Option.some FieldType.int) : Cond) ∈ WS := ws_t (tb_5 (List.mem_of_getElem? (i := 207) rfl)) rfl
set_option maxRecDepth 20000 in
theorem tw_1168 : (Cond.methodLink "MownMaze" 318 ⟨"MownMaze$History", "addMark", "(JI)I"⟩ : Cond) ∈ WS := ws_t (tb_5 (List.mem_of_getElem? (i := 208) rfl)) rfl
set_option maxRecDepth 20000 in
theorem tw_1169 : (Cond.instanceMethod ⟨"MownMaze$History", "addMark", "(JI)I"⟩ : Cond) ∈ WS := ws_t (tb_5 (List.mem_of_getElem? (i := 209) rfl)) rfl
set_option maxRecDepth 20000 in
theorem tw_1170 : (Cond.selects "MownMaze$History" ⟨"MownMaze$History", "addMark", "(JI)I"⟩ ⟨"MownMaze$History", "addMark", "(JI)I"⟩ : Cond) ∈ WS := ws_t (tb_5 (List.mem_of_getElem? (i := 210) rfl)) rfl
set_option maxRecDepth 20000 in
theorem tw_1171 : (Cond.code ⟨"MownMaze$History", "addMark", "(JI)I"⟩ prog_3_method_10_code 4 (Option.some FieldType.int) : Cond) ∈ WS := ws_t (tb_5 (List.mem_of_getElem? (i := 211) rfl)) rfl
set_option maxRecDepth 20000 in
theorem tw_1172 : (Cond.methodLink "MownMazeLaw" 203 ⟨"MownMaze", "back", "(I)Z"⟩ : Cond) ∈ WS := ws_t (tb_5 (List.mem_of_getElem? (i := 212) rfl)) rfl
set_option maxRecDepth 20000 in
theorem tw_1173 : (Cond.instanceMethod ⟨"MownMaze", "back", "(I)Z"⟩ : Cond) ∈ WS := ws_t (tb_5 (List.mem_of_getElem? (i := 213) rfl)) rfl
set_option maxRecDepth 20000 in
theorem tw_1174 : (Cond.selects "MownMaze" ⟨"MownMaze", "back", "(I)Z"⟩ ⟨"MownMaze", "back", "(I)Z"⟩ : Cond) ∈ WS := ws_t (tb_5 (List.mem_of_getElem? (i := 214) rfl)) rfl
set_option maxRecDepth 20000 in
theorem tw_1175 : (Cond.code ⟨"MownMaze", "back", "(I)Z"⟩ prog_1_method_46_code 2 (Option.some FieldType.boolean) : Cond) ∈ WS := ws_t (tb_5 (List.mem_of_getElem? (i := 215) rfl)) rfl
set_option maxRecDepth 20000 in
theorem tw_1176 : (Cond.methodLink "MownMaze" 321 ⟨"MownMaze$History", "hasMark", "(I)Z"⟩ : Cond) ∈ WS := ws_t (tb_5 (List.mem_of_getElem? (i := 216) rfl)) rfl
set_option maxRecDepth 20000 in
theorem tw_1177 : (Cond.instanceMethod ⟨"MownMaze$History", "hasMark", "(I)Z"⟩ : Cond) ∈ WS := ws_t (tb_5 (List.mem_of_getElem? (i := 217) rfl)) rfl
set_option maxRecDepth 20000 in
theorem tw_1178 : (Cond.selects "MownMaze$History" ⟨"MownMaze$History", "hasMark", "(I)Z"⟩ ⟨"MownMaze$History", "hasMark", "(I)Z"⟩ : Cond) ∈ WS := ws_t (tb_5 (List.mem_of_getElem? (i := 218) rfl)) rfl
set_option maxRecDepth 20000 in
theorem tw_1179 : (Cond.code ⟨"MownMaze$History", "hasMark", "(I)Z"⟩ prog_3_method_11_code 2 (Option.some FieldType.boolean) : Cond) ∈ WS := ws_t (tb_5 (List.mem_of_getElem? (i := 219) rfl)) rfl
set_option maxRecDepth 20000 in
theorem tw_1180 : (Cond.methodLink "MownMaze" 324 ⟨"MownMaze$History", "markedCells", "(I)J"⟩ : Cond) ∈ WS := ws_t (tb_5 (List.mem_of_getElem? (i := 220) rfl)) rfl
set_option maxRecDepth 20000 in
theorem tw_1181 : (Cond.instanceMethod ⟨"MownMaze$History", "markedCells", "(I)J"⟩ : Cond) ∈ WS := ws_t (tb_5 (List.mem_of_getElem? (i := 221) rfl)) rfl
set_option maxRecDepth 20000 in
theorem tw_1182 : (Cond.selects "MownMaze$History" ⟨"MownMaze$History", "markedCells", "(I)J"⟩ ⟨"MownMaze$History", "markedCells", "(I)J"⟩ : Cond) ∈ WS := ws_t (tb_5 (List.mem_of_getElem? (i := 222) rfl)) rfl
set_option maxRecDepth 20000 in
theorem tw_1183 : (Cond.code ⟨"MownMaze$History", "markedCells", "(I)J"⟩ prog_3_method_12_code 2 (Option.some FieldType.long) : Cond) ∈ WS := ws_t (tb_5 (List.mem_of_getElem? (i := 223) rfl)) rfl
set_option maxRecDepth 20000 in
theorem tw_1184 : (Cond.methodLink "MownMaze" 327 ⟨"MownMaze$History", "markedSeed", "(I)I"⟩ : Cond) ∈ WS := ws_t (tb_5 (List.mem_of_getElem? (i := 224) rfl)) rfl
set_option maxRecDepth 20000 in
theorem tw_1185 : (Cond.instanceMethod ⟨"MownMaze$History", "markedSeed", "(I)I"⟩ : Cond) ∈ WS := ws_t (tb_5 (List.mem_of_getElem? (i := 225) rfl)) rfl
set_option maxRecDepth 20000 in
theorem tw_1186 : (Cond.selects "MownMaze$History" ⟨"MownMaze$History", "markedSeed", "(I)I"⟩ ⟨"MownMaze$History", "markedSeed", "(I)I"⟩ : Cond) ∈ WS := ws_t (tb_5 (List.mem_of_getElem? (i := 226) rfl)) rfl
set_option maxRecDepth 20000 in
theorem tw_1187 : (Cond.code ⟨"MownMaze$History", "markedSeed", "(I)I"⟩ prog_3_method_13_code 2 (Option.some FieldType.int) : Cond) ∈ WS := ws_t (tb_5 (List.mem_of_getElem? (i := 227) rfl)) rfl
set_option maxRecDepth 20000 in
theorem tw_1188 : (Cond.methodLink "MownMaze" 330 ⟨"MownMaze$History", "forgetActs", "()V"⟩ : Cond) ∈ WS := ws_t (tb_5 (List.mem_of_getElem? (i := 228) rfl)) rfl
set_option maxRecDepth 20000 in
theorem tw_1189 : (Cond.instanceMethod ⟨"MownMaze$History", "forgetActs", "()V"⟩ : Cond) ∈ WS := ws_t (tb_5 (List.mem_of_getElem? (i := 229) rfl)) rfl
set_option maxRecDepth 20000 in
theorem tw_1190 : (Cond.selects "MownMaze$History" ⟨"MownMaze$History", "forgetActs", "()V"⟩ ⟨"MownMaze$History", "forgetActs", "()V"⟩ : Cond) ∈ WS := ws_t (tb_5 (List.mem_of_getElem? (i := 230) rfl)) rfl
set_option maxRecDepth 20000 in
theorem tw_1191 : (Cond.code ⟨"MownMaze$History", "forgetActs", "()V"⟩ prog_3_method_3_code 1 none : Cond) ∈ WS := ws_t (tb_5 (List.mem_of_getElem? (i := 231) rfl)) rfl
set_option maxRecDepth 20000 in
theorem tw_1192 : (Cond.methodLink "MownMazeLaw" 216 ⟨"MownMaze", "size", "(I)I"⟩ : Cond) ∈ WS := ws_t (tb_5 (List.mem_of_getElem? (i := 232) rfl)) rfl
set_option maxRecDepth 20000 in
theorem tw_1193 : (Cond.instanceMethod ⟨"MownMaze", "size", "(I)I"⟩ : Cond) ∈ WS := ws_t (tb_5 (List.mem_of_getElem? (i := 233) rfl)) rfl
set_option maxRecDepth 20000 in
theorem tw_1194 : (Cond.selects "MownMaze" ⟨"MownMaze", "size", "(I)I"⟩ ⟨"MownMaze", "size", "(I)I"⟩ : Cond) ∈ WS := ws_t (tb_5 (List.mem_of_getElem? (i := 234) rfl)) rfl
set_option maxRecDepth 20000 in
theorem tw_1195 : (Cond.code ⟨"MownMaze", "size", "(I)I"⟩ prog_1_method_48_code 2 (Option.some FieldType.int) : Cond) ∈ WS := ws_t (tb_5 (List.mem_of_getElem? (i := 235) rfl)) rfl
set_option maxRecDepth 20000 in
theorem tw_1196 : (Cond.methodLink "MownMaze" 340 ⟨"MownMaze$History", "markCount", "()I"⟩ : Cond) ∈ WS := ws_t (tb_5 (List.mem_of_getElem? (i := 236) rfl)) rfl
set_option maxRecDepth 20000 in
theorem tw_1197 : (Cond.instanceMethod ⟨"MownMaze$History", "markCount", "()I"⟩ : Cond) ∈ WS := ws_t (tb_5 (List.mem_of_getElem? (i := 237) rfl)) rfl
set_option maxRecDepth 20000 in
theorem tw_1198 : (Cond.selects "MownMaze$History" ⟨"MownMaze$History", "markCount", "()I"⟩ ⟨"MownMaze$History", "markCount", "()I"⟩ : Cond) ∈ WS := ws_t (tb_5 (List.mem_of_getElem? (i := 238) rfl)) rfl
set_option maxRecDepth 20000 in
theorem tw_1199 : (Cond.code ⟨"MownMaze$History", "markCount", "()I"⟩ prog_3_method_5_code 1 (Option.some FieldType.int) : Cond) ∈ WS := ws_t (tb_5 (List.mem_of_getElem? (i := 239) rfl)) rfl
set_option maxRecDepth 20000 in
theorem tw_1200 : (Cond.methodLink "MownMaze" 343 ⟨"MownMaze$Plan", "told", "(I)I"⟩ : Cond) ∈ WS := ws_t (tb_6 (List.mem_of_getElem? (i := 0) rfl)) rfl
set_option maxRecDepth 20000 in
theorem tw_1201 : (Cond.instanceMethod ⟨"MownMaze$Plan", "told", "(I)I"⟩ : Cond) ∈ WS := ws_t (tb_6 (List.mem_of_getElem? (i := 1) rfl)) rfl
set_option maxRecDepth 20000 in
theorem tw_1202 : (Cond.selects "MownMaze$Plan" ⟨"MownMaze$Plan", "told", "(I)I"⟩ ⟨"MownMaze$Plan", "told", "(I)I"⟩ : Cond) ∈ WS := ws_t (tb_6 (List.mem_of_getElem? (i := 2) rfl)) rfl
set_option maxRecDepth 20000 in
theorem tw_1203 : (Cond.code ⟨"MownMaze$Plan", "told", "(I)I"⟩ prog_5_method_17_code 2 (Option.some FieldType.int) : Cond) ∈ WS := ws_t (tb_6 (List.mem_of_getElem? (i := 3) rfl)) rfl
set_option maxRecDepth 20000 in
theorem tw_1204 : (Cond.methodLink "MownMazeLaw" 220 ⟨"MownMaze", "trouble", "()I"⟩ : Cond) ∈ WS := ws_t (tb_6 (List.mem_of_getElem? (i := 4) rfl)) rfl
set_option maxRecDepth 20000 in
theorem tw_1205 : (Cond.instanceMethod ⟨"MownMaze", "trouble", "()I"⟩ : Cond) ∈ WS := ws_t (tb_6 (List.mem_of_getElem? (i := 5) rfl)) rfl
set_option maxRecDepth 20000 in
theorem tw_1206 : (Cond.selects "MownMaze" ⟨"MownMaze", "trouble", "()I"⟩ ⟨"MownMaze", "trouble", "()I"⟩ : Cond) ∈ WS := ws_t (tb_6 (List.mem_of_getElem? (i := 6) rfl)) rfl
set_option maxRecDepth 20000 in
theorem tw_1207 : (Cond.code ⟨"MownMaze", "trouble", "()I"⟩ prog_1_method_49_code 1 (Option.some FieldType.int) : Cond) ∈ WS := ws_t (tb_6 (List.mem_of_getElem? (i := 7) rfl)) rfl
set_option maxRecDepth 20000 in
theorem tw_1208 : (Cond.methodLink "MownMazeLaw" 207 ⟨"MownMazeLaw", "led", "(LMownMaze;I[J)I"⟩ : Cond) ∈ WS := ws_t (tb_6 (List.mem_of_getElem? (i := 8) rfl)) rfl
set_option maxRecDepth 20000 in
theorem tw_1209 : (Cond.static ⟨"MownMazeLaw", "led", "(LMownMaze;I[J)I"⟩ : Cond) ∈ WS := ws_t (tb_6 (List.mem_of_getElem? (i := 9) rfl)) rfl
set_option maxRecDepth 20000 in
theorem tw_1211 : (Cond.classLink "MownMazeLaw" 13 "java/util/NoSuchElementException" : Cond) ∈ WS := ws_t (tb_6 (List.mem_of_getElem? (i := 11) rfl)) rfl
set_option maxRecDepth 20000 in
theorem tw_1212 : (Cond.methodLink "MownMazeLaw" 7 ⟨"MownMaze", "led", "(I)I"⟩ : Cond) ∈ WS := ws_t (tb_6 (List.mem_of_getElem? (i := 12) rfl)) rfl
set_option maxRecDepth 20000 in
theorem tw_1213 : (Cond.instanceMethod ⟨"MownMaze", "led", "(I)I"⟩ : Cond) ∈ WS := ws_t (tb_6 (List.mem_of_getElem? (i := 13) rfl)) rfl
set_option maxRecDepth 20000 in
theorem tw_1214 : (Cond.selects "MownMaze" ⟨"MownMaze", "led", "(I)I"⟩ ⟨"MownMaze", "led", "(I)I"⟩ : Cond) ∈ WS := ws_t (tb_6 (List.mem_of_getElem? (i := 14) rfl)) rfl
set_option maxRecDepth 20000 in
theorem tw_1215 : (Cond.code ⟨"MownMaze", "led", "(I)I"⟩ prog_1_method_47_code 4 (Option.some FieldType.int) : Cond) ∈ WS := ws_t (tb_6 (List.mem_of_getElem? (i := 15) rfl)) rfl
set_option maxRecDepth 20000 in
theorem tw_1216 : (Cond.classLink "MownMaze" 333 "java/util/NoSuchElementException" : Cond) ∈ WS := ws_t (tb_6 (List.mem_of_getElem? (i := 16) rfl)) rfl
set_option maxRecDepth 20000 in
theorem tw_1217 : (Cond.instantiable "java/util/NoSuchElementException" 6 : Cond) ∈ WS := ws_t (tb_6 (List.mem_of_getElem? (i := 17) rfl)) rfl
set_option maxRecDepth 20000 in
theorem tw_1225 : (Cond.selects "java/util/NoSuchElementException" ⟨"java/lang/Throwable", "fillInStackTrace", "(I)Ljava/lang/Throwable;"⟩ ⟨"java/lang/Throwable", "fillInStackTrace", "(I)Ljava/lang/Throwable;"⟩ : Cond) ∈ WS := ws_t (tb_6 (List.mem_of_getElem? (i := 25) rfl)) rfl
set_option maxRecDepth 20000 in
theorem tw_1226 : (Cond.selects "java/util/NoSuchElementException" ⟨"java/lang/Throwable", "fillInStackTrace", "()Ljava/lang/Throwable;"⟩ ⟨"java/lang/Throwable", "fillInStackTrace", "()Ljava/lang/Throwable;"⟩ : Cond) ∈ WS := ws_t (tb_6 (List.mem_of_getElem? (i := 26) rfl)) rfl
set_option maxRecDepth 20000 in
theorem tw_1227 : (Cond.lays "java/util/NoSuchElementException" "java/lang/Throwable" "cause" "Ljava/lang/Throwable;" : Cond) ∈ WS := ws_t (tb_6 (List.mem_of_getElem? (i := 27) rfl)) rfl
set_option maxRecDepth 20000 in
theorem tw_1228 : (Cond.lays "java/lang/Throwable" "java/lang/Throwable" "cause" "Ljava/lang/Throwable;" : Cond) ∈ WS := ws_t (tb_6 (List.mem_of_getElem? (i := 28) rfl)) rfl
set_option maxRecDepth 20000 in
theorem tw_1229 : (Cond.lays "java/util/NoSuchElementException" "java/lang/Throwable" "stackTrace" "[Ljava/lang/StackTraceElement;" : Cond) ∈ WS := ws_t (tb_6 (List.mem_of_getElem? (i := 29) rfl)) rfl
set_option maxRecDepth 20000 in
theorem tw_1230 : (Cond.lays "java/lang/Throwable" "java/lang/Throwable" "stackTrace" "[Ljava/lang/StackTraceElement;" : Cond) ∈ WS := ws_t (tb_6 (List.mem_of_getElem? (i := 30) rfl)) rfl
set_option maxRecDepth 20000 in
theorem tw_1231 : (Cond.lays "java/util/NoSuchElementException" "java/lang/Throwable" "suppressedExceptions" "Ljava/util/List;" : Cond) ∈ WS := ws_t (tb_6 (List.mem_of_getElem? (i := 31) rfl)) rfl
set_option maxRecDepth 20000 in
theorem tw_1232 : (Cond.lays "java/lang/Throwable" "java/lang/Throwable" "suppressedExceptions" "Ljava/util/List;" : Cond) ∈ WS := ws_t (tb_6 (List.mem_of_getElem? (i := 32) rfl)) rfl
set_option maxRecDepth 20000 in
theorem tw_1233 : (Cond.lays "java/util/NoSuchElementException" "java/lang/Throwable" "detailMessage" "Ljava/lang/String;" : Cond) ∈ WS := ws_t (tb_6 (List.mem_of_getElem? (i := 33) rfl)) rfl
set_option maxRecDepth 20000 in
theorem tw_1234 : (Cond.lays "java/lang/Throwable" "java/lang/Throwable" "detailMessage" "Ljava/lang/String;" : Cond) ∈ WS := ws_t (tb_6 (List.mem_of_getElem? (i := 34) rfl)) rfl
set_option maxRecDepth 20000 in
theorem tw_1235 : (Cond.lays "java/util/NoSuchElementException" "java/lang/Throwable" "backtrace" "Ljava/lang/Object;" : Cond) ∈ WS := ws_t (tb_6 (List.mem_of_getElem? (i := 35) rfl)) rfl
set_option maxRecDepth 20000 in
theorem tw_1236 : (Cond.lays "java/lang/Throwable" "java/lang/Throwable" "backtrace" "Ljava/lang/Object;" : Cond) ∈ WS := ws_t (tb_6 (List.mem_of_getElem? (i := 36) rfl)) rfl
set_option maxRecDepth 20000 in
theorem tw_1237 : (Cond.fieldLink "java/lang/Throwable" 198 "java/lang/Throwable" "backtrace" "Ljava/lang/Object;" : Cond) ∈ WS := ws_t (tb_6 (List.mem_of_getElem? (i := 37) rfl)) rfl
set_option maxRecDepth 20000 in
theorem tw_1238 : (Cond.superclass "java/lang/Throwable" "java/lang/Object" : Cond) ∈ WS := ws_t (tb_6 (List.mem_of_getElem? (i := 38) rfl)) rfl
set_option maxRecDepth 20000 in
theorem tw_1239 : (Cond.instanceMethod ⟨"java/lang/Throwable", "<init>", "()V"⟩ : Cond) ∈ WS := ws_t (tb_6 (List.mem_of_getElem? (i := 39) rfl)) rfl
set_option maxRecDepth 20000 in
theorem tw_1240 : (Cond.code ⟨"java/lang/Throwable", "<init>", "()V"⟩ prog_26_method_1_code 1 none : Cond) ∈ WS := ws_t (tb_6 (List.mem_of_getElem? (i := 40) rfl)) rfl
set_option maxRecDepth 20000 in
theorem tw_1241 : (Cond.methodLink "java/lang/Throwable" 1 ⟨"java/lang/Object", "<init>", "()V"⟩ : Cond) ∈ WS := ws_t (tb_6 (List.mem_of_getElem? (i := 41) rfl)) rfl
set_option maxRecDepth 20000 in
theorem tw_1242 : (Cond.fieldLink "java/lang/Throwable" 13 "java/lang/Throwable" "UNASSIGNED_STACK" "[Ljava/lang/StackTraceElement;" : Cond) ∈ WS := ws_t (tb_6 (List.mem_of_getElem? (i := 42) rfl)) rfl
set_option maxRecDepth 20000 in
theorem tw_1244 : (Cond.fieldLink "java/lang/Throwable" 20 "java/lang/Throwable" "SUPPRESSED_SENTINEL" "Ljava/util/List;" : Cond) ∈ WS := ws_t (tb_6 (List.mem_of_getElem? (i := 44) rfl)) rfl
set_option maxRecDepth 20000 in
theorem tw_1246 : (Cond.methodLink "java/lang/Throwable" 27 ⟨"java/lang/Throwable", "fillInStackTrace", "()Ljava/lang/Throwable;"⟩ : Cond) ∈ WS := ws_t (tb_6 (List.mem_of_getElem? (i := 46) rfl)) rfl
set_option maxRecDepth 20000 in
theorem tw_1247 : (Cond.instanceMethod ⟨"java/lang/Throwable", "fillInStackTrace", "()Ljava/lang/Throwable;"⟩ : Cond) ∈ WS := ws_t (tb_6 (List.mem_of_getElem? (i := 47) rfl)) rfl
set_option maxRecDepth 20000 in
theorem tw_1250 : (Cond.methodLink "java/lang/Throwable" 202 ⟨"java/lang/Throwable", "fillInStackTrace", "(I)Ljava/lang/Throwable;"⟩ : Cond) ∈ WS := ws_t (tb_6 (List.mem_of_getElem? (i := 50) rfl)) rfl
set_option maxRecDepth 20000 in
theorem tw_1252 : (Cond.instanceMethod ⟨"java/lang/Throwable", "fillInStackTrace", "(I)Ljava/lang/Throwable;"⟩ : Cond) ∈ WS := ws_t (tb_6 (List.mem_of_getElem? (i := 52) rfl)) rfl
set_option maxRecDepth 20000 in
theorem tw_1253 : (Cond.instantiable "java/lang/Throwable" 6 : Cond) ∈ WS := ws_t (tb_6 (List.mem_of_getElem? (i := 53) rfl)) rfl
set_option maxRecDepth 20000 in
theorem tw_1254 : (Cond.native ⟨"java/lang/Throwable", "fillInStackTrace", "(I)Ljava/lang/Throwable;"⟩ : Cond) ∈ WS := ws_t (tb_6 (List.mem_of_getElem? (i := 54) rfl)) rfl
set_option maxRecDepth 20000 in
theorem tw_1256 : (Cond.methodLink "MownMaze" 337 ⟨"java/util/NoSuchElementException", "<init>", "(Ljava/lang/String;)V"⟩ : Cond) ∈ WS := ws_t (tb_6 (List.mem_of_getElem? (i := 56) rfl)) rfl
set_option maxRecDepth 20000 in
theorem tw_1257 : (Cond.instanceMethod ⟨"java/util/NoSuchElementException", "<init>", "(Ljava/lang/String;)V"⟩ : Cond) ∈ WS := ws_t (tb_6 (List.mem_of_getElem? (i := 57) rfl)) rfl
set_option maxRecDepth 20000 in
theorem tw_1258 : (Cond.code ⟨"java/util/NoSuchElementException", "<init>", "(Ljava/lang/String;)V"⟩ prog_29_method_4_code 2 none : Cond) ∈ WS := ws_t (tb_6 (List.mem_of_getElem? (i := 58) rfl)) rfl
set_option maxRecDepth 20000 in
theorem tw_1259 : (Cond.methodLink "java/util/NoSuchElementException" 13 ⟨"java/lang/RuntimeException", "<init>", "(Ljava/lang/String;)V"⟩ : Cond) ∈ WS := ws_t (tb_6 (List.mem_of_getElem? (i := 59) rfl)) rfl
set_option maxRecDepth 20000 in
theorem tw_1260 : (Cond.instanceMethod ⟨"java/lang/RuntimeException", "<init>", "(Ljava/lang/String;)V"⟩ : Cond) ∈ WS := ws_t (tb_6 (List.mem_of_getElem? (i := 60) rfl)) rfl
set_option maxRecDepth 20000 in
theorem tw_1261 : (Cond.code ⟨"java/lang/RuntimeException", "<init>", "(Ljava/lang/String;)V"⟩ prog_21_method_2_code 2 none : Cond) ∈ WS := ws_t (tb_6 (List.mem_of_getElem? (i := 61) rfl)) rfl
set_option maxRecDepth 20000 in
theorem tw_1262 : (Cond.methodLink "java/lang/RuntimeException" 7 ⟨"java/lang/Exception", "<init>", "(Ljava/lang/String;)V"⟩ : Cond) ∈ WS := ws_t (tb_6 (List.mem_of_getElem? (i := 62) rfl)) rfl
set_option maxRecDepth 20000 in
theorem tw_1263 : (Cond.instanceMethod ⟨"java/lang/Exception", "<init>", "(Ljava/lang/String;)V"⟩ : Cond) ∈ WS := ws_t (tb_6 (List.mem_of_getElem? (i := 63) rfl)) rfl
set_option maxRecDepth 20000 in
theorem tw_1264 : (Cond.code ⟨"java/lang/Exception", "<init>", "(Ljava/lang/String;)V"⟩ prog_18_method_2_code 2 none : Cond) ∈ WS := ws_t (tb_6 (List.mem_of_getElem? (i := 64) rfl)) rfl
set_option maxRecDepth 20000 in
theorem tw_1265 : (Cond.methodLink "java/lang/Exception" 7 ⟨"java/lang/Throwable", "<init>", "(Ljava/lang/String;)V"⟩ : Cond) ∈ WS := ws_t (tb_6 (List.mem_of_getElem? (i := 65) rfl)) rfl
set_option maxRecDepth 20000 in
theorem tw_1266 : (Cond.instanceMethod ⟨"java/lang/Throwable", "<init>", "(Ljava/lang/String;)V"⟩ : Cond) ∈ WS := ws_t (tb_6 (List.mem_of_getElem? (i := 66) rfl)) rfl
set_option maxRecDepth 20000 in
theorem tw_1267 : (Cond.code ⟨"java/lang/Throwable", "<init>", "(Ljava/lang/String;)V"⟩ prog_26_method_2_code 2 none : Cond) ∈ WS := ws_t (tb_6 (List.mem_of_getElem? (i := 67) rfl)) rfl
set_option maxRecDepth 20000 in
theorem tw_1269 : (Cond.fieldLink "java/lang/Throwable" 31 "java/lang/Throwable" "detailMessage" "Ljava/lang/String;" : Cond) ∈ WS := ws_t (tb_6 (List.mem_of_getElem? (i := 69) rfl)) rfl
set_option maxRecDepth 20000 in
theorem tw_1270 : (Cond.fieldLink "java/lang/Throwable" 7 "java/lang/Throwable" "cause" "Ljava/lang/Throwable;" : Cond) ∈ WS := ws_t (tb_6 (List.mem_of_getElem? (i := 70) rfl)) rfl
set_option maxRecDepth 20000 in
theorem tw_1271 : (Cond.fieldLink "java/lang/Throwable" 17 "java/lang/Throwable" "stackTrace" "[Ljava/lang/StackTraceElement;" : Cond) ∈ WS := ws_t (tb_6 (List.mem_of_getElem? (i := 71) rfl)) rfl
set_option maxRecDepth 20000 in
theorem tw_1272 : (Cond.fieldLink "java/lang/Throwable" 24 "java/lang/Throwable" "suppressedExceptions" "Ljava/util/List;" : Cond) ∈ WS := ws_t (tb_6 (List.mem_of_getElem? (i := 72) rfl)) rfl
set_option maxRecDepth 20000 in
theorem tw_1277 : (Cond.lays "java/util/NoSuchElementException" "java/lang/Throwable" "depth" "I" : Cond) ∈ WS := ws_t (tb_6 (List.mem_of_getElem? (i := 77) rfl)) rfl
set_option maxRecDepth 20000 in
theorem tw_1280 : (Cond.superclass "java/util/NoSuchElementException" "java/lang/RuntimeException" : Cond) ∈ WS := ws_t (tb_6 (List.mem_of_getElem? (i := 80) rfl)) rfl
set_option maxRecDepth 20000 in
theorem tw_1281 : (Cond.classLink "MownMazeLaw" 16 "MownMazeModel" : Cond) ∈ WS := ws_t (tb_6 (List.mem_of_getElem? (i := 81) rfl)) rfl
set_option maxRecDepth 20000 in
theorem tw_1282 : (Cond.instantiable "MownMazeModel" 43 : Cond) ∈ WS := ws_t (tb_6 (List.mem_of_getElem? (i := 82) rfl)) rfl
set_option maxRecDepth 20000 in
theorem tw_1283 : (Cond.methodLink "MownMazeLaw" 18 ⟨"MownMazeModel", "<init>", "()V"⟩ : Cond) ∈ WS := ws_t (tb_6 (List.mem_of_getElem? (i := 83) rfl)) rfl
set_option maxRecDepth 20000 in
theorem tw_1284 : (Cond.instanceMethod ⟨"MownMazeModel", "<init>", "()V"⟩ : Cond) ∈ WS := ws_t (tb_6 (List.mem_of_getElem? (i := 84) rfl)) rfl
set_option maxRecDepth 20000 in
theorem tw_1285 : (Cond.code ⟨"MownMazeModel", "<init>", "()V"⟩ prog_13_method_1_code 1 none : Cond) ∈ WS := ws_t (tb_6 (List.mem_of_getElem? (i := 85) rfl)) rfl
set_option maxRecDepth 20000 in
theorem tw_1286 : (Cond.methodLink "MownMazeModel" 3 ⟨"java/lang/Object", "<init>", "()V"⟩ : Cond) ∈ WS := ws_t (tb_6 (List.mem_of_getElem? (i := 86) rfl)) rfl
set_option maxRecDepth 20000 in
theorem tw_1287 : (Cond.constant "MownMazeModel" 42 49152 : Cond) ∈ WS := ws_t (tb_6 (List.mem_of_getElem? (i := 87) rfl)) rfl
set_option maxRecDepth 20000 in
theorem tw_1288 : (Cond.fieldLink "MownMazeModel" 62 "MownMazeModel" "thrown" "I" : Cond) ∈ WS := ws_t (tb_6 (List.mem_of_getElem? (i := 88) rfl)) rfl
set_option maxRecDepth 20000 in
theorem tw_1289 : (Cond.fieldLink "MownMazeModel" 65 "MownMazeModel" "trouble" "I" : Cond) ∈ WS := ws_t (tb_6 (List.mem_of_getElem? (i := 89) rfl)) rfl
set_option maxRecDepth 20000 in
theorem tw_1290 : (Cond.fieldLink "MownMazeModel" 9 "MownMazeModel" "where" "I" : Cond) ∈ WS := ws_t (tb_6 (List.mem_of_getElem? (i := 90) rfl)) rfl
set_option maxRecDepth 20000 in
theorem tw_1291 : (Cond.fieldLink "MownMazeModel" 355 "MownMazeModel" "meadow" "LMownMazeModel$Meadow;" : Cond) ∈ WS := ws_t (tb_6 (List.mem_of_getElem? (i := 91) rfl)) rfl
set_option maxRecDepth 20000 in
theorem tw_1292 : (Cond.fieldLink "MownMazeModel" 162 "MownMazeModel" "read" "LMownMazeModel$Meadow;" : Cond) ∈ WS := ws_t (tb_6 (List.mem_of_getElem? (i := 92) rfl)) rfl
set_option maxRecDepth 20000 in
theorem tw_1293 : (Cond.fieldLink "MownMazeModel" 13 "MownMazeModel" "tape" "[B" : Cond) ∈ WS := ws_t (tb_6 (List.mem_of_getElem? (i := 93) rfl)) rfl
set_option maxRecDepth 20000 in
theorem tw_1294 : (Cond.fieldLink "MownMazeModel" 348 "MownMazeModel" "taped" "I" : Cond) ∈ WS := ws_t (tb_6 (List.mem_of_getElem? (i := 94) rfl)) rfl
set_option maxRecDepth 20000 in
theorem tw_1295 : (Cond.fieldLink "MownMazeModel" 79 "MownMazeModel" "size" "I" : Cond) ∈ WS := ws_t (tb_6 (List.mem_of_getElem? (i := 95) rfl)) rfl
set_option maxRecDepth 20000 in
theorem tw_1296 : (Cond.fieldLink "MownMazeModel" 97 "MownMazeModel" "spot" "I" : Cond) ∈ WS := ws_t (tb_6 (List.mem_of_getElem? (i := 96) rfl)) rfl
set_option maxRecDepth 20000 in
theorem tw_1297 : (Cond.fieldLink "MownMazeModel" 94 "MownMazeModel" "sort" "I" : Cond) ∈ WS := ws_t (tb_6 (List.mem_of_getElem? (i := 97) rfl)) rfl
set_option maxRecDepth 20000 in
theorem tw_1298 : (Cond.fieldLink "MownMazeModel" 103 "MownMazeModel" "place" "I" : Cond) ∈ WS := ws_t (tb_6 (List.mem_of_getElem? (i := 98) rfl)) rfl
set_option maxRecDepth 20000 in
theorem tw_1299 : (Cond.fieldLink "MownMazeModel" 106 "MownMazeModel" "sign" "I" : Cond) ∈ WS := ws_t (tb_6 (List.mem_of_getElem? (i := 99) rfl)) rfl
set_option maxRecDepth 20000 in
theorem tw_1300 : (Cond.fieldLink "MownMazeModel" 123 "MownMazeModel" "number" "I" : Cond) ∈ WS := ws_t (tb_6 (List.mem_of_getElem? (i := 100) rfl)) rfl
set_option maxRecDepth 20000 in
theorem tw_1301 : (Cond.fieldLink "MownMazeModel" 117 "MownMazeModel" "letters" "I" : Cond) ∈ WS := ws_t (tb_6 (List.mem_of_getElem? (i := 101) rfl)) rfl
set_option maxRecDepth 20000 in
theorem tw_1302 : (Cond.fieldLink "MownMazeModel" 126 "MownMazeModel" "fault" "I" : Cond) ∈ WS := ws_t (tb_6 (List.mem_of_getElem? (i := 102) rfl)) rfl
set_option maxRecDepth 20000 in
theorem tw_1303 : (Cond.fieldLink "MownMazeModel" 129 "MownMazeModel" "wrongAt" "I" : Cond) ∈ WS := ws_t (tb_6 (List.mem_of_getElem? (i := 103) rfl)) rfl
set_option maxRecDepth 20000 in
theorem tw_1304 : (Cond.fieldLink "MownMazeModel" 17 "MownMazeModel" "spelt" "[I" : Cond) ∈ WS := ws_t (tb_6 (List.mem_of_getElem? (i := 104) rfl)) rfl
set_option maxRecDepth 20000 in
theorem tw_1305 : (Cond.fieldLink "MownMazeModel" 113 "MownMazeModel" "word" "J" : Cond) ∈ WS := ws_t (tb_6 (List.mem_of_getElem? (i := 105) rfl)) rfl
set_option maxRecDepth 20000 in
theorem tw_1306 : (Cond.fieldLink "MownMazeModel" 243 "MownMazeModel" "rowMown" "J" : Cond) ∈ WS := ws_t (tb_6 (List.mem_of_getElem? (i := 106) rfl)) rfl
set_option maxRecDepth 20000 in
theorem tw_1307 : (Cond.fieldLink "MownMazeModel" 246 "MownMazeModel" "rowStand" "J" : Cond) ∈ WS := ws_t (tb_6 (List.mem_of_getElem? (i := 107) rfl)) rfl
set_option maxRecDepth 20000 in
theorem tw_1308 : (Cond.fieldLink "MownMazeModel" 357 "MownMazeModel" "mown" "J" : Cond) ∈ WS := ws_t (tb_6 (List.mem_of_getElem? (i := 108) rfl)) rfl
set_option maxRecDepth 20000 in
theorem tw_1309 : (Cond.fieldLink "MownMazeModel" 358 "MownMazeModel" "seed" "I" : Cond) ∈ WS := ws_t (tb_6 (List.mem_of_getElem? (i := 109) rfl)) rfl
set_option maxRecDepth 20000 in
theorem tw_1310 : (Cond.fieldLink "MownMazeModel" 21 "MownMazeModel" "far" "[I" : Cond) ∈ WS := ws_t (tb_6 (List.mem_of_getElem? (i := 110) rfl)) rfl
set_option maxRecDepth 20000 in
theorem tw_1311 : (Cond.fieldLink "MownMazeModel" 24 "MownMazeModel" "queue" "[I" : Cond) ∈ WS := ws_t (tb_6 (List.mem_of_getElem? (i := 111) rfl)) rfl
set_option maxRecDepth 20000 in
theorem tw_1312 : (Cond.fieldLink "MownMazeModel" 412 "MownMazeModel" "cell" "I" : Cond) ∈ WS := ws_t (tb_6 (List.mem_of_getElem? (i := 112) rfl)) rfl
set_option maxRecDepth 20000 in
theorem tw_1313 : (Cond.fieldLink "MownMazeModel" 415 "MownMazeModel" "facing" "I" : Cond) ∈ WS := ws_t (tb_6 (List.mem_of_getElem? (i := 113) rfl)) rfl
set_option maxRecDepth 20000 in
theorem tw_1314 : (Cond.fieldLink "MownMazeModel" 419 "MownMazeModel" "own" "I" : Cond) ∈ WS := ws_t (tb_6 (List.mem_of_getElem? (i := 114) rfl)) rfl
set_option maxRecDepth 20000 in
theorem tw_1315 : (Cond.fieldLink "MownMazeModel" 27 "MownMazeModel" "cameFrom" "[I" : Cond) ∈ WS := ws_t (tb_6 (List.mem_of_getElem? (i := 115) rfl)) rfl
set_option maxRecDepth 20000 in
theorem tw_1316 : (Cond.fieldLink "MownMazeModel" 30 "MownMazeModel" "toNoise" "[I" : Cond) ∈ WS := ws_t (tb_6 (List.mem_of_getElem? (i := 116) rfl)) rfl
set_option maxRecDepth 20000 in
theorem tw_1317 : (Cond.fieldLink "MownMazeModel" 33 "MownMazeModel" "row" "[I" : Cond) ∈ WS := ws_t (tb_6 (List.mem_of_getElem? (i := 117) rfl)) rfl
set_option maxRecDepth 20000 in
theorem tw_1318 : (Cond.fieldLink "MownMazeModel" 36 "MownMazeModel" "otherRow" "[I" : Cond) ∈ WS := ws_t (tb_6 (List.mem_of_getElem? (i := 118) rfl)) rfl
set_option maxRecDepth 20000 in
theorem tw_1319 : (Cond.fieldLink "MownMazeModel" 440 "MownMazeModel" "outAt" "I" : Cond) ∈ WS := ws_t (tb_6 (List.mem_of_getElem? (i := 119) rfl)) rfl
set_option maxRecDepth 20000 in
theorem tw_1320 : (Cond.fieldLink "MownMazeModel" 39 "MownMazeModel" "been" "[I" : Cond) ∈ WS := ws_t (tb_6 (List.mem_of_getElem? (i := 120) rfl)) rfl
set_option maxRecDepth 20000 in
theorem tw_1321 : (Cond.fieldLink "MownMazeModel" 464 "MownMazeModel" "stuck" "I" : Cond) ∈ WS := ws_t (tb_6 (List.mem_of_getElem? (i := 121) rfl)) rfl
set_option maxRecDepth 20000 in
theorem tw_1322 : (Cond.fieldLink "MownMazeModel" 43 "MownMazeModel" "least" "[I" : Cond) ∈ WS := ws_t (tb_6 (List.mem_of_getElem? (i := 122) rfl)) rfl
set_option maxRecDepth 20000 in
theorem tw_1323 : (Cond.fieldLink "MownMazeModel" 46 "MownMazeModel" "cellsToMow" "[I" : Cond) ∈ WS := ws_t (tb_6 (List.mem_of_getElem? (i := 123) rfl)) rfl
set_option maxRecDepth 20000 in
theorem tw_1324 : (Cond.fieldLink "MownMazeModel" 511 "MownMazeModel" "bestPays" "I" : Cond) ∈ WS := ws_t (tb_6 (List.mem_of_getElem? (i := 124) rfl)) rfl
set_option maxRecDepth 20000 in
theorem tw_1325 : (Cond.fieldLink "MownMazeModel" 49 "MownMazeModel" "pastMown" "[J" : Cond) ∈ WS := ws_t (tb_6 (List.mem_of_getElem? (i := 125) rfl)) rfl
set_option maxRecDepth 20000 in
theorem tw_1326 : (Cond.fieldLink "MownMazeModel" 53 "MownMazeModel" "keptMown" "[J" : Cond) ∈ WS := ws_t (tb_6 (List.mem_of_getElem? (i := 126) rfl)) rfl
set_option maxRecDepth 20000 in
theorem tw_1327 : (Cond.fieldLink "MownMazeModel" 56 "MownMazeModel" "pastSeed" "[I" : Cond) ∈ WS := ws_t (tb_6 (List.mem_of_getElem? (i := 127) rfl)) rfl
set_option maxRecDepth 20000 in
theorem tw_1328 : (Cond.fieldLink "MownMazeModel" 59 "MownMazeModel" "keptSeed" "[I" : Cond) ∈ WS := ws_t (tb_6 (List.mem_of_getElem? (i := 128) rfl)) rfl
set_option maxRecDepth 20000 in
theorem tw_1329 : (Cond.fieldLink "MownMazeModel" 361 "MownMazeModel" "acts" "I" : Cond) ∈ WS := ws_t (tb_6 (List.mem_of_getElem? (i := 129) rfl)) rfl
set_option maxRecDepth 20000 in
theorem tw_1330 : (Cond.fieldLink "MownMazeModel" 364 "MownMazeModel" "marks" "I" : Cond) ∈ WS := ws_t (tb_6 (List.mem_of_getElem? (i := 130) rfl)) rfl
set_option maxRecDepth 20000 in
theorem tw_1331 : (Cond.lays "MownMazeModel" "MownMazeModel" "thrown" "I" : Cond) ∈ WS := ws_t (tb_6 (List.mem_of_getElem? (i := 131) rfl)) rfl
set_option maxRecDepth 20000 in
theorem tw_1333 : (Cond.lays "MownMazeModel" "MownMazeModel" "trouble" "I" : Cond) ∈ WS := ws_t (tb_6 (List.mem_of_getElem? (i := 133) rfl)) rfl
set_option maxRecDepth 20000 in
theorem tw_1335 : (Cond.lays "MownMazeModel" "MownMazeModel" "where" "I" : Cond) ∈ WS := ws_t (tb_6 (List.mem_of_getElem? (i := 135) rfl)) rfl
set_option maxRecDepth 20000 in
theorem tw_1337 : (Cond.lays "MownMazeModel" "MownMazeModel" "meadow" "LMownMazeModel$Meadow;" : Cond) ∈ WS := ws_t (tb_6 (List.mem_of_getElem? (i := 137) rfl)) rfl
set_option maxRecDepth 20000 in
theorem tw_1339 : (Cond.lays "MownMazeModel" "MownMazeModel" "read" "LMownMazeModel$Meadow;" : Cond) ∈ WS := ws_t (tb_6 (List.mem_of_getElem? (i := 139) rfl)) rfl
set_option maxRecDepth 20000 in
theorem tw_1341 : (Cond.laysFinal "MownMazeModel" "MownMazeModel" "tape" "[B" : Cond) ∈ WS := ws_t (tb_6 (List.mem_of_getElem? (i := 141) rfl)) rfl
set_option maxRecDepth 20000 in
theorem tw_1343 : (Cond.lays "MownMazeModel" "MownMazeModel" "taped" "I" : Cond) ∈ WS := ws_t (tb_6 (List.mem_of_getElem? (i := 143) rfl)) rfl
set_option maxRecDepth 20000 in
theorem tw_1345 : (Cond.lays "MownMazeModel" "MownMazeModel" "size" "I" : Cond) ∈ WS := ws_t (tb_6 (List.mem_of_getElem? (i := 145) rfl)) rfl
set_option maxRecDepth 20000 in
theorem tw_1347 : (Cond.lays "MownMazeModel" "MownMazeModel" "spot" "I" : Cond) ∈ WS := ws_t (tb_6 (List.mem_of_getElem? (i := 147) rfl)) rfl
set_option maxRecDepth 20000 in
theorem tw_1349 : (Cond.lays "MownMazeModel" "MownMazeModel" "sort" "I" : Cond) ∈ WS := ws_t (tb_6 (List.mem_of_getElem? (i := 149) rfl)) rfl
set_option maxRecDepth 20000 in
theorem tw_1351 : (Cond.lays "MownMazeModel" "MownMazeModel" "place" "I" : Cond) ∈ WS := ws_t (tb_6 (List.mem_of_getElem? (i := 151) rfl)) rfl
set_option maxRecDepth 20000 in
theorem tw_1353 : (Cond.lays "MownMazeModel" "MownMazeModel" "sign" "I" : Cond) ∈ WS := ws_t (tb_6 (List.mem_of_getElem? (i := 153) rfl)) rfl
set_option maxRecDepth 20000 in
theorem tw_1355 : (Cond.lays "MownMazeModel" "MownMazeModel" "number" "I" : Cond) ∈ WS := ws_t (tb_6 (List.mem_of_getElem? (i := 155) rfl)) rfl
set_option maxRecDepth 20000 in
theorem tw_1357 : (Cond.lays "MownMazeModel" "MownMazeModel" "letters" "I" : Cond) ∈ WS := ws_t (tb_6 (List.mem_of_getElem? (i := 157) rfl)) rfl
set_option maxRecDepth 20000 in
theorem tw_1359 : (Cond.lays "MownMazeModel" "MownMazeModel" "fault" "I" : Cond) ∈ WS := ws_t (tb_6 (List.mem_of_getElem? (i := 159) rfl)) rfl
set_option maxRecDepth 20000 in
theorem tw_1361 : (Cond.lays "MownMazeModel" "MownMazeModel" "wrongAt" "I" : Cond) ∈ WS := ws_t (tb_6 (List.mem_of_getElem? (i := 161) rfl)) rfl
set_option maxRecDepth 20000 in
theorem tw_1363 : (Cond.laysFinal "MownMazeModel" "MownMazeModel" "spelt" "[I" : Cond) ∈ WS := ws_t (tb_6 (List.mem_of_getElem? (i := 163) rfl)) rfl
set_option maxRecDepth 20000 in
theorem tw_1365 : (Cond.lays "MownMazeModel" "MownMazeModel" "word" "J" : Cond) ∈ WS := ws_t (tb_6 (List.mem_of_getElem? (i := 165) rfl)) rfl
set_option maxRecDepth 20000 in
theorem tw_1367 : (Cond.lays "MownMazeModel" "MownMazeModel" "rowMown" "J" : Cond) ∈ WS := ws_t (tb_6 (List.mem_of_getElem? (i := 167) rfl)) rfl
set_option maxRecDepth 20000 in
theorem tw_1369 : (Cond.lays "MownMazeModel" "MownMazeModel" "rowStand" "J" : Cond) ∈ WS := ws_t (tb_6 (List.mem_of_getElem? (i := 169) rfl)) rfl
set_option maxRecDepth 20000 in
theorem tw_1371 : (Cond.lays "MownMazeModel" "MownMazeModel" "mown" "J" : Cond) ∈ WS := ws_t (tb_6 (List.mem_of_getElem? (i := 171) rfl)) rfl
set_option maxRecDepth 20000 in
theorem tw_1373 : (Cond.lays "MownMazeModel" "MownMazeModel" "seed" "I" : Cond) ∈ WS := ws_t (tb_6 (List.mem_of_getElem? (i := 173) rfl)) rfl
set_option maxRecDepth 20000 in
theorem tw_1375 : (Cond.laysFinal "MownMazeModel" "MownMazeModel" "far" "[I" : Cond) ∈ WS := ws_t (tb_6 (List.mem_of_getElem? (i := 175) rfl)) rfl
set_option maxRecDepth 20000 in
theorem tw_1377 : (Cond.laysFinal "MownMazeModel" "MownMazeModel" "queue" "[I" : Cond) ∈ WS := ws_t (tb_6 (List.mem_of_getElem? (i := 177) rfl)) rfl
set_option maxRecDepth 20000 in
theorem tw_1379 : (Cond.lays "MownMazeModel" "MownMazeModel" "cell" "I" : Cond) ∈ WS := ws_t (tb_6 (List.mem_of_getElem? (i := 179) rfl)) rfl
set_option maxRecDepth 20000 in
theorem tw_1381 : (Cond.lays "MownMazeModel" "MownMazeModel" "facing" "I" : Cond) ∈ WS := ws_t (tb_6 (List.mem_of_getElem? (i := 181) rfl)) rfl
set_option maxRecDepth 20000 in
theorem tw_1383 : (Cond.lays "MownMazeModel" "MownMazeModel" "own" "I" : Cond) ∈ WS := ws_t (tb_6 (List.mem_of_getElem? (i := 183) rfl)) rfl
set_option maxRecDepth 20000 in
theorem tw_1385 : (Cond.laysFinal "MownMazeModel" "MownMazeModel" "cameFrom" "[I" : Cond) ∈ WS := ws_t (tb_6 (List.mem_of_getElem? (i := 185) rfl)) rfl
set_option maxRecDepth 20000 in
theorem tw_1387 : (Cond.laysFinal "MownMazeModel" "MownMazeModel" "toNoise" "[I" : Cond) ∈ WS := ws_t (tb_6 (List.mem_of_getElem? (i := 187) rfl)) rfl
set_option maxRecDepth 20000 in
theorem tw_1389 : (Cond.laysFinal "MownMazeModel" "MownMazeModel" "row" "[I" : Cond) ∈ WS := ws_t (tb_6 (List.mem_of_getElem? (i := 189) rfl)) rfl
set_option maxRecDepth 20000 in
theorem tw_1391 : (Cond.laysFinal "MownMazeModel" "MownMazeModel" "otherRow" "[I" : Cond) ∈ WS := ws_t (tb_6 (List.mem_of_getElem? (i := 191) rfl)) rfl
set_option maxRecDepth 20000 in
theorem tw_1393 : (Cond.lays "MownMazeModel" "MownMazeModel" "outAt" "I" : Cond) ∈ WS := ws_t (tb_6 (List.mem_of_getElem? (i := 193) rfl)) rfl
set_option maxRecDepth 20000 in
theorem tw_1395 : (Cond.laysFinal "MownMazeModel" "MownMazeModel" "been" "[I" : Cond) ∈ WS := ws_t (tb_6 (List.mem_of_getElem? (i := 195) rfl)) rfl
set_option maxRecDepth 20000 in
theorem tw_1397 : (Cond.lays "MownMazeModel" "MownMazeModel" "stuck" "I" : Cond) ∈ WS := ws_t (tb_6 (List.mem_of_getElem? (i := 197) rfl)) rfl
set_option maxRecDepth 20000 in
theorem tw_1399 : (Cond.laysFinal "MownMazeModel" "MownMazeModel" "least" "[I" : Cond) ∈ WS := ws_t (tb_6 (List.mem_of_getElem? (i := 199) rfl)) rfl
set_option maxRecDepth 20000 in
theorem tw_1401 : (Cond.laysFinal "MownMazeModel" "MownMazeModel" "cellsToMow" "[I" : Cond) ∈ WS := ws_t (tb_6 (List.mem_of_getElem? (i := 201) rfl)) rfl
set_option maxRecDepth 20000 in
theorem tw_1403 : (Cond.lays "MownMazeModel" "MownMazeModel" "bestPays" "I" : Cond) ∈ WS := ws_t (tb_6 (List.mem_of_getElem? (i := 203) rfl)) rfl
set_option maxRecDepth 20000 in
theorem tw_1405 : (Cond.laysFinal "MownMazeModel" "MownMazeModel" "pastMown" "[J" : Cond) ∈ WS := ws_t (tb_6 (List.mem_of_getElem? (i := 205) rfl)) rfl
set_option maxRecDepth 20000 in
theorem tw_1407 : (Cond.laysFinal "MownMazeModel" "MownMazeModel" "keptMown" "[J" : Cond) ∈ WS := ws_t (tb_6 (List.mem_of_getElem? (i := 207) rfl)) rfl
set_option maxRecDepth 20000 in
theorem tw_1409 : (Cond.laysFinal "MownMazeModel" "MownMazeModel" "pastSeed" "[I" : Cond) ∈ WS := ws_t (tb_6 (List.mem_of_getElem? (i := 209) rfl)) rfl
set_option maxRecDepth 20000 in
theorem tw_1411 : (Cond.laysFinal "MownMazeModel" "MownMazeModel" "keptSeed" "[I" : Cond) ∈ WS := ws_t (tb_6 (List.mem_of_getElem? (i := 211) rfl)) rfl
set_option maxRecDepth 20000 in
theorem tw_1413 : (Cond.lays "MownMazeModel" "MownMazeModel" "acts" "I" : Cond) ∈ WS := ws_t (tb_6 (List.mem_of_getElem? (i := 213) rfl)) rfl
set_option maxRecDepth 20000 in
theorem tw_1415 : (Cond.lays "MownMazeModel" "MownMazeModel" "marks" "I" : Cond) ∈ WS := ws_t (tb_6 (List.mem_of_getElem? (i := 215) rfl)) rfl
set_option maxRecDepth 20000 in
theorem tw_1417 : (Cond.superclass "MownMazeModel" "java/lang/Object" : Cond) ∈ WS := ws_t (tb_6 (List.mem_of_getElem? (i := 217) rfl)) rfl
set_option maxRecDepth 20000 in
theorem tw_1418 : (Cond.methodLink "MownMazeLaw" 213 ⟨"MownMazeModel", "thrown", "()I"⟩ : Cond) ∈ WS := ws_t (tb_6 (List.mem_of_getElem? (i := 218) rfl)) rfl
set_option maxRecDepth 20000 in
theorem tw_1419 : (Cond.instanceMethod ⟨"MownMazeModel", "thrown", "()I"⟩ : Cond) ∈ WS := ws_t (tb_6 (List.mem_of_getElem? (i := 219) rfl)) rfl
set_option maxRecDepth 20000 in
theorem tw_1420 : (Cond.selects "MownMazeModel" ⟨"MownMazeModel", "thrown", "()I"⟩ ⟨"MownMazeModel", "thrown", "()I"⟩ : Cond) ∈ WS := ws_t (tb_6 (List.mem_of_getElem? (i := 220) rfl)) rfl
set_option maxRecDepth 20000 in
theorem tw_1421 : (Cond.code ⟨"MownMazeModel", "thrown", "()I"⟩ prog_13_method_2_code 1 (Option.some FieldType.int) : Cond) ∈ WS := ws_t (tb_6 (List.mem_of_getElem? (i := 221) rfl)) rfl
set_option maxRecDepth 20000 in
theorem tw_1422 : (Cond.methodLink "MownMazeLaw" 23 ⟨"MownMazeModel", "feed", "(IIIII)I"⟩ : Cond) ∈ WS := ws_t (tb_6 (List.mem_of_getElem? (i := 222) rfl)) rfl
set_option maxRecDepth 20000 in
theorem tw_1423 : (Cond.instanceMethod ⟨"MownMazeModel", "feed", "(IIIII)I"⟩ : Cond) ∈ WS := ws_t (tb_6 (List.mem_of_getElem? (i := 223) rfl)) rfl
set_option maxRecDepth 20000 in
theorem tw_1424 : (Cond.selects "MownMazeModel" ⟨"MownMazeModel", "feed", "(IIIII)I"⟩ ⟨"MownMazeModel", "feed", "(IIIII)I"⟩ : Cond) ∈ WS := ws_t (tb_6 (List.mem_of_getElem? (i := 224) rfl)) rfl
set_option maxRecDepth 20000 in
theorem tw_1425 : (Cond.code ⟨"MownMazeModel", "feed", "(IIIII)I"⟩ prog_13_method_39_code 8 (Option.some FieldType.int) : Cond) ∈ WS := ws_t (tb_6 (List.mem_of_getElem? (i := 225) rfl)) rfl
set_option maxRecDepth 20000 in
theorem tw_1426 : (Cond.methodLink "MownMazeLaw" 27 ⟨"MownMazeModel", "meadow", "(I)I"⟩ : Cond) ∈ WS := ws_t (tb_6 (List.mem_of_getElem? (i := 226) rfl)) rfl
set_option maxRecDepth 20000 in
theorem tw_1427 : (Cond.instanceMethod ⟨"MownMazeModel", "meadow", "(I)I"⟩ : Cond) ∈ WS := ws_t (tb_6 (List.mem_of_getElem? (i := 227) rfl)) rfl
set_option maxRecDepth 20000 in
theorem tw_1428 : (Cond.selects "MownMazeModel" ⟨"MownMazeModel", "meadow", "(I)I"⟩ ⟨"MownMazeModel", "meadow", "(I)I"⟩ : Cond) ∈ WS := ws_t (tb_6 (List.mem_of_getElem? (i := 228) rfl)) rfl
set_option maxRecDepth 20000 in
theorem tw_1429 : (Cond.code ⟨"MownMazeModel", "meadow", "(I)I"⟩ prog_13_method_40_code 2 (Option.some FieldType.int) : Cond) ∈ WS := ws_t (tb_6 (List.mem_of_getElem? (i := 229) rfl)) rfl
set_option maxRecDepth 20000 in
theorem tw_1430 : (Cond.methodLink "MownMazeModel" 68 ⟨"MownMazeModel", "refused", "(I)I"⟩ : Cond) ∈ WS := ws_t (tb_6 (List.mem_of_getElem? (i := 230) rfl)) rfl
set_option maxRecDepth 20000 in
theorem tw_1432 : (Cond.instanceMethod ⟨"MownMazeModel", "refused", "(I)I"⟩ : Cond) ∈ WS := ws_t (tb_6 (List.mem_of_getElem? (i := 232) rfl)) rfl
set_option maxRecDepth 20000 in
theorem tw_1433 : (Cond.code ⟨"MownMazeModel", "refused", "(I)I"⟩ prog_13_method_3_code 2 (Option.some FieldType.int) : Cond) ∈ WS := ws_t (tb_6 (List.mem_of_getElem? (i := 233) rfl)) rfl
set_option maxRecDepth 20000 in
theorem tw_1434 : (Cond.classLink "MownMazeModel" 167 "MownMazeModel$Meadow" : Cond) ∈ WS := ws_t (tb_6 (List.mem_of_getElem? (i := 234) rfl)) rfl
set_option maxRecDepth 20000 in
theorem tw_1435 : (Cond.instantiable "MownMazeModel$Meadow" 26 : Cond) ∈ WS := ws_t (tb_6 (List.mem_of_getElem? (i := 235) rfl)) rfl
set_option maxRecDepth 20000 in
theorem tw_1437 : (Cond.instanceMethod ⟨"MownMazeModel$Meadow", "<init>", "()V"⟩ : Cond) ∈ WS := ws_t (tb_6 (List.mem_of_getElem? (i := 237) rfl)) rfl
set_option maxRecDepth 20000 in
theorem tw_1438 : (Cond.code ⟨"MownMazeModel$Meadow", "<init>", "()V"⟩ prog_14_method_1_code 1 none : Cond) ∈ WS := ws_t (tb_6 (List.mem_of_getElem? (i := 238) rfl)) rfl
set_option maxRecDepth 20000 in
theorem tw_1439 : (Cond.methodLink "MownMazeModel$Meadow" 3 ⟨"java/lang/Object", "<init>", "()V"⟩ : Cond) ∈ WS := ws_t (tb_6 (List.mem_of_getElem? (i := 239) rfl)) rfl
set_option maxRecDepth 20000 in
theorem tw_1440 : (Cond.fieldLink "MownMazeModel$Meadow" 41 "MownMazeModel$Meadow" "wide" "I" : Cond) ∈ WS := ws_t (tb_7 (List.mem_of_getElem? (i := 0) rfl)) rfl
set_option maxRecDepth 20000 in
theorem tw_1442 : (Cond.fieldLink "MownMazeModel$Meadow" 44 "MownMazeModel$Meadow" "high" "I" : Cond) ∈ WS := ws_t (tb_7 (List.mem_of_getElem? (i := 2) rfl)) rfl
set_option maxRecDepth 20000 in
theorem tw_1452 : (Cond.fieldLink "MownMazeModel$Meadow" 51 "MownMazeModel$Meadow" "walkers" "I" : Cond) ∈ WS := ws_t (tb_7 (List.mem_of_getElem? (i := 12) rfl)) rfl
set_option maxRecDepth 20000 in
theorem tw_1454 : (Cond.fieldLink "MownMazeModel$Meadow" 9 "MownMazeModel$Meadow" "noise" "I" : Cond) ∈ WS := ws_t (tb_7 (List.mem_of_getElem? (i := 14) rfl)) rfl
set_option maxRecDepth 20000 in
theorem tw_1462 : (Cond.fieldLink "MownMazeModel$Meadow" 15 "MownMazeModel$Meadow" "gate" "[I" : Cond) ∈ WS := ws_t (tb_7 (List.mem_of_getElem? (i := 22) rfl)) rfl
set_option maxRecDepth 20000 in
theorem tw_1464 : (Cond.fieldLink "MownMazeModel$Meadow" 19 "MownMazeModel$Meadow" "heard" "[I" : Cond) ∈ WS := ws_t (tb_7 (List.mem_of_getElem? (i := 24) rfl)) rfl
set_option maxRecDepth 20000 in
theorem tw_1466 : (Cond.fieldLink "MownMazeModel$Meadow" 22 "MownMazeModel$Meadow" "heardFrom" "[I" : Cond) ∈ WS := ws_t (tb_7 (List.mem_of_getElem? (i := 26) rfl)) rfl
set_option maxRecDepth 20000 in
theorem tw_1468 : (Cond.fieldLink "MownMazeModel$Meadow" 25 "MownMazeModel$Meadow" "kind" "[I" : Cond) ∈ WS := ws_t (tb_7 (List.mem_of_getElem? (i := 28) rfl)) rfl
set_option maxRecDepth 20000 in
theorem tw_1470 : (Cond.fieldLink "MownMazeModel$Meadow" 28 "MownMazeModel$Meadow" "start" "[I" : Cond) ∈ WS := ws_t (tb_7 (List.mem_of_getElem? (i := 30) rfl)) rfl
set_option maxRecDepth 20000 in
theorem tw_1472 : (Cond.fieldLink "MownMazeModel$Meadow" 31 "MownMazeModel$Meadow" "faces" "[I" : Cond) ∈ WS := ws_t (tb_7 (List.mem_of_getElem? (i := 32) rfl)) rfl
set_option maxRecDepth 20000 in
theorem tw_1474 : (Cond.fieldLink "MownMazeModel$Meadow" 34 "MownMazeModel$Meadow" "leaves" "[I" : Cond) ∈ WS := ws_t (tb_7 (List.mem_of_getElem? (i := 34) rfl)) rfl
set_option maxRecDepth 20000 in
theorem tw_1476 : (Cond.fieldLink "MownMazeModel$Meadow" 37 "MownMazeModel$Meadow" "name" "[J" : Cond) ∈ WS := ws_t (tb_7 (List.mem_of_getElem? (i := 36) rfl)) rfl
set_option maxRecDepth 20000 in
theorem tw_1478 : (Cond.lays "MownMazeModel$Meadow" "MownMazeModel$Meadow" "wide" "I" : Cond) ∈ WS := ws_t (tb_7 (List.mem_of_getElem? (i := 38) rfl)) rfl
set_option maxRecDepth 20000 in
theorem tw_1480 : (Cond.lays "MownMazeModel$Meadow" "MownMazeModel$Meadow" "high" "I" : Cond) ∈ WS := ws_t (tb_7 (List.mem_of_getElem? (i := 40) rfl)) rfl
set_option maxRecDepth 20000 in
theorem tw_1482 : (Cond.lays "MownMazeModel$Meadow" "MownMazeModel$Meadow" "dusk" "I" : Cond) ∈ WS := ws_t (tb_7 (List.mem_of_getElem? (i := 42) rfl)) rfl
set_option maxRecDepth 20000 in
theorem tw_1484 : (Cond.lays "MownMazeModel$Meadow" "MownMazeModel$Meadow" "pays" "I" : Cond) ∈ WS := ws_t (tb_7 (List.mem_of_getElem? (i := 44) rfl)) rfl
set_option maxRecDepth 20000 in
theorem tw_1486 : (Cond.lays "MownMazeModel$Meadow" "MownMazeModel$Meadow" "shuts" "I" : Cond) ∈ WS := ws_t (tb_7 (List.mem_of_getElem? (i := 46) rfl)) rfl
set_option maxRecDepth 20000 in
theorem tw_1488 : (Cond.lays "MownMazeModel$Meadow" "MownMazeModel$Meadow" "rows" "I" : Cond) ∈ WS := ws_t (tb_7 (List.mem_of_getElem? (i := 48) rfl)) rfl
set_option maxRecDepth 20000 in
theorem tw_1490 : (Cond.lays "MownMazeModel$Meadow" "MownMazeModel$Meadow" "wants" "I" : Cond) ∈ WS := ws_t (tb_7 (List.mem_of_getElem? (i := 50) rfl)) rfl
set_option maxRecDepth 20000 in
theorem tw_1492 : (Cond.lays "MownMazeModel$Meadow" "MownMazeModel$Meadow" "moons" "I" : Cond) ∈ WS := ws_t (tb_7 (List.mem_of_getElem? (i := 52) rfl)) rfl
set_option maxRecDepth 20000 in
theorem tw_1494 : (Cond.lays "MownMazeModel$Meadow" "MownMazeModel$Meadow" "gates" "I" : Cond) ∈ WS := ws_t (tb_7 (List.mem_of_getElem? (i := 54) rfl)) rfl
set_option maxRecDepth 20000 in
theorem tw_1496 : (Cond.lays "MownMazeModel$Meadow" "MownMazeModel$Meadow" "heards" "I" : Cond) ∈ WS := ws_t (tb_7 (List.mem_of_getElem? (i := 56) rfl)) rfl
set_option maxRecDepth 20000 in
theorem tw_1498 : (Cond.lays "MownMazeModel$Meadow" "MownMazeModel$Meadow" "walkers" "I" : Cond) ∈ WS := ws_t (tb_7 (List.mem_of_getElem? (i := 58) rfl)) rfl
set_option maxRecDepth 20000 in
theorem tw_1500 : (Cond.lays "MownMazeModel$Meadow" "MownMazeModel$Meadow" "noise" "I" : Cond) ∈ WS := ws_t (tb_7 (List.mem_of_getElem? (i := 60) rfl)) rfl
set_option maxRecDepth 20000 in
theorem tw_1502 : (Cond.lays "MownMazeModel$Meadow" "MownMazeModel$Meadow" "mown" "J" : Cond) ∈ WS := ws_t (tb_7 (List.mem_of_getElem? (i := 62) rfl)) rfl
set_option maxRecDepth 20000 in
theorem tw_1504 : (Cond.lays "MownMazeModel$Meadow" "MownMazeModel$Meadow" "wantMown" "J" : Cond) ∈ WS := ws_t (tb_7 (List.mem_of_getElem? (i := 64) rfl)) rfl
set_option maxRecDepth 20000 in
theorem tw_1506 : (Cond.lays "MownMazeModel$Meadow" "MownMazeModel$Meadow" "wantStand" "J" : Cond) ∈ WS := ws_t (tb_7 (List.mem_of_getElem? (i := 66) rfl)) rfl
set_option maxRecDepth 20000 in
theorem tw_1508 : (Cond.lays "MownMazeModel$Meadow" "MownMazeModel$Meadow" "moonMown" "J" : Cond) ∈ WS := ws_t (tb_7 (List.mem_of_getElem? (i := 68) rfl)) rfl
set_option maxRecDepth 20000 in
theorem tw_1510 : (Cond.lays "MownMazeModel$Meadow" "MownMazeModel$Meadow" "moonStand" "J" : Cond) ∈ WS := ws_t (tb_7 (List.mem_of_getElem? (i := 70) rfl)) rfl
set_option maxRecDepth 20000 in
theorem tw_1512 : (Cond.lays "MownMazeModel$Meadow" "MownMazeModel$Meadow" "gateSet" "J" : Cond) ∈ WS := ws_t (tb_7 (List.mem_of_getElem? (i := 72) rfl)) rfl
set_option maxRecDepth 20000 in
theorem tw_1514 : (Cond.laysFinal "MownMazeModel$Meadow" "MownMazeModel$Meadow" "gate" "[I" : Cond) ∈ WS := ws_t (tb_7 (List.mem_of_getElem? (i := 74) rfl)) rfl
set_option maxRecDepth 20000 in
theorem tw_1516 : (Cond.laysFinal "MownMazeModel$Meadow" "MownMazeModel$Meadow" "heard" "[I" : Cond) ∈ WS := ws_t (tb_7 (List.mem_of_getElem? (i := 76) rfl)) rfl
set_option maxRecDepth 20000 in
theorem tw_1518 : (Cond.laysFinal "MownMazeModel$Meadow" "MownMazeModel$Meadow" "heardFrom" "[I" : Cond) ∈ WS := ws_t (tb_7 (List.mem_of_getElem? (i := 78) rfl)) rfl
set_option maxRecDepth 20000 in
theorem tw_1520 : (Cond.laysFinal "MownMazeModel$Meadow" "MownMazeModel$Meadow" "kind" "[I" : Cond) ∈ WS := ws_t (tb_7 (List.mem_of_getElem? (i := 80) rfl)) rfl
set_option maxRecDepth 20000 in
theorem tw_1522 : (Cond.laysFinal "MownMazeModel$Meadow" "MownMazeModel$Meadow" "start" "[I" : Cond) ∈ WS := ws_t (tb_7 (List.mem_of_getElem? (i := 82) rfl)) rfl
set_option maxRecDepth 20000 in
theorem tw_1524 : (Cond.laysFinal "MownMazeModel$Meadow" "MownMazeModel$Meadow" "faces" "[I" : Cond) ∈ WS := ws_t (tb_7 (List.mem_of_getElem? (i := 84) rfl)) rfl
set_option maxRecDepth 20000 in
theorem tw_1526 : (Cond.laysFinal "MownMazeModel$Meadow" "MownMazeModel$Meadow" "leaves" "[I" : Cond) ∈ WS := ws_t (tb_7 (List.mem_of_getElem? (i := 86) rfl)) rfl
set_option maxRecDepth 20000 in
theorem tw_1528 : (Cond.laysFinal "MownMazeModel$Meadow" "MownMazeModel$Meadow" "name" "[J" : Cond) ∈ WS := ws_t (tb_7 (List.mem_of_getElem? (i := 88) rfl)) rfl
set_option maxRecDepth 20000 in
theorem tw_1530 : (Cond.superclass "MownMazeModel$Meadow" "java/lang/Object" : Cond) ∈ WS := ws_t (tb_7 (List.mem_of_getElem? (i := 90) rfl)) rfl
set_option maxRecDepth 20000 in
theorem tw_1531 : (Cond.methodLink "MownMazeModel" 140 ⟨"MownMazeModel", "goesOn", "()V"⟩ : Cond) ∈ WS := ws_t (tb_7 (List.mem_of_getElem? (i := 91) rfl)) rfl
set_option maxRecDepth 20000 in
theorem tw_1533 : (Cond.instanceMethod ⟨"MownMazeModel", "goesOn", "()V"⟩ : Cond) ∈ WS := ws_t (tb_7 (List.mem_of_getElem? (i := 93) rfl)) rfl
set_option maxRecDepth 20000 in
theorem tw_1534 : (Cond.code ⟨"MownMazeModel", "goesOn", "()V"⟩ prog_13_method_15_code 3 none : Cond) ∈ WS := ws_t (tb_7 (List.mem_of_getElem? (i := 94) rfl)) rfl
set_option maxRecDepth 20000 in
theorem tw_1535 : (Cond.methodLink "MownMazeModel" 100 ⟨"MownMazeModel", "byteAt", "(I)I"⟩ : Cond) ∈ WS := ws_t (tb_7 (List.mem_of_getElem? (i := 95) rfl)) rfl
set_option maxRecDepth 20000 in
theorem tw_1537 : (Cond.instanceMethod ⟨"MownMazeModel", "byteAt", "(I)I"⟩ : Cond) ∈ WS := ws_t (tb_7 (List.mem_of_getElem? (i := 97) rfl)) rfl
set_option maxRecDepth 20000 in
theorem tw_1538 : (Cond.code ⟨"MownMazeModel", "byteAt", "(I)I"⟩ prog_13_method_11_code 2 (Option.some FieldType.int) : Cond) ∈ WS := ws_t (tb_7 (List.mem_of_getElem? (i := 98) rfl)) rfl
set_option maxRecDepth 20000 in
theorem tw_1539 : (Cond.methodLink "MownMazeModel" 109 ⟨"MownMazeModel", "isLetter", "(I)Z"⟩ : Cond) ∈ WS := ws_t (tb_7 (List.mem_of_getElem? (i := 99) rfl)) rfl
set_option maxRecDepth 20000 in
theorem tw_1540 : (Cond.static ⟨"MownMazeModel", "isLetter", "(I)Z"⟩ : Cond) ∈ WS := ws_t (tb_7 (List.mem_of_getElem? (i := 100) rfl)) rfl
set_option maxRecDepth 20000 in
theorem tw_1541 : (Cond.code ⟨"MownMazeModel", "isLetter", "(I)Z"⟩ prog_13_method_12_code 1 (Option.some FieldType.boolean) : Cond) ∈ WS := ws_t (tb_7 (List.mem_of_getElem? (i := 101) rfl)) rfl
set_option maxRecDepth 20000 in
theorem tw_1542 : (Cond.constantLong "MownMazeModel" 88 32 : Cond) ∈ WS := ws_t (tb_7 (List.mem_of_getElem? (i := 102) rfl)) rfl
set_option maxRecDepth 20000 in
theorem tw_1543 : (Cond.methodLink "MownMazeModel" 120 ⟨"MownMazeModel", "isDigit", "(I)Z"⟩ : Cond) ∈ WS := ws_t (tb_7 (List.mem_of_getElem? (i := 103) rfl)) rfl
set_option maxRecDepth 20000 in
theorem tw_1544 : (Cond.static ⟨"MownMazeModel", "isDigit", "(I)Z"⟩ : Cond) ∈ WS := ws_t (tb_7 (List.mem_of_getElem? (i := 104) rfl)) rfl
set_option maxRecDepth 20000 in
theorem tw_1545 : (Cond.code ⟨"MownMazeModel", "isDigit", "(I)Z"⟩ prog_13_method_13_code 1 (Option.some FieldType.boolean) : Cond) ∈ WS := ws_t (tb_7 (List.mem_of_getElem? (i := 105) rfl)) rfl
set_option maxRecDepth 20000 in
theorem tw_1546 : (Cond.methodLink "MownMazeModel" 352 ⟨"MownMazeModel", "readAll", "()V"⟩ : Cond) ∈ WS := ws_t (tb_7 (List.mem_of_getElem? (i := 106) rfl)) rfl
set_option maxRecDepth 20000 in
theorem tw_1548 : (Cond.instanceMethod ⟨"MownMazeModel", "readAll", "()V"⟩ : Cond) ∈ WS := ws_t (tb_7 (List.mem_of_getElem? (i := 108) rfl)) rfl
set_option maxRecDepth 20000 in
theorem tw_1549 : (Cond.code ⟨"MownMazeModel", "readAll", "()V"⟩ prog_13_method_27_code 2 none : Cond) ∈ WS := ws_t (tb_7 (List.mem_of_getElem? (i := 109) rfl)) rfl
set_option maxRecDepth 20000 in
theorem tw_1550 : (Cond.methodLink "MownMazeModel" 177 ⟨"MownMazeModel", "readLine", "()V"⟩ : Cond) ∈ WS := ws_t (tb_7 (List.mem_of_getElem? (i := 110) rfl)) rfl
set_option maxRecDepth 20000 in
theorem tw_1552 : (Cond.instanceMethod ⟨"MownMazeModel", "readLine", "()V"⟩ : Cond) ∈ WS := ws_t (tb_7 (List.mem_of_getElem? (i := 112) rfl)) rfl
set_option maxRecDepth 20000 in
theorem tw_1553 : (Cond.code ⟨"MownMazeModel", "readLine", "()V"⟩ prog_13_method_28_code 1 none : Cond) ∈ WS := ws_t (tb_7 (List.mem_of_getElem? (i := 113) rfl)) rfl
set_option maxRecDepth 20000 in
theorem tw_1555 : (Cond.methodLink "MownMazeModel" 136 ⟨"MownMazeModel", "isWord", "(Ljava/lang/String;)Z"⟩ : Cond) ∈ WS := ws_t (tb_7 (List.mem_of_getElem? (i := 115) rfl)) rfl
set_option maxRecDepth 20000 in
theorem tw_1557 : (Cond.instanceMethod ⟨"MownMazeModel", "isWord", "(Ljava/lang/String;)Z"⟩ : Cond) ∈ WS := ws_t (tb_7 (List.mem_of_getElem? (i := 117) rfl)) rfl
set_option maxRecDepth 20000 in
theorem tw_1558 : (Cond.code ⟨"MownMazeModel", "isWord", "(Ljava/lang/String;)Z"⟩ prog_13_method_17_code 2 (Option.some FieldType.boolean) : Cond) ∈ WS := ws_t (tb_7 (List.mem_of_getElem? (i := 118) rfl)) rfl
set_option maxRecDepth 20000 in
theorem tw_1559 : (Cond.methodLink "MownMazeModel" 132 ⟨"MownMazeModel", "wordOf", "(Ljava/lang/String;)J"⟩ : Cond) ∈ WS := ws_t (tb_7 (List.mem_of_getElem? (i := 119) rfl)) rfl
set_option maxRecDepth 20000 in
theorem tw_1560 : (Cond.static ⟨"MownMazeModel", "wordOf", "(Ljava/lang/String;)J"⟩ : Cond) ∈ WS := ws_t (tb_7 (List.mem_of_getElem? (i := 120) rfl)) rfl
set_option maxRecDepth 20000 in
theorem tw_1561 : (Cond.code ⟨"MownMazeModel", "wordOf", "(Ljava/lang/String;)J"⟩ prog_13_method_14_code 4 (Option.some FieldType.long) : Cond) ∈ WS := ws_t (tb_7 (List.mem_of_getElem? (i := 121) rfl)) rfl
set_option maxRecDepth 20000 in
theorem tw_1562 : (Cond.methodLink "MownMazeModel" 82 ⟨"java/lang/String", "length", "()I"⟩ : Cond) ∈ WS := ws_t (tb_7 (List.mem_of_getElem? (i := 122) rfl)) rfl
set_option maxRecDepth 20000 in
theorem tw_1563 : (Cond.methodLink "MownMazeModel" 90 ⟨"java/lang/String", "charAt", "(I)C"⟩ : Cond) ∈ WS := ws_t (tb_7 (List.mem_of_getElem? (i := 123) rfl)) rfl
set_option maxRecDepth 20000 in
theorem tw_1564 : (Cond.methodLink "MownMazeModel" 188 ⟨"MownMazeModel", "readMeadow", "()V"⟩ : Cond) ∈ WS := ws_t (tb_7 (List.mem_of_getElem? (i := 124) rfl)) rfl
set_option maxRecDepth 20000 in
theorem tw_1566 : (Cond.instanceMethod ⟨"MownMazeModel", "readMeadow", "()V"⟩ : Cond) ∈ WS := ws_t (tb_7 (List.mem_of_getElem? (i := 126) rfl)) rfl
set_option maxRecDepth 20000 in
theorem tw_1567 : (Cond.code ⟨"MownMazeModel", "readMeadow", "()V"⟩ prog_13_method_29_code 6 none : Cond) ∈ WS := ws_t (tb_7 (List.mem_of_getElem? (i := 127) rfl)) rfl
set_option maxRecDepth 20000 in
theorem tw_1568 : (Cond.methodLink "MownMazeModel" 143 ⟨"MownMazeModel", "flaw", "(I)V"⟩ : Cond) ∈ WS := ws_t (tb_7 (List.mem_of_getElem? (i := 128) rfl)) rfl
set_option maxRecDepth 20000 in
theorem tw_1570 : (Cond.instanceMethod ⟨"MownMazeModel", "flaw", "(I)V"⟩ : Cond) ∈ WS := ws_t (tb_7 (List.mem_of_getElem? (i := 130) rfl)) rfl
set_option maxRecDepth 20000 in
theorem tw_1571 : (Cond.code ⟨"MownMazeModel", "flaw", "(I)V"⟩ prog_13_method_16_code 2 none : Cond) ∈ WS := ws_t (tb_7 (List.mem_of_getElem? (i := 131) rfl)) rfl
set_option maxRecDepth 20000 in
theorem tw_1573 : (Cond.methodLink "MownMazeModel" 226 ⟨"MownMazeModel", "readPart", "(Ljava/lang/String;II)I"⟩ : Cond) ∈ WS := ws_t (tb_7 (List.mem_of_getElem? (i := 133) rfl)) rfl
set_option maxRecDepth 20000 in
theorem tw_1575 : (Cond.instanceMethod ⟨"MownMazeModel", "readPart", "(Ljava/lang/String;II)I"⟩ : Cond) ∈ WS := ws_t (tb_7 (List.mem_of_getElem? (i := 135) rfl)) rfl
set_option maxRecDepth 20000 in
theorem tw_1576 : (Cond.code ⟨"MownMazeModel", "readPart", "(Ljava/lang/String;II)I"⟩ prog_13_method_24_code 4 (Option.some FieldType.int) : Cond) ∈ WS := ws_t (tb_7 (List.mem_of_getElem? (i := 136) rfl)) rfl
set_option maxRecDepth 20000 in
theorem tw_1577 : (Cond.methodLink "MownMazeModel" 155 ⟨"MownMazeModel", "needs", "(Ljava/lang/String;)V"⟩ : Cond) ∈ WS := ws_t (tb_7 (List.mem_of_getElem? (i := 137) rfl)) rfl
set_option maxRecDepth 20000 in
theorem tw_1579 : (Cond.instanceMethod ⟨"MownMazeModel", "needs", "(Ljava/lang/String;)V"⟩ : Cond) ∈ WS := ws_t (tb_7 (List.mem_of_getElem? (i := 139) rfl)) rfl
set_option maxRecDepth 20000 in
theorem tw_1580 : (Cond.code ⟨"MownMazeModel", "needs", "(Ljava/lang/String;)V"⟩ prog_13_method_20_code 2 none : Cond) ∈ WS := ws_t (tb_7 (List.mem_of_getElem? (i := 140) rfl)) rfl
set_option maxRecDepth 20000 in
theorem tw_1581 : (Cond.methodLink "MownMazeModel" 159 ⟨"MownMazeModel", "readWhole", "(II)I"⟩ : Cond) ∈ WS := ws_t (tb_7 (List.mem_of_getElem? (i := 141) rfl)) rfl
set_option maxRecDepth 20000 in
theorem tw_1583 : (Cond.instanceMethod ⟨"MownMazeModel", "readWhole", "(II)I"⟩ : Cond) ∈ WS := ws_t (tb_7 (List.mem_of_getElem? (i := 143) rfl)) rfl
set_option maxRecDepth 20000 in
theorem tw_1584 : (Cond.code ⟨"MownMazeModel", "readWhole", "(II)I"⟩ prog_13_method_23_code 4 (Option.some FieldType.int) : Cond) ∈ WS := ws_t (tb_7 (List.mem_of_getElem? (i := 144) rfl)) rfl
set_option maxRecDepth 20000 in
theorem tw_1585 : (Cond.methodLink "MownMazeModel" 151 ⟨"MownMazeModel", "bounded", "(II)I"⟩ : Cond) ∈ WS := ws_t (tb_7 (List.mem_of_getElem? (i := 145) rfl)) rfl
set_option maxRecDepth 20000 in
theorem tw_1587 : (Cond.instanceMethod ⟨"MownMazeModel", "bounded", "(II)I"⟩ : Cond) ∈ WS := ws_t (tb_7 (List.mem_of_getElem? (i := 147) rfl)) rfl
set_option maxRecDepth 20000 in
theorem tw_1588 : (Cond.code ⟨"MownMazeModel", "bounded", "(II)I"⟩ prog_13_method_22_code 3 (Option.some FieldType.int) : Cond) ∈ WS := ws_t (tb_7 (List.mem_of_getElem? (i := 148) rfl)) rfl
set_option maxRecDepth 20000 in
theorem tw_1589 : (Cond.methodLink "MownMazeModel" 147 ⟨"MownMazeModel", "in", "(III)Z"⟩ : Cond) ∈ WS := ws_t (tb_7 (List.mem_of_getElem? (i := 149) rfl)) rfl
set_option maxRecDepth 20000 in
theorem tw_1590 : (Cond.static ⟨"MownMazeModel", "in", "(III)Z"⟩ : Cond) ∈ WS := ws_t (tb_7 (List.mem_of_getElem? (i := 150) rfl)) rfl
set_option maxRecDepth 20000 in
theorem tw_1591 : (Cond.code ⟨"MownMazeModel", "in", "(III)Z"⟩ prog_13_method_7_code 3 (Option.some FieldType.boolean) : Cond) ∈ WS := ws_t (tb_7 (List.mem_of_getElem? (i := 151) rfl)) rfl
set_option maxRecDepth 20000 in
theorem tw_1597 : (Cond.methodLink "MownMazeModel" 192 ⟨"MownMazeModel", "readRow", "()V"⟩ : Cond) ∈ WS := ws_t (tb_7 (List.mem_of_getElem? (i := 157) rfl)) rfl
set_option maxRecDepth 20000 in
theorem tw_1599 : (Cond.instanceMethod ⟨"MownMazeModel", "readRow", "()V"⟩ : Cond) ∈ WS := ws_t (tb_7 (List.mem_of_getElem? (i := 159) rfl)) rfl
set_option maxRecDepth 20000 in
theorem tw_1600 : (Cond.code ⟨"MownMazeModel", "readRow", "()V"⟩ prog_13_method_31_code 1 none : Cond) ∈ WS := ws_t (tb_7 (List.mem_of_getElem? (i := 160) rfl)) rfl
set_option maxRecDepth 20000 in
theorem tw_1601 : (Cond.methodLink "MownMazeModel" 249 ⟨"MownMazeModel", "begins", "(II)V"⟩ : Cond) ∈ WS := ws_t (tb_7 (List.mem_of_getElem? (i := 161) rfl)) rfl
set_option maxRecDepth 20000 in
theorem tw_1603 : (Cond.instanceMethod ⟨"MownMazeModel", "begins", "(II)V"⟩ : Cond) ∈ WS := ws_t (tb_7 (List.mem_of_getElem? (i := 163) rfl)) rfl
set_option maxRecDepth 20000 in
theorem tw_1604 : (Cond.code ⟨"MownMazeModel", "begins", "(II)V"⟩ prog_13_method_25_code 3 none : Cond) ∈ WS := ws_t (tb_7 (List.mem_of_getElem? (i := 164) rfl)) rfl
set_option maxRecDepth 20000 in
theorem tw_1605 : (Cond.methodLink "MownMazeModel" 253 ⟨"MownMazeModel", "readCells", "(IZ)V"⟩ : Cond) ∈ WS := ws_t (tb_7 (List.mem_of_getElem? (i := 165) rfl)) rfl
set_option maxRecDepth 20000 in
theorem tw_1607 : (Cond.instanceMethod ⟨"MownMazeModel", "readCells", "(IZ)V"⟩ : Cond) ∈ WS := ws_t (tb_7 (List.mem_of_getElem? (i := 167) rfl)) rfl
set_option maxRecDepth 20000 in
theorem tw_1608 : (Cond.code ⟨"MownMazeModel", "readCells", "(IZ)V"⟩ prog_13_method_30_code 6 none : Cond) ∈ WS := ws_t (tb_7 (List.mem_of_getElem? (i := 168) rfl)) rfl
set_option maxRecDepth 20000 in
theorem tw_1610 : (Cond.methodLink "MownMazeModel" 197 ⟨"MownMazeModel", "readWant", "()V"⟩ : Cond) ∈ WS := ws_t (tb_7 (List.mem_of_getElem? (i := 170) rfl)) rfl
set_option maxRecDepth 20000 in
theorem tw_1612 : (Cond.instanceMethod ⟨"MownMazeModel", "readWant", "()V"⟩ : Cond) ∈ WS := ws_t (tb_7 (List.mem_of_getElem? (i := 172) rfl)) rfl
set_option maxRecDepth 20000 in
theorem tw_1613 : (Cond.code ⟨"MownMazeModel", "readWant", "()V"⟩ prog_13_method_32_code 1 none : Cond) ∈ WS := ws_t (tb_7 (List.mem_of_getElem? (i := 173) rfl)) rfl
set_option maxRecDepth 20000 in
theorem tw_1615 : (Cond.methodLink "MownMazeModel" 202 ⟨"MownMazeModel", "readMoon", "()V"⟩ : Cond) ∈ WS := ws_t (tb_7 (List.mem_of_getElem? (i := 175) rfl)) rfl
set_option maxRecDepth 20000 in
theorem tw_1617 : (Cond.instanceMethod ⟨"MownMazeModel", "readMoon", "()V"⟩ : Cond) ∈ WS := ws_t (tb_7 (List.mem_of_getElem? (i := 177) rfl)) rfl
set_option maxRecDepth 20000 in
theorem tw_1618 : (Cond.code ⟨"MownMazeModel", "readMoon", "()V"⟩ prog_13_method_33_code 1 none : Cond) ∈ WS := ws_t (tb_7 (List.mem_of_getElem? (i := 178) rfl)) rfl
set_option maxRecDepth 20000 in
theorem tw_1620 : (Cond.methodLink "MownMazeModel" 207 ⟨"MownMazeModel", "readGate", "()V"⟩ : Cond) ∈ WS := ws_t (tb_7 (List.mem_of_getElem? (i := 180) rfl)) rfl
set_option maxRecDepth 20000 in
theorem tw_1622 : (Cond.instanceMethod ⟨"MownMazeModel", "readGate", "()V"⟩ : Cond) ∈ WS := ws_t (tb_7 (List.mem_of_getElem? (i := 182) rfl)) rfl
set_option maxRecDepth 20000 in
theorem tw_1623 : (Cond.code ⟨"MownMazeModel", "readGate", "()V"⟩ prog_13_method_34_code 3 none : Cond) ∈ WS := ws_t (tb_7 (List.mem_of_getElem? (i := 183) rfl)) rfl
set_option maxRecDepth 20000 in
theorem tw_1624 : (Cond.methodLink "MownMazeModel" 171 ⟨"MownMazeModel", "needsSign", "(I)V"⟩ : Cond) ∈ WS := ws_t (tb_7 (List.mem_of_getElem? (i := 184) rfl)) rfl
set_option maxRecDepth 20000 in
theorem tw_1626 : (Cond.instanceMethod ⟨"MownMazeModel", "needsSign", "(I)V"⟩ : Cond) ∈ WS := ws_t (tb_7 (List.mem_of_getElem? (i := 186) rfl)) rfl
set_option maxRecDepth 20000 in
theorem tw_1627 : (Cond.code ⟨"MownMazeModel", "needsSign", "(I)V"⟩ prog_13_method_21_code 2 none : Cond) ∈ WS := ws_t (tb_7 (List.mem_of_getElem? (i := 187) rfl)) rfl
set_option maxRecDepth 20000 in
theorem tw_1628 : (Cond.methodLink "MownMazeModel" 75 ⟨"MownMazeModel", "has", "(JI)Z"⟩ : Cond) ∈ WS := ws_t (tb_7 (List.mem_of_getElem? (i := 188) rfl)) rfl
set_option maxRecDepth 20000 in
theorem tw_1629 : (Cond.static ⟨"MownMazeModel", "has", "(JI)Z"⟩ : Cond) ∈ WS := ws_t (tb_7 (List.mem_of_getElem? (i := 189) rfl)) rfl
set_option maxRecDepth 20000 in
theorem tw_1630 : (Cond.code ⟨"MownMazeModel", "has", "(JI)Z"⟩ prog_13_method_8_code 3 (Option.some FieldType.boolean) : Cond) ∈ WS := ws_t (tb_7 (List.mem_of_getElem? (i := 190) rfl)) rfl
set_option maxRecDepth 20000 in
theorem tw_1632 : (Cond.methodLink "MownMazeModel" 212 ⟨"MownMazeModel", "readNoise", "()V"⟩ : Cond) ∈ WS := ws_t (tb_7 (List.mem_of_getElem? (i := 192) rfl)) rfl
set_option maxRecDepth 20000 in
theorem tw_1634 : (Cond.instanceMethod ⟨"MownMazeModel", "readNoise", "()V"⟩ : Cond) ∈ WS := ws_t (tb_7 (List.mem_of_getElem? (i := 194) rfl)) rfl
set_option maxRecDepth 20000 in
theorem tw_1635 : (Cond.code ⟨"MownMazeModel", "readNoise", "()V"⟩ prog_13_method_35_code 2 none : Cond) ∈ WS := ws_t (tb_7 (List.mem_of_getElem? (i := 195) rfl)) rfl
set_option maxRecDepth 20000 in
theorem tw_1636 : (Cond.methodLink "MownMazeModel" 288 ⟨"MownMazeModel", "readCell", "()I"⟩ : Cond) ∈ WS := ws_t (tb_7 (List.mem_of_getElem? (i := 196) rfl)) rfl
set_option maxRecDepth 20000 in
theorem tw_1638 : (Cond.instanceMethod ⟨"MownMazeModel", "readCell", "()I"⟩ : Cond) ∈ WS := ws_t (tb_7 (List.mem_of_getElem? (i := 198) rfl)) rfl
set_option maxRecDepth 20000 in
theorem tw_1639 : (Cond.code ⟨"MownMazeModel", "readCell", "()I"⟩ prog_13_method_26_code 3 (Option.some FieldType.int) : Cond) ∈ WS := ws_t (tb_7 (List.mem_of_getElem? (i := 199) rfl)) rfl
set_option maxRecDepth 20000 in
theorem tw_1641 : (Cond.methodLink "MownMazeModel" 217 ⟨"MownMazeModel", "readHeard", "()V"⟩ : Cond) ∈ WS := ws_t (tb_7 (List.mem_of_getElem? (i := 201) rfl)) rfl
set_option maxRecDepth 20000 in
theorem tw_1643 : (Cond.instanceMethod ⟨"MownMazeModel", "readHeard", "()V"⟩ : Cond) ∈ WS := ws_t (tb_7 (List.mem_of_getElem? (i := 203) rfl)) rfl
set_option maxRecDepth 20000 in
theorem tw_1644 : (Cond.code ⟨"MownMazeModel", "readHeard", "()V"⟩ prog_13_method_36_code 3 none : Cond) ∈ WS := ws_t (tb_7 (List.mem_of_getElem? (i := 204) rfl)) rfl
set_option maxRecDepth 20000 in
theorem tw_1647 : (Cond.methodLink "MownMazeModel" 222 ⟨"MownMazeModel", "readWalker", "()V"⟩ : Cond) ∈ WS := ws_t (tb_7 (List.mem_of_getElem? (i := 207) rfl)) rfl
set_option maxRecDepth 20000 in
theorem tw_1649 : (Cond.instanceMethod ⟨"MownMazeModel", "readWalker", "()V"⟩ : Cond) ∈ WS := ws_t (tb_7 (List.mem_of_getElem? (i := 209) rfl)) rfl
set_option maxRecDepth 20000 in
theorem tw_1650 : (Cond.code ⟨"MownMazeModel", "readWalker", "()V"⟩ prog_13_method_38_code 7 none : Cond) ∈ WS := ws_t (tb_7 (List.mem_of_getElem? (i := 210) rfl)) rfl
set_option maxRecDepth 20000 in
theorem tw_1651 : (Cond.methodLink "MownMazeModel" 304 ⟨"MownMazeModel", "isName", "()Z"⟩ : Cond) ∈ WS := ws_t (tb_7 (List.mem_of_getElem? (i := 211) rfl)) rfl
set_option maxRecDepth 20000 in
theorem tw_1653 : (Cond.instanceMethod ⟨"MownMazeModel", "isName", "()Z"⟩ : Cond) ∈ WS := ws_t (tb_7 (List.mem_of_getElem? (i := 213) rfl)) rfl
set_option maxRecDepth 20000 in
theorem tw_1654 : (Cond.code ⟨"MownMazeModel", "isName", "()Z"⟩ prog_13_method_37_code 1 (Option.some FieldType.boolean) : Cond) ∈ WS := ws_t (tb_7 (List.mem_of_getElem? (i := 214) rfl)) rfl
set_option maxRecDepth 20000 in
theorem tw_1656 : (Cond.methodLink "MownMazeModel" 313 ⟨"MownMazeModel", "eatsWord", "(Ljava/lang/String;)Z"⟩ : Cond) ∈ WS := ws_t (tb_7 (List.mem_of_getElem? (i := 216) rfl)) rfl
set_option maxRecDepth 20000 in
theorem tw_1658 : (Cond.instanceMethod ⟨"MownMazeModel", "eatsWord", "(Ljava/lang/String;)Z"⟩ : Cond) ∈ WS := ws_t (tb_7 (List.mem_of_getElem? (i := 218) rfl)) rfl
set_option maxRecDepth 20000 in
theorem tw_1659 : (Cond.code ⟨"MownMazeModel", "eatsWord", "(Ljava/lang/String;)Z"⟩ prog_13_method_18_code 3 (Option.some FieldType.boolean) : Cond) ∈ WS := ws_t (tb_7 (List.mem_of_getElem? (i := 219) rfl)) rfl
set_option maxRecDepth 20000 in
theorem tw_1671 : (Cond.methodLink "MownMazeModel" 180 ⟨"MownMazeModel", "eatsSign", "(I)Z"⟩ : Cond) ∈ WS := ws_t (tb_7 (List.mem_of_getElem? (i := 231) rfl)) rfl
set_option maxRecDepth 20000 in
theorem tw_1673 : (Cond.instanceMethod ⟨"MownMazeModel", "eatsSign", "(I)Z"⟩ : Cond) ∈ WS := ws_t (tb_7 (List.mem_of_getElem? (i := 233) rfl)) rfl
set_option maxRecDepth 20000 in
theorem tw_1674 : (Cond.code ⟨"MownMazeModel", "eatsSign", "(I)Z"⟩ prog_13_method_19_code 3 (Option.some FieldType.boolean) : Cond) ∈ WS := ws_t (tb_7 (List.mem_of_getElem? (i := 234) rfl)) rfl
set_option maxRecDepth 20000 in
theorem tw_1675 : (Cond.methodLink "MownMazeModel" 367 ⟨"MownMazeModel", "bits", "(J)I"⟩ : Cond) ∈ WS := ws_t (tb_7 (List.mem_of_getElem? (i := 235) rfl)) rfl
set_option maxRecDepth 20000 in
theorem tw_1676 : (Cond.static ⟨"MownMazeModel", "bits", "(J)I"⟩ : Cond) ∈ WS := ws_t (tb_7 (List.mem_of_getElem? (i := 236) rfl)) rfl
set_option maxRecDepth 20000 in
theorem tw_1677 : (Cond.code ⟨"MownMazeModel", "bits", "(J)I"⟩ prog_13_method_9_code 5 (Option.some FieldType.int) : Cond) ∈ WS := ws_t (tb_7 (List.mem_of_getElem? (i := 237) rfl)) rfl
set_option maxRecDepth 20000 in
theorem tw_1678 : (Cond.methodLink "MownMazeModel" 72 ⟨"MownMazeModel", "good", "(I)I"⟩ : Cond) ∈ WS := ws_t (tb_7 (List.mem_of_getElem? (i := 238) rfl)) rfl
set_option maxRecDepth 20000 in
theorem tw_1680 : (Cond.instanceMethod ⟨"MownMazeModel", "good", "(I)I"⟩ : Cond) ∈ WS := ws_t (tb_8 (List.mem_of_getElem? (i := 0) rfl)) rfl
set_option maxRecDepth 20000 in
theorem tw_1681 : (Cond.code ⟨"MownMazeModel", "good", "(I)I"⟩ prog_13_method_5_code 2 (Option.some FieldType.int) : Cond) ∈ WS := ws_t (tb_8 (List.mem_of_getElem? (i := 1) rfl)) rfl
set_option maxRecDepth 20000 in
theorem tw_1682 : (Cond.methodLink "MownMazeLaw" 32 ⟨"MownMazeModel", "fault", "()I"⟩ : Cond) ∈ WS := ws_t (tb_8 (List.mem_of_getElem? (i := 2) rfl)) rfl
set_option maxRecDepth 20000 in
theorem tw_1683 : (Cond.instanceMethod ⟨"MownMazeModel", "fault", "()I"⟩ : Cond) ∈ WS := ws_t (tb_8 (List.mem_of_getElem? (i := 3) rfl)) rfl
set_option maxRecDepth 20000 in
theorem tw_1684 : (Cond.selects "MownMazeModel" ⟨"MownMazeModel", "fault", "()I"⟩ ⟨"MownMazeModel", "fault", "()I"⟩ : Cond) ∈ WS := ws_t (tb_8 (List.mem_of_getElem? (i := 4) rfl)) rfl
set_option maxRecDepth 20000 in
theorem tw_1685 : (Cond.code ⟨"MownMazeModel", "fault", "()I"⟩ prog_13_method_41_code 1 (Option.some FieldType.int) : Cond) ∈ WS := ws_t (tb_8 (List.mem_of_getElem? (i := 5) rfl)) rfl
set_option maxRecDepth 20000 in
theorem tw_1686 : (Cond.methodLink "MownMazeLaw" 36 ⟨"MownMazeModel", "where", "()I"⟩ : Cond) ∈ WS := ws_t (tb_8 (List.mem_of_getElem? (i := 6) rfl)) rfl
set_option maxRecDepth 20000 in
theorem tw_1687 : (Cond.instanceMethod ⟨"MownMazeModel", "where", "()I"⟩ : Cond) ∈ WS := ws_t (tb_8 (List.mem_of_getElem? (i := 7) rfl)) rfl
set_option maxRecDepth 20000 in
theorem tw_1688 : (Cond.selects "MownMazeModel" ⟨"MownMazeModel", "where", "()I"⟩ ⟨"MownMazeModel", "where", "()I"⟩ : Cond) ∈ WS := ws_t (tb_8 (List.mem_of_getElem? (i := 8) rfl)) rfl
set_option maxRecDepth 20000 in
theorem tw_1689 : (Cond.code ⟨"MownMazeModel", "where", "()I"⟩ prog_13_method_42_code 1 (Option.some FieldType.int) : Cond) ∈ WS := ws_t (tb_8 (List.mem_of_getElem? (i := 9) rfl)) rfl
set_option maxRecDepth 20000 in
theorem tw_1690 : (Cond.methodLink "MownMazeLaw" 41 ⟨"MownMazeModel", "mown", "(II)I"⟩ : Cond) ∈ WS := ws_t (tb_8 (List.mem_of_getElem? (i := 10) rfl)) rfl
set_option maxRecDepth 20000 in
theorem tw_1691 : (Cond.instanceMethod ⟨"MownMazeModel", "mown", "(II)I"⟩ : Cond) ∈ WS := ws_t (tb_8 (List.mem_of_getElem? (i := 11) rfl)) rfl
set_option maxRecDepth 20000 in
theorem tw_1692 : (Cond.selects "MownMazeModel" ⟨"MownMazeModel", "mown", "(II)I"⟩ ⟨"MownMazeModel", "mown", "(II)I"⟩ : Cond) ∈ WS := ws_t (tb_8 (List.mem_of_getElem? (i := 12) rfl)) rfl
set_option maxRecDepth 20000 in
theorem tw_1693 : (Cond.code ⟨"MownMazeModel", "mown", "(II)I"⟩ prog_13_method_51_code 3 (Option.some FieldType.int) : Cond) ∈ WS := ws_t (tb_8 (List.mem_of_getElem? (i := 13) rfl)) rfl
set_option maxRecDepth 20000 in
theorem tw_1694 : (Cond.methodLink "MownMazeModel" 389 ⟨"MownMazeModel", "isCell", "(II)Z"⟩ : Cond) ∈ WS := ws_t (tb_8 (List.mem_of_getElem? (i := 14) rfl)) rfl
set_option maxRecDepth 20000 in
theorem tw_1696 : (Cond.instanceMethod ⟨"MownMazeModel", "isCell", "(II)Z"⟩ : Cond) ∈ WS := ws_t (tb_8 (List.mem_of_getElem? (i := 16) rfl)) rfl
set_option maxRecDepth 20000 in
theorem tw_1697 : (Cond.code ⟨"MownMazeModel", "isCell", "(II)Z"⟩ prog_13_method_47_code 3 (Option.some FieldType.boolean) : Cond) ∈ WS := ws_t (tb_8 (List.mem_of_getElem? (i := 17) rfl)) rfl
set_option maxRecDepth 20000 in
theorem tw_1698 : (Cond.methodLink "MownMazeModel" 393 ⟨"MownMazeModel", "cellOf", "(II)I"⟩ : Cond) ∈ WS := ws_t (tb_8 (List.mem_of_getElem? (i := 18) rfl)) rfl
set_option maxRecDepth 20000 in
theorem tw_1700 : (Cond.instanceMethod ⟨"MownMazeModel", "cellOf", "(II)I"⟩ : Cond) ∈ WS := ws_t (tb_8 (List.mem_of_getElem? (i := 20) rfl)) rfl
set_option maxRecDepth 20000 in
theorem tw_1701 : (Cond.code ⟨"MownMazeModel", "cellOf", "(II)I"⟩ prog_13_method_48_code 3 (Option.some FieldType.int) : Cond) ∈ WS := ws_t (tb_8 (List.mem_of_getElem? (i := 21) rfl)) rfl
set_option maxRecDepth 20000 in
theorem tw_1702 : (Cond.methodLink "MownMazeLaw" 45 ⟨"MownMazeModel", "beside", "(II)I"⟩ : Cond) ∈ WS := ws_t (tb_8 (List.mem_of_getElem? (i := 22) rfl)) rfl
set_option maxRecDepth 20000 in
theorem tw_1703 : (Cond.instanceMethod ⟨"MownMazeModel", "beside", "(II)I"⟩ : Cond) ∈ WS := ws_t (tb_8 (List.mem_of_getElem? (i := 23) rfl)) rfl
set_option maxRecDepth 20000 in
theorem tw_1704 : (Cond.selects "MownMazeModel" ⟨"MownMazeModel", "beside", "(II)I"⟩ ⟨"MownMazeModel", "beside", "(II)I"⟩ : Cond) ∈ WS := ws_t (tb_8 (List.mem_of_getElem? (i := 24) rfl)) rfl
set_option maxRecDepth 20000 in
theorem tw_1705 : (Cond.code ⟨"MownMazeModel", "beside", "(II)I"⟩ prog_13_method_52_code 3 (Option.some FieldType.int) : Cond) ∈ WS := ws_t (tb_8 (List.mem_of_getElem? (i := 25) rfl)) rfl
set_option maxRecDepth 20000 in
theorem tw_1706 : (Cond.methodLink "MownMazeModel" 396 ⟨"MownMazeModel", "besideOf", "(JI)J"⟩ : Cond) ∈ WS := ws_t (tb_8 (List.mem_of_getElem? (i := 26) rfl)) rfl
set_option maxRecDepth 20000 in
theorem tw_1708 : (Cond.instanceMethod ⟨"MownMazeModel", "besideOf", "(JI)J"⟩ : Cond) ∈ WS := ws_t (tb_8 (List.mem_of_getElem? (i := 28) rfl)) rfl
set_option maxRecDepth 20000 in
theorem tw_1709 : (Cond.code ⟨"MownMazeModel", "besideOf", "(JI)J"⟩ prog_13_method_43_code 8 (Option.some FieldType.long) : Cond) ∈ WS := ws_t (tb_8 (List.mem_of_getElem? (i := 29) rfl)) rfl
set_option maxRecDepth 20000 in
theorem tw_1710 : (Cond.methodLink "MownMazeModel" 371 ⟨"MownMazeModel$Meadow", "to", "(II)I"⟩ : Cond) ∈ WS := ws_t (tb_8 (List.mem_of_getElem? (i := 30) rfl)) rfl
set_option maxRecDepth 20000 in
theorem tw_1711 : (Cond.instanceMethod ⟨"MownMazeModel$Meadow", "to", "(II)I"⟩ : Cond) ∈ WS := ws_t (tb_8 (List.mem_of_getElem? (i := 31) rfl)) rfl
set_option maxRecDepth 20000 in
theorem tw_1712 : (Cond.selects "MownMazeModel$Meadow" ⟨"MownMazeModel$Meadow", "to", "(II)I"⟩ ⟨"MownMazeModel$Meadow", "to", "(II)I"⟩ : Cond) ∈ WS := ws_t (tb_8 (List.mem_of_getElem? (i := 32) rfl)) rfl
set_option maxRecDepth 20000 in
theorem tw_1713 : (Cond.code ⟨"MownMazeModel$Meadow", "to", "(II)I"⟩ prog_14_method_3_code 4 (Option.some FieldType.int) : Cond) ∈ WS := ws_t (tb_8 (List.mem_of_getElem? (i := 33) rfl)) rfl
set_option maxRecDepth 20000 in
theorem tw_1714 : (Cond.methodLink "MownMazeModel$Meadow" 47 ⟨"MownMazeModel$Meadow", "cells", "()I"⟩ : Cond) ∈ WS := ws_t (tb_8 (List.mem_of_getElem? (i := 34) rfl)) rfl
set_option maxRecDepth 20000 in
theorem tw_1715 : (Cond.instanceMethod ⟨"MownMazeModel$Meadow", "cells", "()I"⟩ : Cond) ∈ WS := ws_t (tb_8 (List.mem_of_getElem? (i := 35) rfl)) rfl
set_option maxRecDepth 20000 in
theorem tw_1716 : (Cond.selects "MownMazeModel$Meadow" ⟨"MownMazeModel$Meadow", "cells", "()I"⟩ ⟨"MownMazeModel$Meadow", "cells", "()I"⟩ : Cond) ∈ WS := ws_t (tb_8 (List.mem_of_getElem? (i := 36) rfl)) rfl
set_option maxRecDepth 20000 in
theorem tw_1717 : (Cond.code ⟨"MownMazeModel$Meadow", "cells", "()I"⟩ prog_14_method_2_code 1 (Option.some FieldType.int) : Cond) ∈ WS := ws_t (tb_8 (List.mem_of_getElem? (i := 37) rfl)) rfl
set_option maxRecDepth 20000 in
theorem tw_1718 : (Cond.methodLink "MownMazeLaw" 49 ⟨"MownMazeModel", "parts", "()I"⟩ : Cond) ∈ WS := ws_t (tb_8 (List.mem_of_getElem? (i := 38) rfl)) rfl
set_option maxRecDepth 20000 in
theorem tw_1719 : (Cond.instanceMethod ⟨"MownMazeModel", "parts", "()I"⟩ : Cond) ∈ WS := ws_t (tb_8 (List.mem_of_getElem? (i := 39) rfl)) rfl
set_option maxRecDepth 20000 in
theorem tw_1720 : (Cond.selects "MownMazeModel" ⟨"MownMazeModel", "parts", "()I"⟩ ⟨"MownMazeModel", "parts", "()I"⟩ : Cond) ∈ WS := ws_t (tb_8 (List.mem_of_getElem? (i := 40) rfl)) rfl
set_option maxRecDepth 20000 in
theorem tw_1721 : (Cond.code ⟨"MownMazeModel", "parts", "()I"⟩ prog_13_method_53_code 1 (Option.some FieldType.int) : Cond) ∈ WS := ws_t (tb_8 (List.mem_of_getElem? (i := 41) rfl)) rfl
set_option maxRecDepth 20000 in
theorem tw_1722 : (Cond.methodLink "MownMazeModel" 386 ⟨"MownMazeModel", "partsOf", "(J)I"⟩ : Cond) ∈ WS := ws_t (tb_8 (List.mem_of_getElem? (i := 42) rfl)) rfl
set_option maxRecDepth 20000 in
theorem tw_1724 : (Cond.instanceMethod ⟨"MownMazeModel", "partsOf", "(J)I"⟩ : Cond) ∈ WS := ws_t (tb_8 (List.mem_of_getElem? (i := 44) rfl)) rfl
set_option maxRecDepth 20000 in
theorem tw_1725 : (Cond.code ⟨"MownMazeModel", "partsOf", "(J)I"⟩ prog_13_method_45_code 7 (Option.some FieldType.int) : Cond) ∈ WS := ws_t (tb_8 (List.mem_of_getElem? (i := 45) rfl)) rfl
set_option maxRecDepth 20000 in
theorem tw_1726 : (Cond.methodLink "MownMazeModel" 374 ⟨"MownMazeModel", "first", "(J)I"⟩ : Cond) ∈ WS := ws_t (tb_8 (List.mem_of_getElem? (i := 46) rfl)) rfl
set_option maxRecDepth 20000 in
theorem tw_1727 : (Cond.static ⟨"MownMazeModel", "first", "(J)I"⟩ : Cond) ∈ WS := ws_t (tb_8 (List.mem_of_getElem? (i := 47) rfl)) rfl
set_option maxRecDepth 20000 in
theorem tw_1728 : (Cond.code ⟨"MownMazeModel", "first", "(J)I"⟩ prog_13_method_10_code 3 (Option.some FieldType.int) : Cond) ∈ WS := ws_t (tb_8 (List.mem_of_getElem? (i := 48) rfl)) rfl
set_option maxRecDepth 20000 in
theorem tw_1729 : (Cond.methodLink "MownMazeModel" 377 ⟨"MownMazeModel", "laysFar", "(JI)V"⟩ : Cond) ∈ WS := ws_t (tb_8 (List.mem_of_getElem? (i := 49) rfl)) rfl
set_option maxRecDepth 20000 in
theorem tw_1731 : (Cond.instanceMethod ⟨"MownMazeModel", "laysFar", "(JI)V"⟩ : Cond) ∈ WS := ws_t (tb_8 (List.mem_of_getElem? (i := 51) rfl)) rfl
set_option maxRecDepth 20000 in
theorem tw_1732 : (Cond.code ⟨"MownMazeModel", "laysFar", "(JI)V"⟩ prog_13_method_44_code 8 none : Cond) ∈ WS := ws_t (tb_8 (List.mem_of_getElem? (i := 52) rfl)) rfl
set_option maxRecDepth 20000 in
theorem tw_1733 : (Cond.methodLink "MownMazeModel" 381 ⟨"MownMazeModel$Meadow", "cells", "()I"⟩ : Cond) ∈ WS := ws_t (tb_8 (List.mem_of_getElem? (i := 53) rfl)) rfl
set_option maxRecDepth 20000 in
theorem tw_1734 : (Cond.constantLong "MownMazeModel" 384 (-1) : Cond) ∈ WS := ws_t (tb_8 (List.mem_of_getElem? (i := 54) rfl)) rfl
set_option maxRecDepth 20000 in
theorem tw_1735 : (Cond.methodLink "MownMazeLaw" 53 ⟨"MownMazeModel", "rings", "()I"⟩ : Cond) ∈ WS := ws_t (tb_8 (List.mem_of_getElem? (i := 55) rfl)) rfl
set_option maxRecDepth 20000 in
theorem tw_1736 : (Cond.instanceMethod ⟨"MownMazeModel", "rings", "()I"⟩ : Cond) ∈ WS := ws_t (tb_8 (List.mem_of_getElem? (i := 56) rfl)) rfl
set_option maxRecDepth 20000 in
theorem tw_1737 : (Cond.selects "MownMazeModel" ⟨"MownMazeModel", "rings", "()I"⟩ ⟨"MownMazeModel", "rings", "()I"⟩ : Cond) ∈ WS := ws_t (tb_8 (List.mem_of_getElem? (i := 57) rfl)) rfl
set_option maxRecDepth 20000 in
theorem tw_1738 : (Cond.code ⟨"MownMazeModel", "rings", "()I"⟩ prog_13_method_54_code 3 (Option.some FieldType.int) : Cond) ∈ WS := ws_t (tb_8 (List.mem_of_getElem? (i := 58) rfl)) rfl
set_option maxRecDepth 20000 in
theorem tw_1739 : (Cond.methodLink "MownMazeLaw" 57 ⟨"MownMazeModel", "ends", "()I"⟩ : Cond) ∈ WS := ws_t (tb_8 (List.mem_of_getElem? (i := 59) rfl)) rfl
set_option maxRecDepth 20000 in
theorem tw_1740 : (Cond.instanceMethod ⟨"MownMazeModel", "ends", "()I"⟩ : Cond) ∈ WS := ws_t (tb_8 (List.mem_of_getElem? (i := 60) rfl)) rfl
set_option maxRecDepth 20000 in
theorem tw_1741 : (Cond.selects "MownMazeModel" ⟨"MownMazeModel", "ends", "()I"⟩ ⟨"MownMazeModel", "ends", "()I"⟩ : Cond) ∈ WS := ws_t (tb_8 (List.mem_of_getElem? (i := 61) rfl)) rfl
set_option maxRecDepth 20000 in
theorem tw_1742 : (Cond.code ⟨"MownMazeModel", "ends", "()I"⟩ prog_13_method_55_code 3 (Option.some FieldType.int) : Cond) ∈ WS := ws_t (tb_8 (List.mem_of_getElem? (i := 62) rfl)) rfl
set_option maxRecDepth 20000 in
theorem tw_1743 : (Cond.methodLink "MownMazeLaw" 61 ⟨"MownMazeModel", "steps", "(II)I"⟩ : Cond) ∈ WS := ws_t (tb_8 (List.mem_of_getElem? (i := 63) rfl)) rfl
set_option maxRecDepth 20000 in
theorem tw_1744 : (Cond.instanceMethod ⟨"MownMazeModel", "steps", "(II)I"⟩ : Cond) ∈ WS := ws_t (tb_8 (List.mem_of_getElem? (i := 64) rfl)) rfl
set_option maxRecDepth 20000 in
theorem tw_1745 : (Cond.selects "MownMazeModel" ⟨"MownMazeModel", "steps", "(II)I"⟩ ⟨"MownMazeModel", "steps", "(II)I"⟩ : Cond) ∈ WS := ws_t (tb_8 (List.mem_of_getElem? (i := 65) rfl)) rfl
set_option maxRecDepth 20000 in
theorem tw_1746 : (Cond.code ⟨"MownMazeModel", "steps", "(II)I"⟩ prog_13_method_56_code 3 (Option.some FieldType.int) : Cond) ∈ WS := ws_t (tb_8 (List.mem_of_getElem? (i := 66) rfl)) rfl
set_option maxRecDepth 20000 in
theorem tw_1747 : (Cond.methodLink "MownMazeModel" 400 ⟨"MownMazeModel", "isNumber", "(I)Z"⟩ : Cond) ∈ WS := ws_t (tb_8 (List.mem_of_getElem? (i := 67) rfl)) rfl
set_option maxRecDepth 20000 in
theorem tw_1749 : (Cond.instanceMethod ⟨"MownMazeModel", "isNumber", "(I)Z"⟩ : Cond) ∈ WS := ws_t (tb_8 (List.mem_of_getElem? (i := 69) rfl)) rfl
set_option maxRecDepth 20000 in
theorem tw_1750 : (Cond.code ⟨"MownMazeModel", "isNumber", "(I)Z"⟩ prog_13_method_49_code 2 (Option.some FieldType.boolean) : Cond) ∈ WS := ws_t (tb_8 (List.mem_of_getElem? (i := 70) rfl)) rfl
set_option maxRecDepth 20000 in
theorem tw_1751 : (Cond.methodLink "MownMazeLaw" 65 ⟨"MownMazeModel", "longest", "()I"⟩ : Cond) ∈ WS := ws_t (tb_8 (List.mem_of_getElem? (i := 71) rfl)) rfl
set_option maxRecDepth 20000 in
theorem tw_1752 : (Cond.instanceMethod ⟨"MownMazeModel", "longest", "()I"⟩ : Cond) ∈ WS := ws_t (tb_8 (List.mem_of_getElem? (i := 72) rfl)) rfl
set_option maxRecDepth 20000 in
theorem tw_1753 : (Cond.selects "MownMazeModel" ⟨"MownMazeModel", "longest", "()I"⟩ ⟨"MownMazeModel", "longest", "()I"⟩ : Cond) ∈ WS := ws_t (tb_8 (List.mem_of_getElem? (i := 73) rfl)) rfl
set_option maxRecDepth 20000 in
theorem tw_1754 : (Cond.code ⟨"MownMazeModel", "longest", "()I"⟩ prog_13_method_57_code 4 (Option.some FieldType.int) : Cond) ∈ WS := ws_t (tb_8 (List.mem_of_getElem? (i := 74) rfl)) rfl
set_option maxRecDepth 20000 in
theorem tw_1755 : (Cond.methodLink "MownMazeLaw" 69 ⟨"MownMazeModel", "splits", "(II)I"⟩ : Cond) ∈ WS := ws_t (tb_8 (List.mem_of_getElem? (i := 75) rfl)) rfl
set_option maxRecDepth 20000 in
theorem tw_1756 : (Cond.instanceMethod ⟨"MownMazeModel", "splits", "(II)I"⟩ : Cond) ∈ WS := ws_t (tb_8 (List.mem_of_getElem? (i := 76) rfl)) rfl
set_option maxRecDepth 20000 in
theorem tw_1757 : (Cond.selects "MownMazeModel" ⟨"MownMazeModel", "splits", "(II)I"⟩ ⟨"MownMazeModel", "splits", "(II)I"⟩ : Cond) ∈ WS := ws_t (tb_8 (List.mem_of_getElem? (i := 77) rfl)) rfl
set_option maxRecDepth 20000 in
theorem tw_1758 : (Cond.code ⟨"MownMazeModel", "splits", "(II)I"⟩ prog_13_method_58_code 3 (Option.some FieldType.int) : Cond) ∈ WS := ws_t (tb_8 (List.mem_of_getElem? (i := 78) rfl)) rfl
set_option maxRecDepth 20000 in
theorem tw_1759 : (Cond.methodLink "MownMazeModel" 403 ⟨"MownMazeModel", "splitsAt", "(I)Z"⟩ : Cond) ∈ WS := ws_t (tb_8 (List.mem_of_getElem? (i := 79) rfl)) rfl
set_option maxRecDepth 20000 in
theorem tw_1761 : (Cond.instanceMethod ⟨"MownMazeModel", "splitsAt", "(I)Z"⟩ : Cond) ∈ WS := ws_t (tb_8 (List.mem_of_getElem? (i := 81) rfl)) rfl
set_option maxRecDepth 20000 in
theorem tw_1762 : (Cond.code ⟨"MownMazeModel", "splitsAt", "(I)Z"⟩ prog_13_method_46_code 2 (Option.some FieldType.boolean) : Cond) ∈ WS := ws_t (tb_8 (List.mem_of_getElem? (i := 82) rfl)) rfl
set_option maxRecDepth 20000 in
theorem tw_1763 : (Cond.methodLink "MownMazeLaw" 73 ⟨"MownMazeModel", "at", "(II)I"⟩ : Cond) ∈ WS := ws_t (tb_8 (List.mem_of_getElem? (i := 83) rfl)) rfl
set_option maxRecDepth 20000 in
theorem tw_1764 : (Cond.instanceMethod ⟨"MownMazeModel", "at", "(II)I"⟩ : Cond) ∈ WS := ws_t (tb_8 (List.mem_of_getElem? (i := 84) rfl)) rfl
set_option maxRecDepth 20000 in
theorem tw_1765 : (Cond.selects "MownMazeModel" ⟨"MownMazeModel", "at", "(II)I"⟩ ⟨"MownMazeModel", "at", "(II)I"⟩ : Cond) ∈ WS := ws_t (tb_8 (List.mem_of_getElem? (i := 85) rfl)) rfl
set_option maxRecDepth 20000 in
theorem tw_1766 : (Cond.code ⟨"MownMazeModel", "at", "(II)I"⟩ prog_13_method_70_code 3 (Option.some FieldType.int) : Cond) ∈ WS := ws_t (tb_8 (List.mem_of_getElem? (i := 86) rfl)) rfl
set_option maxRecDepth 20000 in
theorem tw_1767 : (Cond.methodLink "MownMazeModel" 452 ⟨"MownMazeModel", "isWalker", "(I)Z"⟩ : Cond) ∈ WS := ws_t (tb_8 (List.mem_of_getElem? (i := 87) rfl)) rfl
set_option maxRecDepth 20000 in
theorem tw_1769 : (Cond.instanceMethod ⟨"MownMazeModel", "isWalker", "(I)Z"⟩ : Cond) ∈ WS := ws_t (tb_8 (List.mem_of_getElem? (i := 89) rfl)) rfl
set_option maxRecDepth 20000 in
theorem tw_1770 : (Cond.code ⟨"MownMazeModel", "isWalker", "(I)Z"⟩ prog_13_method_50_code 2 (Option.some FieldType.boolean) : Cond) ∈ WS := ws_t (tb_8 (List.mem_of_getElem? (i := 90) rfl)) rfl
set_option maxRecDepth 20000 in
theorem tw_1771 : (Cond.methodLink "MownMazeModel" 455 ⟨"MownMazeModel", "walks", "(I)V"⟩ : Cond) ∈ WS := ws_t (tb_8 (List.mem_of_getElem? (i := 91) rfl)) rfl
set_option maxRecDepth 20000 in
theorem tw_1773 : (Cond.instanceMethod ⟨"MownMazeModel", "walks", "(I)V"⟩ : Cond) ∈ WS := ws_t (tb_8 (List.mem_of_getElem? (i := 93) rfl)) rfl
set_option maxRecDepth 20000 in
theorem tw_1774 : (Cond.code ⟨"MownMazeModel", "walks", "(I)V"⟩ prog_13_method_68_code 3 none : Cond) ∈ WS := ws_t (tb_8 (List.mem_of_getElem? (i := 94) rfl)) rfl
set_option maxRecDepth 20000 in
theorem tw_1775 : (Cond.methodLink "MownMazeModel" 443 ⟨"MownMazeModel", "sets", "(I)V"⟩ : Cond) ∈ WS := ws_t (tb_8 (List.mem_of_getElem? (i := 95) rfl)) rfl
set_option maxRecDepth 20000 in
theorem tw_1777 : (Cond.instanceMethod ⟨"MownMazeModel", "sets", "(I)V"⟩ : Cond) ∈ WS := ws_t (tb_8 (List.mem_of_getElem? (i := 97) rfl)) rfl
set_option maxRecDepth 20000 in
theorem tw_1778 : (Cond.code ⟨"MownMazeModel", "sets", "(I)V"⟩ prog_13_method_60_code 3 none : Cond) ∈ WS := ws_t (tb_8 (List.mem_of_getElem? (i := 98) rfl)) rfl
set_option maxRecDepth 20000 in
theorem tw_1779 : (Cond.constant "MownMazeModel" 418 65537 : Cond) ∈ WS := ws_t (tb_8 (List.mem_of_getElem? (i := 99) rfl)) rfl
set_option maxRecDepth 20000 in
theorem tw_1780 : (Cond.methodLink "MownMazeModel" 446 ⟨"MownMazeModel", "goes", "(I)V"⟩ : Cond) ∈ WS := ws_t (tb_8 (List.mem_of_getElem? (i := 100) rfl)) rfl
set_option maxRecDepth 20000 in
theorem tw_1782 : (Cond.instanceMethod ⟨"MownMazeModel", "goes", "(I)V"⟩ : Cond) ∈ WS := ws_t (tb_8 (List.mem_of_getElem? (i := 102) rfl)) rfl
set_option maxRecDepth 20000 in
theorem tw_1783 : (Cond.code ⟨"MownMazeModel", "goes", "(I)V"⟩ prog_13_method_63_code 2 none : Cond) ∈ WS := ws_t (tb_8 (List.mem_of_getElem? (i := 103) rfl)) rfl
set_option maxRecDepth 20000 in
theorem tw_1784 : (Cond.methodLink "MownMazeModel" 422 ⟨"MownMazeModel", "turns", "(I)V"⟩ : Cond) ∈ WS := ws_t (tb_8 (List.mem_of_getElem? (i := 104) rfl)) rfl
set_option maxRecDepth 20000 in
theorem tw_1786 : (Cond.instanceMethod ⟨"MownMazeModel", "turns", "(I)V"⟩ : Cond) ∈ WS := ws_t (tb_8 (List.mem_of_getElem? (i := 106) rfl)) rfl
set_option maxRecDepth 20000 in
theorem tw_1787 : (Cond.code ⟨"MownMazeModel", "turns", "(I)V"⟩ prog_13_method_64_code 5 none : Cond) ∈ WS := ws_t (tb_8 (List.mem_of_getElem? (i := 107) rfl)) rfl
set_option maxRecDepth 20000 in
theorem tw_1788 : (Cond.methodLink "MownMazeModel" 434 ⟨"MownMazeModel", "mownTo", "(I)I"⟩ : Cond) ∈ WS := ws_t (tb_8 (List.mem_of_getElem? (i := 108) rfl)) rfl
set_option maxRecDepth 20000 in
theorem tw_1790 : (Cond.instanceMethod ⟨"MownMazeModel", "mownTo", "(I)I"⟩ : Cond) ∈ WS := ws_t (tb_8 (List.mem_of_getElem? (i := 110) rfl)) rfl
set_option maxRecDepth 20000 in
theorem tw_1791 : (Cond.code ⟨"MownMazeModel", "mownTo", "(I)I"⟩ prog_13_method_61_code 3 (Option.some FieldType.int) : Cond) ∈ WS := ws_t (tb_8 (List.mem_of_getElem? (i := 111) rfl)) rfl
set_option maxRecDepth 20000 in
theorem tw_1792 : (Cond.methodLink "MownMazeModel" 425 ⟨"MownMazeModel", "goesOnce", "()V"⟩ : Cond) ∈ WS := ws_t (tb_8 (List.mem_of_getElem? (i := 112) rfl)) rfl
set_option maxRecDepth 20000 in
theorem tw_1794 : (Cond.instanceMethod ⟨"MownMazeModel", "goesOnce", "()V"⟩ : Cond) ∈ WS := ws_t (tb_8 (List.mem_of_getElem? (i := 114) rfl)) rfl
set_option maxRecDepth 20000 in
theorem tw_1795 : (Cond.code ⟨"MownMazeModel", "goesOnce", "()V"⟩ prog_13_method_65_code 3 none : Cond) ∈ WS := ws_t (tb_8 (List.mem_of_getElem? (i := 115) rfl)) rfl
set_option maxRecDepth 20000 in
theorem tw_1796 : (Cond.methodLink "MownMazeModel" 428 ⟨"MownMazeModel", "goesToNoise", "()V"⟩ : Cond) ∈ WS := ws_t (tb_8 (List.mem_of_getElem? (i := 116) rfl)) rfl
set_option maxRecDepth 20000 in
theorem tw_1798 : (Cond.instanceMethod ⟨"MownMazeModel", "goesToNoise", "()V"⟩ : Cond) ∈ WS := ws_t (tb_8 (List.mem_of_getElem? (i := 118) rfl)) rfl
set_option maxRecDepth 20000 in
theorem tw_1799 : (Cond.code ⟨"MownMazeModel", "goesToNoise", "()V"⟩ prog_13_method_66_code 4 none : Cond) ∈ WS := ws_t (tb_8 (List.mem_of_getElem? (i := 119) rfl)) rfl
set_option maxRecDepth 20000 in
theorem tw_1800 : (Cond.methodLink "MownMazeModel" 431 ⟨"MownMazeModel", "goesByLot", "()V"⟩ : Cond) ∈ WS := ws_t (tb_8 (List.mem_of_getElem? (i := 120) rfl)) rfl
set_option maxRecDepth 20000 in
theorem tw_1802 : (Cond.instanceMethod ⟨"MownMazeModel", "goesByLot", "()V"⟩ : Cond) ∈ WS := ws_t (tb_8 (List.mem_of_getElem? (i := 122) rfl)) rfl
set_option maxRecDepth 20000 in
theorem tw_1803 : (Cond.code ⟨"MownMazeModel", "goesByLot", "()V"⟩ prog_13_method_67_code 6 none : Cond) ∈ WS := ws_t (tb_8 (List.mem_of_getElem? (i := 123) rfl)) rfl
set_option maxRecDepth 20000 in
theorem tw_1804 : (Cond.methodLink "MownMazeModel" 437 ⟨"MownMazeModel", "drawn", "(I)I"⟩ : Cond) ∈ WS := ws_t (tb_8 (List.mem_of_getElem? (i := 124) rfl)) rfl
set_option maxRecDepth 20000 in
theorem tw_1805 : (Cond.static ⟨"MownMazeModel", "drawn", "(I)I"⟩ : Cond) ∈ WS := ws_t (tb_8 (List.mem_of_getElem? (i := 125) rfl)) rfl
set_option maxRecDepth 20000 in
theorem tw_1806 : (Cond.code ⟨"MownMazeModel", "drawn", "(I)I"⟩ prog_13_method_59_code 1 (Option.some FieldType.int) : Cond) ∈ WS := ws_t (tb_8 (List.mem_of_getElem? (i := 126) rfl)) rfl
set_option maxRecDepth 20000 in
theorem tw_1807 : (Cond.constantLong "MownMazeModel" 406 75 : Cond) ∈ WS := ws_t (tb_8 (List.mem_of_getElem? (i := 127) rfl)) rfl
set_option maxRecDepth 20000 in
theorem tw_1808 : (Cond.constantLong "MownMazeModel" 408 74 : Cond) ∈ WS := ws_t (tb_8 (List.mem_of_getElem? (i := 128) rfl)) rfl
set_option maxRecDepth 20000 in
theorem tw_1809 : (Cond.constantLong "MownMazeModel" 410 65537 : Cond) ∈ WS := ws_t (tb_8 (List.mem_of_getElem? (i := 129) rfl)) rfl
set_option maxRecDepth 20000 in
theorem tw_1810 : (Cond.methodLink "MownMazeModel" 449 ⟨"MownMazeModel", "isGate", "(I)Z"⟩ : Cond) ∈ WS := ws_t (tb_8 (List.mem_of_getElem? (i := 130) rfl)) rfl
set_option maxRecDepth 20000 in
theorem tw_1812 : (Cond.instanceMethod ⟨"MownMazeModel", "isGate", "(I)Z"⟩ : Cond) ∈ WS := ws_t (tb_8 (List.mem_of_getElem? (i := 132) rfl)) rfl
set_option maxRecDepth 20000 in
theorem tw_1813 : (Cond.code ⟨"MownMazeModel", "isGate", "(I)Z"⟩ prog_13_method_62_code 2 (Option.some FieldType.boolean) : Cond) ∈ WS := ws_t (tb_8 (List.mem_of_getElem? (i := 133) rfl)) rfl
set_option maxRecDepth 20000 in
theorem tw_1814 : (Cond.methodLink "MownMazeLaw" 77 ⟨"MownMazeModel", "out", "(I)I"⟩ : Cond) ∈ WS := ws_t (tb_8 (List.mem_of_getElem? (i := 134) rfl)) rfl
set_option maxRecDepth 20000 in
theorem tw_1815 : (Cond.instanceMethod ⟨"MownMazeModel", "out", "(I)I"⟩ : Cond) ∈ WS := ws_t (tb_8 (List.mem_of_getElem? (i := 135) rfl)) rfl
set_option maxRecDepth 20000 in
theorem tw_1816 : (Cond.selects "MownMazeModel" ⟨"MownMazeModel", "out", "(I)I"⟩ ⟨"MownMazeModel", "out", "(I)I"⟩ : Cond) ∈ WS := ws_t (tb_8 (List.mem_of_getElem? (i := 136) rfl)) rfl
set_option maxRecDepth 20000 in
theorem tw_1817 : (Cond.code ⟨"MownMazeModel", "out", "(I)I"⟩ prog_13_method_71_code 2 (Option.some FieldType.int) : Cond) ∈ WS := ws_t (tb_8 (List.mem_of_getElem? (i := 137) rfl)) rfl
set_option maxRecDepth 20000 in
theorem tw_1818 : (Cond.methodLink "MownMazeLaw" 81 ⟨"MownMazeModel", "ever", "(I)I"⟩ : Cond) ∈ WS := ws_t (tb_8 (List.mem_of_getElem? (i := 138) rfl)) rfl
set_option maxRecDepth 20000 in
theorem tw_1819 : (Cond.instanceMethod ⟨"MownMazeModel", "ever", "(I)I"⟩ : Cond) ∈ WS := ws_t (tb_8 (List.mem_of_getElem? (i := 139) rfl)) rfl
set_option maxRecDepth 20000 in
theorem tw_1820 : (Cond.selects "MownMazeModel" ⟨"MownMazeModel", "ever", "(I)I"⟩ ⟨"MownMazeModel", "ever", "(I)I"⟩ : Cond) ∈ WS := ws_t (tb_8 (List.mem_of_getElem? (i := 140) rfl)) rfl
set_option maxRecDepth 20000 in
theorem tw_1821 : (Cond.code ⟨"MownMazeModel", "ever", "(I)I"⟩ prog_13_method_73_code 2 (Option.some FieldType.int) : Cond) ∈ WS := ws_t (tb_8 (List.mem_of_getElem? (i := 141) rfl)) rfl
set_option maxRecDepth 20000 in
theorem tw_1822 : (Cond.methodLink "MownMazeModel" 458 ⟨"MownMazeModel", "ringOf", "(I)I"⟩ : Cond) ∈ WS := ws_t (tb_8 (List.mem_of_getElem? (i := 142) rfl)) rfl
set_option maxRecDepth 20000 in
theorem tw_1824 : (Cond.instanceMethod ⟨"MownMazeModel", "ringOf", "(I)I"⟩ : Cond) ∈ WS := ws_t (tb_8 (List.mem_of_getElem? (i := 144) rfl)) rfl
set_option maxRecDepth 20000 in
theorem tw_1825 : (Cond.code ⟨"MownMazeModel", "ringOf", "(I)I"⟩ prog_13_method_72_code 5 (Option.some FieldType.int) : Cond) ∈ WS := ws_t (tb_8 (List.mem_of_getElem? (i := 145) rfl)) rfl
set_option maxRecDepth 20000 in
theorem tw_1826 : (Cond.methodLink "MownMazeLaw" 85 ⟨"MownMazeModel", "ring", "(I)I"⟩ : Cond) ∈ WS := ws_t (tb_8 (List.mem_of_getElem? (i := 146) rfl)) rfl
set_option maxRecDepth 20000 in
theorem tw_1827 : (Cond.instanceMethod ⟨"MownMazeModel", "ring", "(I)I"⟩ : Cond) ∈ WS := ws_t (tb_8 (List.mem_of_getElem? (i := 147) rfl)) rfl
set_option maxRecDepth 20000 in
theorem tw_1828 : (Cond.selects "MownMazeModel" ⟨"MownMazeModel", "ring", "(I)I"⟩ ⟨"MownMazeModel", "ring", "(I)I"⟩ : Cond) ∈ WS := ws_t (tb_8 (List.mem_of_getElem? (i := 148) rfl)) rfl
set_option maxRecDepth 20000 in
theorem tw_1829 : (Cond.code ⟨"MownMazeModel", "ring", "(I)I"⟩ prog_13_method_74_code 3 (Option.some FieldType.int) : Cond) ∈ WS := ws_t (tb_8 (List.mem_of_getElem? (i := 149) rfl)) rfl
set_option maxRecDepth 20000 in
theorem tw_1830 : (Cond.methodLink "MownMazeLaw" 89 ⟨"MownMazeModel", "meets", "(II)I"⟩ : Cond) ∈ WS := ws_t (tb_8 (List.mem_of_getElem? (i := 150) rfl)) rfl
set_option maxRecDepth 20000 in
theorem tw_1831 : (Cond.instanceMethod ⟨"MownMazeModel", "meets", "(II)I"⟩ : Cond) ∈ WS := ws_t (tb_8 (List.mem_of_getElem? (i := 151) rfl)) rfl
set_option maxRecDepth 20000 in
theorem tw_1832 : (Cond.selects "MownMazeModel" ⟨"MownMazeModel", "meets", "(II)I"⟩ ⟨"MownMazeModel", "meets", "(II)I"⟩ : Cond) ∈ WS := ws_t (tb_8 (List.mem_of_getElem? (i := 152) rfl)) rfl
set_option maxRecDepth 20000 in
theorem tw_1833 : (Cond.code ⟨"MownMazeModel", "meets", "(II)I"⟩ prog_13_method_75_code 4 (Option.some FieldType.int) : Cond) ∈ WS := ws_t (tb_8 (List.mem_of_getElem? (i := 153) rfl)) rfl
set_option maxRecDepth 20000 in
theorem tw_1834 : (Cond.methodLink "MownMazeLaw" 93 ⟨"MownMazeModel", "shouts", "(I)I"⟩ : Cond) ∈ WS := ws_t (tb_8 (List.mem_of_getElem? (i := 154) rfl)) rfl
set_option maxRecDepth 20000 in
theorem tw_1835 : (Cond.instanceMethod ⟨"MownMazeModel", "shouts", "(I)I"⟩ : Cond) ∈ WS := ws_t (tb_8 (List.mem_of_getElem? (i := 155) rfl)) rfl
set_option maxRecDepth 20000 in
theorem tw_1836 : (Cond.selects "MownMazeModel" ⟨"MownMazeModel", "shouts", "(I)I"⟩ ⟨"MownMazeModel", "shouts", "(I)I"⟩ : Cond) ∈ WS := ws_t (tb_8 (List.mem_of_getElem? (i := 156) rfl)) rfl
set_option maxRecDepth 20000 in
theorem tw_1837 : (Cond.code ⟨"MownMazeModel", "shouts", "(I)I"⟩ prog_13_method_76_code 2 (Option.some FieldType.int) : Cond) ∈ WS := ws_t (tb_8 (List.mem_of_getElem? (i := 157) rfl)) rfl
set_option maxRecDepth 20000 in
theorem tw_1838 : (Cond.methodLink "MownMazeModel" 461 ⟨"MownMazeModel", "there", "(I)I"⟩ : Cond) ∈ WS := ws_t (tb_8 (List.mem_of_getElem? (i := 158) rfl)) rfl
set_option maxRecDepth 20000 in
theorem tw_1840 : (Cond.instanceMethod ⟨"MownMazeModel", "there", "(I)I"⟩ : Cond) ∈ WS := ws_t (tb_8 (List.mem_of_getElem? (i := 160) rfl)) rfl
set_option maxRecDepth 20000 in
theorem tw_1841 : (Cond.code ⟨"MownMazeModel", "there", "(I)I"⟩ prog_13_method_69_code 3 (Option.some FieldType.int) : Cond) ∈ WS := ws_t (tb_8 (List.mem_of_getElem? (i := 161) rfl)) rfl
set_option maxRecDepth 20000 in
theorem tw_1842 : (Cond.methodLink "MownMazeLaw" 97 ⟨"MownMazeModel", "visits", "(I)I"⟩ : Cond) ∈ WS := ws_t (tb_8 (List.mem_of_getElem? (i := 162) rfl)) rfl
set_option maxRecDepth 20000 in
theorem tw_1843 : (Cond.instanceMethod ⟨"MownMazeModel", "visits", "(I)I"⟩ : Cond) ∈ WS := ws_t (tb_8 (List.mem_of_getElem? (i := 163) rfl)) rfl
set_option maxRecDepth 20000 in
theorem tw_1844 : (Cond.selects "MownMazeModel" ⟨"MownMazeModel", "visits", "(I)I"⟩ ⟨"MownMazeModel", "visits", "(I)I"⟩ : Cond) ∈ WS := ws_t (tb_8 (List.mem_of_getElem? (i := 164) rfl)) rfl
set_option maxRecDepth 20000 in
theorem tw_1845 : (Cond.code ⟨"MownMazeModel", "visits", "(I)I"⟩ prog_13_method_77_code 5 (Option.some FieldType.int) : Cond) ∈ WS := ws_t (tb_8 (List.mem_of_getElem? (i := 165) rfl)) rfl
set_option maxRecDepth 20000 in
theorem tw_1846 : (Cond.methodLink "MownMazeLaw" 101 ⟨"MownMazeModel", "crowd", "(I)I"⟩ : Cond) ∈ WS := ws_t (tb_8 (List.mem_of_getElem? (i := 166) rfl)) rfl
set_option maxRecDepth 20000 in
theorem tw_1847 : (Cond.instanceMethod ⟨"MownMazeModel", "crowd", "(I)I"⟩ : Cond) ∈ WS := ws_t (tb_8 (List.mem_of_getElem? (i := 167) rfl)) rfl
set_option maxRecDepth 20000 in
theorem tw_1848 : (Cond.selects "MownMazeModel" ⟨"MownMazeModel", "crowd", "(I)I"⟩ ⟨"MownMazeModel", "crowd", "(I)I"⟩ : Cond) ∈ WS := ws_t (tb_8 (List.mem_of_getElem? (i := 168) rfl)) rfl
set_option maxRecDepth 20000 in
theorem tw_1849 : (Cond.code ⟨"MownMazeModel", "crowd", "(I)I"⟩ prog_13_method_78_code 4 (Option.some FieldType.int) : Cond) ∈ WS := ws_t (tb_8 (List.mem_of_getElem? (i := 169) rfl)) rfl
set_option maxRecDepth 20000 in
theorem tw_1850 : (Cond.methodLink "MownMazeLaw" 105 ⟨"MownMazeModel", "paid", "()I"⟩ : Cond) ∈ WS := ws_t (tb_8 (List.mem_of_getElem? (i := 170) rfl)) rfl
set_option maxRecDepth 20000 in
theorem tw_1851 : (Cond.instanceMethod ⟨"MownMazeModel", "paid", "()I"⟩ : Cond) ∈ WS := ws_t (tb_8 (List.mem_of_getElem? (i := 171) rfl)) rfl
set_option maxRecDepth 20000 in
theorem tw_1852 : (Cond.selects "MownMazeModel" ⟨"MownMazeModel", "paid", "()I"⟩ ⟨"MownMazeModel", "paid", "()I"⟩ : Cond) ∈ WS := ws_t (tb_8 (List.mem_of_getElem? (i := 172) rfl)) rfl
set_option maxRecDepth 20000 in
theorem tw_1853 : (Cond.code ⟨"MownMazeModel", "paid", "()I"⟩ prog_13_method_80_code 1 (Option.some FieldType.int) : Cond) ∈ WS := ws_t (tb_8 (List.mem_of_getElem? (i := 173) rfl)) rfl
set_option maxRecDepth 20000 in
theorem tw_1854 : (Cond.methodLink "MownMazeModel" 467 ⟨"MownMazeModel", "paidNow", "()I"⟩ : Cond) ∈ WS := ws_t (tb_8 (List.mem_of_getElem? (i := 174) rfl)) rfl
set_option maxRecDepth 20000 in
theorem tw_1856 : (Cond.instanceMethod ⟨"MownMazeModel", "paidNow", "()I"⟩ : Cond) ∈ WS := ws_t (tb_8 (List.mem_of_getElem? (i := 176) rfl)) rfl
set_option maxRecDepth 20000 in
theorem tw_1857 : (Cond.code ⟨"MownMazeModel", "paidNow", "()I"⟩ prog_13_method_79_code 3 (Option.some FieldType.int) : Cond) ∈ WS := ws_t (tb_8 (List.mem_of_getElem? (i := 177) rfl)) rfl
set_option maxRecDepth 20000 in
theorem tw_1858 : (Cond.methodLink "MownMazeLaw" 109 ⟨"MownMazeModel", "stuck", "()I"⟩ : Cond) ∈ WS := ws_t (tb_8 (List.mem_of_getElem? (i := 178) rfl)) rfl
set_option maxRecDepth 20000 in
theorem tw_1859 : (Cond.instanceMethod ⟨"MownMazeModel", "stuck", "()I"⟩ : Cond) ∈ WS := ws_t (tb_8 (List.mem_of_getElem? (i := 179) rfl)) rfl
set_option maxRecDepth 20000 in
theorem tw_1860 : (Cond.selects "MownMazeModel" ⟨"MownMazeModel", "stuck", "()I"⟩ ⟨"MownMazeModel", "stuck", "()I"⟩ : Cond) ∈ WS := ws_t (tb_8 (List.mem_of_getElem? (i := 180) rfl)) rfl
set_option maxRecDepth 20000 in
theorem tw_1861 : (Cond.code ⟨"MownMazeModel", "stuck", "()I"⟩ prog_13_method_81_code 1 (Option.some FieldType.int) : Cond) ∈ WS := ws_t (tb_8 (List.mem_of_getElem? (i := 181) rfl)) rfl
set_option maxRecDepth 20000 in
theorem tw_1862 : (Cond.methodLink "MownMazeLaw" 114 ⟨"MownMazeModel", "caught", "(III)I"⟩ : Cond) ∈ WS := ws_t (tb_8 (List.mem_of_getElem? (i := 182) rfl)) rfl
set_option maxRecDepth 20000 in
theorem tw_1863 : (Cond.instanceMethod ⟨"MownMazeModel", "caught", "(III)I"⟩ : Cond) ∈ WS := ws_t (tb_8 (List.mem_of_getElem? (i := 183) rfl)) rfl
set_option maxRecDepth 20000 in
theorem tw_1864 : (Cond.selects "MownMazeModel" ⟨"MownMazeModel", "caught", "(III)I"⟩ ⟨"MownMazeModel", "caught", "(III)I"⟩ : Cond) ∈ WS := ws_t (tb_8 (List.mem_of_getElem? (i := 184) rfl)) rfl
set_option maxRecDepth 20000 in
theorem tw_1865 : (Cond.code ⟨"MownMazeModel", "caught", "(III)I"⟩ prog_13_method_82_code 5 (Option.some FieldType.int) : Cond) ∈ WS := ws_t (tb_8 (List.mem_of_getElem? (i := 185) rfl)) rfl
set_option maxRecDepth 20000 in
theorem tw_1866 : (Cond.methodLink "MownMazeLaw" 119 ⟨"MownMazeModel", "unlike", "(Z)I"⟩ : Cond) ∈ WS := ws_t (tb_8 (List.mem_of_getElem? (i := 186) rfl)) rfl
set_option maxRecDepth 20000 in
theorem tw_1867 : (Cond.instanceMethod ⟨"MownMazeModel", "unlike", "(Z)I"⟩ : Cond) ∈ WS := ws_t (tb_8 (List.mem_of_getElem? (i := 187) rfl)) rfl
set_option maxRecDepth 20000 in
theorem tw_1868 : (Cond.selects "MownMazeModel" ⟨"MownMazeModel", "unlike", "(Z)I"⟩ ⟨"MownMazeModel", "unlike", "(Z)I"⟩ : Cond) ∈ WS := ws_t (tb_8 (List.mem_of_getElem? (i := 188) rfl)) rfl
set_option maxRecDepth 20000 in
theorem tw_1869 : (Cond.code ⟨"MownMazeModel", "unlike", "(Z)I"⟩ prog_13_method_86_code 2 (Option.some FieldType.int) : Cond) ∈ WS := ws_t (tb_8 (List.mem_of_getElem? (i := 189) rfl)) rfl
set_option maxRecDepth 20000 in
theorem tw_1870 : (Cond.methodLink "MownMazeModel" 470 ⟨"MownMazeModel", "unlikeNow", "(Z)J"⟩ : Cond) ∈ WS := ws_t (tb_8 (List.mem_of_getElem? (i := 190) rfl)) rfl
set_option maxRecDepth 20000 in
theorem tw_1872 : (Cond.instanceMethod ⟨"MownMazeModel", "unlikeNow", "(Z)J"⟩ : Cond) ∈ WS := ws_t (tb_8 (List.mem_of_getElem? (i := 192) rfl)) rfl
set_option maxRecDepth 20000 in
theorem tw_1873 : (Cond.code ⟨"MownMazeModel", "unlikeNow", "(Z)J"⟩ prog_13_method_83_code 2 (Option.some FieldType.long) : Cond) ∈ WS := ws_t (tb_8 (List.mem_of_getElem? (i := 193) rfl)) rfl
set_option maxRecDepth 20000 in
theorem tw_1874 : (Cond.methodLink "MownMazeLaw" 123 ⟨"MownMazeModel", "firstUnlike", "(Z)I"⟩ : Cond) ∈ WS := ws_t (tb_8 (List.mem_of_getElem? (i := 194) rfl)) rfl
set_option maxRecDepth 20000 in
theorem tw_1875 : (Cond.instanceMethod ⟨"MownMazeModel", "firstUnlike", "(Z)I"⟩ : Cond) ∈ WS := ws_t (tb_8 (List.mem_of_getElem? (i := 195) rfl)) rfl
set_option maxRecDepth 20000 in
theorem tw_1876 : (Cond.selects "MownMazeModel" ⟨"MownMazeModel", "firstUnlike", "(Z)I"⟩ ⟨"MownMazeModel", "firstUnlike", "(Z)I"⟩ : Cond) ∈ WS := ws_t (tb_8 (List.mem_of_getElem? (i := 196) rfl)) rfl
set_option maxRecDepth 20000 in
theorem tw_1877 : (Cond.code ⟨"MownMazeModel", "firstUnlike", "(Z)I"⟩ prog_13_method_87_code 2 (Option.some FieldType.int) : Cond) ∈ WS := ws_t (tb_8 (List.mem_of_getElem? (i := 197) rfl)) rfl
set_option maxRecDepth 20000 in
theorem tw_1878 : (Cond.methodLink "MownMazeLaw" 127 ⟨"MownMazeModel", "clash", "()I"⟩ : Cond) ∈ WS := ws_t (tb_8 (List.mem_of_getElem? (i := 198) rfl)) rfl
set_option maxRecDepth 20000 in
theorem tw_1879 : (Cond.instanceMethod ⟨"MownMazeModel", "clash", "()I"⟩ : Cond) ∈ WS := ws_t (tb_8 (List.mem_of_getElem? (i := 199) rfl)) rfl
set_option maxRecDepth 20000 in
theorem tw_1880 : (Cond.selects "MownMazeModel" ⟨"MownMazeModel", "clash", "()I"⟩ ⟨"MownMazeModel", "clash", "()I"⟩ : Cond) ∈ WS := ws_t (tb_8 (List.mem_of_getElem? (i := 200) rfl)) rfl
set_option maxRecDepth 20000 in
theorem tw_1881 : (Cond.code ⟨"MownMazeModel", "clash", "()I"⟩ prog_13_method_88_code 1 (Option.some FieldType.int) : Cond) ∈ WS := ws_t (tb_8 (List.mem_of_getElem? (i := 201) rfl)) rfl
set_option maxRecDepth 20000 in
theorem tw_1882 : (Cond.methodLink "MownMazeModel" 474 ⟨"MownMazeModel", "clashNow", "()J"⟩ : Cond) ∈ WS := ws_t (tb_8 (List.mem_of_getElem? (i := 202) rfl)) rfl
set_option maxRecDepth 20000 in
theorem tw_1884 : (Cond.instanceMethod ⟨"MownMazeModel", "clashNow", "()J"⟩ : Cond) ∈ WS := ws_t (tb_8 (List.mem_of_getElem? (i := 204) rfl)) rfl
set_option maxRecDepth 20000 in
theorem tw_1885 : (Cond.code ⟨"MownMazeModel", "clashNow", "()J"⟩ prog_13_method_84_code 1 (Option.some FieldType.long) : Cond) ∈ WS := ws_t (tb_8 (List.mem_of_getElem? (i := 205) rfl)) rfl
set_option maxRecDepth 20000 in
theorem tw_1886 : (Cond.methodLink "MownMazeLaw" 131 ⟨"MownMazeModel", "changes", "()I"⟩ : Cond) ∈ WS := ws_t (tb_8 (List.mem_of_getElem? (i := 206) rfl)) rfl
set_option maxRecDepth 20000 in
theorem tw_1887 : (Cond.instanceMethod ⟨"MownMazeModel", "changes", "()I"⟩ : Cond) ∈ WS := ws_t (tb_8 (List.mem_of_getElem? (i := 207) rfl)) rfl
set_option maxRecDepth 20000 in
theorem tw_1888 : (Cond.selects "MownMazeModel" ⟨"MownMazeModel", "changes", "()I"⟩ ⟨"MownMazeModel", "changes", "()I"⟩ : Cond) ∈ WS := ws_t (tb_8 (List.mem_of_getElem? (i := 208) rfl)) rfl
set_option maxRecDepth 20000 in
theorem tw_1889 : (Cond.code ⟨"MownMazeModel", "changes", "()I"⟩ prog_13_method_89_code 1 (Option.some FieldType.int) : Cond) ∈ WS := ws_t (tb_8 (List.mem_of_getElem? (i := 209) rfl)) rfl
set_option maxRecDepth 20000 in
theorem tw_1890 : (Cond.methodLink "MownMazeLaw" 135 ⟨"MownMazeModel", "toMow", "()I"⟩ : Cond) ∈ WS := ws_t (tb_8 (List.mem_of_getElem? (i := 210) rfl)) rfl
set_option maxRecDepth 20000 in
theorem tw_1891 : (Cond.instanceMethod ⟨"MownMazeModel", "toMow", "()I"⟩ : Cond) ∈ WS := ws_t (tb_8 (List.mem_of_getElem? (i := 211) rfl)) rfl
set_option maxRecDepth 20000 in
theorem tw_1892 : (Cond.selects "MownMazeModel" ⟨"MownMazeModel", "toMow", "()I"⟩ ⟨"MownMazeModel", "toMow", "()I"⟩ : Cond) ∈ WS := ws_t (tb_8 (List.mem_of_getElem? (i := 212) rfl)) rfl
set_option maxRecDepth 20000 in
theorem tw_1893 : (Cond.code ⟨"MownMazeModel", "toMow", "()I"⟩ prog_13_method_90_code 1 (Option.some FieldType.int) : Cond) ∈ WS := ws_t (tb_8 (List.mem_of_getElem? (i := 213) rfl)) rfl
set_option maxRecDepth 20000 in
theorem tw_1894 : (Cond.methodLink "MownMazeModel" 478 ⟨"MownMazeModel", "toMowNow", "()J"⟩ : Cond) ∈ WS := ws_t (tb_8 (List.mem_of_getElem? (i := 214) rfl)) rfl
set_option maxRecDepth 20000 in
theorem tw_1896 : (Cond.instanceMethod ⟨"MownMazeModel", "toMowNow", "()J"⟩ : Cond) ∈ WS := ws_t (tb_8 (List.mem_of_getElem? (i := 216) rfl)) rfl
set_option maxRecDepth 20000 in
theorem tw_1897 : (Cond.code ⟨"MownMazeModel", "toMowNow", "()J"⟩ prog_13_method_85_code 1 (Option.some FieldType.long) : Cond) ∈ WS := ws_t (tb_8 (List.mem_of_getElem? (i := 217) rfl)) rfl
set_option maxRecDepth 20000 in
theorem tw_1898 : (Cond.methodLink "MownMazeLaw" 139 ⟨"MownMazeModel", "strokes", "()I"⟩ : Cond) ∈ WS := ws_t (tb_8 (List.mem_of_getElem? (i := 218) rfl)) rfl
set_option maxRecDepth 20000 in
theorem tw_1899 : (Cond.instanceMethod ⟨"MownMazeModel", "strokes", "()I"⟩ : Cond) ∈ WS := ws_t (tb_8 (List.mem_of_getElem? (i := 219) rfl)) rfl
set_option maxRecDepth 20000 in
theorem tw_1900 : (Cond.selects "MownMazeModel" ⟨"MownMazeModel", "strokes", "()I"⟩ ⟨"MownMazeModel", "strokes", "()I"⟩ : Cond) ∈ WS := ws_t (tb_8 (List.mem_of_getElem? (i := 220) rfl)) rfl
set_option maxRecDepth 20000 in
theorem tw_1901 : (Cond.code ⟨"MownMazeModel", "strokes", "()I"⟩ prog_13_method_94_code 1 (Option.some FieldType.int) : Cond) ∈ WS := ws_t (tb_8 (List.mem_of_getElem? (i := 221) rfl)) rfl
set_option maxRecDepth 20000 in
theorem tw_1902 : (Cond.methodLink "MownMazeModel" 488 ⟨"MownMazeModel", "strokesNow", "()I"⟩ : Cond) ∈ WS := ws_t (tb_8 (List.mem_of_getElem? (i := 222) rfl)) rfl
set_option maxRecDepth 20000 in
theorem tw_1904 : (Cond.instanceMethod ⟨"MownMazeModel", "strokesNow", "()I"⟩ : Cond) ∈ WS := ws_t (tb_8 (List.mem_of_getElem? (i := 224) rfl)) rfl
set_option maxRecDepth 20000 in
theorem tw_1905 : (Cond.code ⟨"MownMazeModel", "strokesNow", "()I"⟩ prog_13_method_91_code 6 (Option.some FieldType.int) : Cond) ∈ WS := ws_t (tb_8 (List.mem_of_getElem? (i := 225) rfl)) rfl
set_option maxRecDepth 20000 in
theorem tw_1906 : (Cond.methodLink "MownMazeModel" 481 ⟨"MownMazeModel", "strokesTo", "(III)I"⟩ : Cond) ∈ WS := ws_t (tb_8 (List.mem_of_getElem? (i := 226) rfl)) rfl
set_option maxRecDepth 20000 in
theorem tw_1908 : (Cond.instanceMethod ⟨"MownMazeModel", "strokesTo", "(III)I"⟩ : Cond) ∈ WS := ws_t (tb_8 (List.mem_of_getElem? (i := 228) rfl)) rfl
set_option maxRecDepth 20000 in
theorem tw_1909 : (Cond.code ⟨"MownMazeModel", "strokesTo", "(III)I"⟩ prog_13_method_92_code 7 (Option.some FieldType.int) : Cond) ∈ WS := ws_t (tb_8 (List.mem_of_getElem? (i := 229) rfl)) rfl
set_option maxRecDepth 20000 in
theorem tw_1910 : (Cond.methodLink "MownMazeModel" 485 ⟨"MownMazeModel", "isBeside", "(II)Z"⟩ : Cond) ∈ WS := ws_t (tb_8 (List.mem_of_getElem? (i := 230) rfl)) rfl
set_option maxRecDepth 20000 in
theorem tw_1912 : (Cond.instanceMethod ⟨"MownMazeModel", "isBeside", "(II)Z"⟩ : Cond) ∈ WS := ws_t (tb_8 (List.mem_of_getElem? (i := 232) rfl)) rfl
set_option maxRecDepth 20000 in
theorem tw_1913 : (Cond.code ⟨"MownMazeModel", "isBeside", "(II)Z"⟩ prog_13_method_93_code 4 (Option.some FieldType.boolean) : Cond) ∈ WS := ws_t (tb_8 (List.mem_of_getElem? (i := 233) rfl)) rfl
set_option maxRecDepth 20000 in
theorem tw_1914 : (Cond.methodLink "MownMazeLaw" 143 ⟨"MownMazeModel", "shut", "(II)I"⟩ : Cond) ∈ WS := ws_t (tb_8 (List.mem_of_getElem? (i := 234) rfl)) rfl
set_option maxRecDepth 20000 in
theorem tw_1915 : (Cond.instanceMethod ⟨"MownMazeModel", "shut", "(II)I"⟩ : Cond) ∈ WS := ws_t (tb_8 (List.mem_of_getElem? (i := 235) rfl)) rfl
set_option maxRecDepth 20000 in
theorem tw_1916 : (Cond.selects "MownMazeModel" ⟨"MownMazeModel", "shut", "(II)I"⟩ ⟨"MownMazeModel", "shut", "(II)I"⟩ : Cond) ∈ WS := ws_t (tb_8 (List.mem_of_getElem? (i := 236) rfl)) rfl
set_option maxRecDepth 20000 in
theorem tw_1917 : (Cond.code ⟨"MownMazeModel", "shut", "(II)I"⟩ prog_13_method_96_code 6 (Option.some FieldType.int) : Cond) ∈ WS := ws_t (tb_8 (List.mem_of_getElem? (i := 237) rfl)) rfl
set_option maxRecDepth 20000 in
theorem tw_1918 : (Cond.methodLink "MownMazeModel" 491 ⟨"MownMazeModel", "weekOf", "(J)J"⟩ : Cond) ∈ WS := ws_t (tb_8 (List.mem_of_getElem? (i := 238) rfl)) rfl
set_option maxRecDepth 20000 in
theorem tw_1920 : (Cond.instanceMethod ⟨"MownMazeModel", "weekOf", "(J)J"⟩ : Cond) ∈ WS := ws_t (tb_9 (List.mem_of_getElem? (i := 0) rfl)) rfl
set_option maxRecDepth 20000 in
theorem tw_1921 : (Cond.code ⟨"MownMazeModel", "weekOf", "(J)J"⟩ prog_13_method_95_code 6 (Option.some FieldType.long) : Cond) ∈ WS := ws_t (tb_9 (List.mem_of_getElem? (i := 1) rfl)) rfl
set_option maxRecDepth 20000 in
theorem tw_1922 : (Cond.methodLink "MownMazeLaw" 147 ⟨"MownMazeModel", "shutWays", "()I"⟩ : Cond) ∈ WS := ws_t (tb_9 (List.mem_of_getElem? (i := 2) rfl)) rfl
set_option maxRecDepth 20000 in
theorem tw_1923 : (Cond.instanceMethod ⟨"MownMazeModel", "shutWays", "()I"⟩ : Cond) ∈ WS := ws_t (tb_9 (List.mem_of_getElem? (i := 3) rfl)) rfl
set_option maxRecDepth 20000 in
theorem tw_1924 : (Cond.selects "MownMazeModel" ⟨"MownMazeModel", "shutWays", "()I"⟩ ⟨"MownMazeModel", "shutWays", "()I"⟩ : Cond) ∈ WS := ws_t (tb_9 (List.mem_of_getElem? (i := 4) rfl)) rfl
set_option maxRecDepth 20000 in
theorem tw_1925 : (Cond.code ⟨"MownMazeModel", "shutWays", "()I"⟩ prog_13_method_98_code 4 (Option.some FieldType.int) : Cond) ∈ WS := ws_t (tb_9 (List.mem_of_getElem? (i := 5) rfl)) rfl
set_option maxRecDepth 20000 in
theorem tw_1926 : (Cond.methodLink "MownMazeModel" 495 ⟨"MownMazeModel", "hasWay", "(J)Z"⟩ : Cond) ∈ WS := ws_t (tb_9 (List.mem_of_getElem? (i := 6) rfl)) rfl
set_option maxRecDepth 20000 in
theorem tw_1928 : (Cond.instanceMethod ⟨"MownMazeModel", "hasWay", "(J)Z"⟩ : Cond) ∈ WS := ws_t (tb_9 (List.mem_of_getElem? (i := 8) rfl)) rfl
set_option maxRecDepth 20000 in
theorem tw_1929 : (Cond.code ⟨"MownMazeModel", "hasWay", "(J)Z"⟩ prog_13_method_97_code 5 (Option.some FieldType.boolean) : Cond) ∈ WS := ws_t (tb_9 (List.mem_of_getElem? (i := 9) rfl)) rfl
set_option maxRecDepth 20000 in
theorem tw_1930 : (Cond.methodLink "MownMazeLaw" 151 ⟨"MownMazeModel", "seen", "(II)I"⟩ : Cond) ∈ WS := ws_t (tb_9 (List.mem_of_getElem? (i := 10) rfl)) rfl
set_option maxRecDepth 20000 in
theorem tw_1931 : (Cond.instanceMethod ⟨"MownMazeModel", "seen", "(II)I"⟩ : Cond) ∈ WS := ws_t (tb_9 (List.mem_of_getElem? (i := 11) rfl)) rfl
set_option maxRecDepth 20000 in
theorem tw_1932 : (Cond.selects "MownMazeModel" ⟨"MownMazeModel", "seen", "(II)I"⟩ ⟨"MownMazeModel", "seen", "(II)I"⟩ : Cond) ∈ WS := ws_t (tb_9 (List.mem_of_getElem? (i := 12) rfl)) rfl
set_option maxRecDepth 20000 in
theorem tw_1933 : (Cond.code ⟨"MownMazeModel", "seen", "(II)I"⟩ prog_13_method_101_code 3 (Option.some FieldType.int) : Cond) ∈ WS := ws_t (tb_9 (List.mem_of_getElem? (i := 13) rfl)) rfl
set_option maxRecDepth 20000 in
theorem tw_1934 : (Cond.methodLink "MownMazeModel" 502 ⟨"MownMazeModel", "seenNow", "(I)I"⟩ : Cond) ∈ WS := ws_t (tb_9 (List.mem_of_getElem? (i := 14) rfl)) rfl
set_option maxRecDepth 20000 in
theorem tw_1936 : (Cond.instanceMethod ⟨"MownMazeModel", "seenNow", "(I)I"⟩ : Cond) ∈ WS := ws_t (tb_9 (List.mem_of_getElem? (i := 16) rfl)) rfl
set_option maxRecDepth 20000 in
theorem tw_1937 : (Cond.code ⟨"MownMazeModel", "seenNow", "(I)I"⟩ prog_13_method_100_code 2 (Option.some FieldType.int) : Cond) ∈ WS := ws_t (tb_9 (List.mem_of_getElem? (i := 17) rfl)) rfl
set_option maxRecDepth 20000 in
theorem tw_1938 : (Cond.methodLink "MownMazeModel" 499 ⟨"MownMazeModel", "isFree", "(II)Z"⟩ : Cond) ∈ WS := ws_t (tb_9 (List.mem_of_getElem? (i := 18) rfl)) rfl
set_option maxRecDepth 20000 in
theorem tw_1940 : (Cond.instanceMethod ⟨"MownMazeModel", "isFree", "(II)Z"⟩ : Cond) ∈ WS := ws_t (tb_9 (List.mem_of_getElem? (i := 20) rfl)) rfl
set_option maxRecDepth 20000 in
theorem tw_1941 : (Cond.code ⟨"MownMazeModel", "isFree", "(II)Z"⟩ prog_13_method_99_code 5 (Option.some FieldType.boolean) : Cond) ∈ WS := ws_t (tb_9 (List.mem_of_getElem? (i := 21) rfl)) rfl
set_option maxRecDepth 20000 in
theorem tw_1942 : (Cond.methodLink "MownMazeLaw" 155 ⟨"MownMazeModel", "gatesSeen", "()I"⟩ : Cond) ∈ WS := ws_t (tb_9 (List.mem_of_getElem? (i := 22) rfl)) rfl
set_option maxRecDepth 20000 in
theorem tw_1943 : (Cond.instanceMethod ⟨"MownMazeModel", "gatesSeen", "()I"⟩ : Cond) ∈ WS := ws_t (tb_9 (List.mem_of_getElem? (i := 23) rfl)) rfl
set_option maxRecDepth 20000 in
theorem tw_1944 : (Cond.selects "MownMazeModel" ⟨"MownMazeModel", "gatesSeen", "()I"⟩ ⟨"MownMazeModel", "gatesSeen", "()I"⟩ : Cond) ∈ WS := ws_t (tb_9 (List.mem_of_getElem? (i := 24) rfl)) rfl
set_option maxRecDepth 20000 in
theorem tw_1945 : (Cond.code ⟨"MownMazeModel", "gatesSeen", "()I"⟩ prog_13_method_102_code 3 (Option.some FieldType.int) : Cond) ∈ WS := ws_t (tb_9 (List.mem_of_getElem? (i := 25) rfl)) rfl
set_option maxRecDepth 20000 in
theorem tw_1946 : (Cond.methodLink "MownMazeLaw" 159 ⟨"MownMazeModel", "places", "()I"⟩ : Cond) ∈ WS := ws_t (tb_9 (List.mem_of_getElem? (i := 26) rfl)) rfl
set_option maxRecDepth 20000 in
theorem tw_1947 : (Cond.instanceMethod ⟨"MownMazeModel", "places", "()I"⟩ : Cond) ∈ WS := ws_t (tb_9 (List.mem_of_getElem? (i := 27) rfl)) rfl
set_option maxRecDepth 20000 in
theorem tw_1948 : (Cond.selects "MownMazeModel" ⟨"MownMazeModel", "places", "()I"⟩ ⟨"MownMazeModel", "places", "()I"⟩ : Cond) ∈ WS := ws_t (tb_9 (List.mem_of_getElem? (i := 28) rfl)) rfl
set_option maxRecDepth 20000 in
theorem tw_1949 : (Cond.code ⟨"MownMazeModel", "places", "()I"⟩ prog_13_method_104_code 1 (Option.some FieldType.int) : Cond) ∈ WS := ws_t (tb_9 (List.mem_of_getElem? (i := 29) rfl)) rfl
set_option maxRecDepth 20000 in
theorem tw_1950 : (Cond.methodLink "MownMazeModel" 505 ⟨"MownMazeModel", "placesNow", "()J"⟩ : Cond) ∈ WS := ws_t (tb_9 (List.mem_of_getElem? (i := 30) rfl)) rfl
set_option maxRecDepth 20000 in
theorem tw_1952 : (Cond.instanceMethod ⟨"MownMazeModel", "placesNow", "()J"⟩ : Cond) ∈ WS := ws_t (tb_9 (List.mem_of_getElem? (i := 32) rfl)) rfl
set_option maxRecDepth 20000 in
theorem tw_1953 : (Cond.code ⟨"MownMazeModel", "placesNow", "()J"⟩ prog_13_method_103_code 5 (Option.some FieldType.long) : Cond) ∈ WS := ws_t (tb_9 (List.mem_of_getElem? (i := 33) rfl)) rfl
set_option maxRecDepth 20000 in
theorem tw_1954 : (Cond.methodLink "MownMazeLaw" 163 ⟨"MownMazeModel", "place", "(I)I"⟩ : Cond) ∈ WS := ws_t (tb_9 (List.mem_of_getElem? (i := 34) rfl)) rfl
set_option maxRecDepth 20000 in
theorem tw_1955 : (Cond.instanceMethod ⟨"MownMazeModel", "place", "(I)I"⟩ : Cond) ∈ WS := ws_t (tb_9 (List.mem_of_getElem? (i := 35) rfl)) rfl
set_option maxRecDepth 20000 in
theorem tw_1956 : (Cond.selects "MownMazeModel" ⟨"MownMazeModel", "place", "(I)I"⟩ ⟨"MownMazeModel", "place", "(I)I"⟩ : Cond) ∈ WS := ws_t (tb_9 (List.mem_of_getElem? (i := 36) rfl)) rfl
set_option maxRecDepth 20000 in
theorem tw_1957 : (Cond.code ⟨"MownMazeModel", "place", "(I)I"⟩ prog_13_method_105_code 5 (Option.some FieldType.int) : Cond) ∈ WS := ws_t (tb_9 (List.mem_of_getElem? (i := 37) rfl)) rfl
set_option maxRecDepth 20000 in
theorem tw_1958 : (Cond.methodLink "MownMazeLaw" 167 ⟨"MownMazeModel", "best", "()I"⟩ : Cond) ∈ WS := ws_t (tb_9 (List.mem_of_getElem? (i := 38) rfl)) rfl
set_option maxRecDepth 20000 in
theorem tw_1959 : (Cond.instanceMethod ⟨"MownMazeModel", "best", "()I"⟩ : Cond) ∈ WS := ws_t (tb_9 (List.mem_of_getElem? (i := 39) rfl)) rfl
set_option maxRecDepth 20000 in
theorem tw_1960 : (Cond.selects "MownMazeModel" ⟨"MownMazeModel", "best", "()I"⟩ ⟨"MownMazeModel", "best", "()I"⟩ : Cond) ∈ WS := ws_t (tb_9 (List.mem_of_getElem? (i := 40) rfl)) rfl
set_option maxRecDepth 20000 in
theorem tw_1961 : (Cond.code ⟨"MownMazeModel", "best", "()I"⟩ prog_13_method_107_code 1 (Option.some FieldType.int) : Cond) ∈ WS := ws_t (tb_9 (List.mem_of_getElem? (i := 41) rfl)) rfl
set_option maxRecDepth 20000 in
theorem tw_1962 : (Cond.methodLink "MownMazeModel" 514 ⟨"MownMazeModel", "bestNow", "()I"⟩ : Cond) ∈ WS := ws_t (tb_9 (List.mem_of_getElem? (i := 42) rfl)) rfl
set_option maxRecDepth 20000 in
theorem tw_1964 : (Cond.instanceMethod ⟨"MownMazeModel", "bestNow", "()I"⟩ : Cond) ∈ WS := ws_t (tb_9 (List.mem_of_getElem? (i := 44) rfl)) rfl
set_option maxRecDepth 20000 in
theorem tw_1965 : (Cond.code ⟨"MownMazeModel", "bestNow", "()I"⟩ prog_13_method_106_code 4 (Option.some FieldType.int) : Cond) ∈ WS := ws_t (tb_9 (List.mem_of_getElem? (i := 45) rfl)) rfl
set_option maxRecDepth 20000 in
theorem tw_1966 : (Cond.methodLink "MownMazeModel" 508 ⟨"MownMazeModel$Meadow", "isStart", "(I)Z"⟩ : Cond) ∈ WS := ws_t (tb_9 (List.mem_of_getElem? (i := 46) rfl)) rfl
set_option maxRecDepth 20000 in
theorem tw_1967 : (Cond.instanceMethod ⟨"MownMazeModel$Meadow", "isStart", "(I)Z"⟩ : Cond) ∈ WS := ws_t (tb_9 (List.mem_of_getElem? (i := 47) rfl)) rfl
set_option maxRecDepth 20000 in
theorem tw_1968 : (Cond.selects "MownMazeModel$Meadow" ⟨"MownMazeModel$Meadow", "isStart", "(I)Z"⟩ ⟨"MownMazeModel$Meadow", "isStart", "(I)Z"⟩ : Cond) ∈ WS := ws_t (tb_9 (List.mem_of_getElem? (i := 48) rfl)) rfl
set_option maxRecDepth 20000 in
theorem tw_1969 : (Cond.code ⟨"MownMazeModel$Meadow", "isStart", "(I)Z"⟩ prog_14_method_4_code 3 (Option.some FieldType.boolean) : Cond) ∈ WS := ws_t (tb_9 (List.mem_of_getElem? (i := 49) rfl)) rfl
set_option maxRecDepth 20000 in
theorem tw_1970 : (Cond.methodLink "MownMazeLaw" 171 ⟨"MownMazeModel", "bestPaid", "()I"⟩ : Cond) ∈ WS := ws_t (tb_9 (List.mem_of_getElem? (i := 50) rfl)) rfl
set_option maxRecDepth 20000 in
theorem tw_1971 : (Cond.instanceMethod ⟨"MownMazeModel", "bestPaid", "()I"⟩ : Cond) ∈ WS := ws_t (tb_9 (List.mem_of_getElem? (i := 51) rfl)) rfl
set_option maxRecDepth 20000 in
theorem tw_1972 : (Cond.selects "MownMazeModel" ⟨"MownMazeModel", "bestPaid", "()I"⟩ ⟨"MownMazeModel", "bestPaid", "()I"⟩ : Cond) ∈ WS := ws_t (tb_9 (List.mem_of_getElem? (i := 52) rfl)) rfl
set_option maxRecDepth 20000 in
theorem tw_1973 : (Cond.code ⟨"MownMazeModel", "bestPaid", "()I"⟩ prog_13_method_108_code 1 (Option.some FieldType.int) : Cond) ∈ WS := ws_t (tb_9 (List.mem_of_getElem? (i := 53) rfl)) rfl
set_option maxRecDepth 20000 in
theorem tw_1974 : (Cond.methodLink "MownMazeLaw" 176 ⟨"MownMazeModel", "mow", "(II)Z"⟩ : Cond) ∈ WS := ws_t (tb_9 (List.mem_of_getElem? (i := 54) rfl)) rfl
set_option maxRecDepth 20000 in
theorem tw_1975 : (Cond.instanceMethod ⟨"MownMazeModel", "mow", "(II)Z"⟩ : Cond) ∈ WS := ws_t (tb_9 (List.mem_of_getElem? (i := 55) rfl)) rfl
set_option maxRecDepth 20000 in
theorem tw_1976 : (Cond.selects "MownMazeModel" ⟨"MownMazeModel", "mow", "(II)Z"⟩ ⟨"MownMazeModel", "mow", "(II)Z"⟩ : Cond) ∈ WS := ws_t (tb_9 (List.mem_of_getElem? (i := 56) rfl)) rfl
set_option maxRecDepth 20000 in
theorem tw_1977 : (Cond.code ⟨"MownMazeModel", "mow", "(II)Z"⟩ prog_13_method_111_code 3 (Option.some FieldType.boolean) : Cond) ∈ WS := ws_t (tb_9 (List.mem_of_getElem? (i := 57) rfl)) rfl
set_option maxRecDepth 20000 in
theorem tw_1978 : (Cond.methodLink "MownMazeModel" 526 ⟨"MownMazeModel", "changesTo", "(IIZ)Z"⟩ : Cond) ∈ WS := ws_t (tb_9 (List.mem_of_getElem? (i := 58) rfl)) rfl
set_option maxRecDepth 20000 in
theorem tw_1980 : (Cond.instanceMethod ⟨"MownMazeModel", "changesTo", "(IIZ)Z"⟩ : Cond) ∈ WS := ws_t (tb_9 (List.mem_of_getElem? (i := 60) rfl)) rfl
set_option maxRecDepth 20000 in
theorem tw_1981 : (Cond.code ⟨"MownMazeModel", "changesTo", "(IIZ)Z"⟩ prog_13_method_110_code 4 (Option.some FieldType.boolean) : Cond) ∈ WS := ws_t (tb_9 (List.mem_of_getElem? (i := 61) rfl)) rfl
set_option maxRecDepth 20000 in
theorem tw_1982 : (Cond.methodLink "MownMazeModel" 517 ⟨"MownMazeModel", "denied", "(I)Z"⟩ : Cond) ∈ WS := ws_t (tb_9 (List.mem_of_getElem? (i := 62) rfl)) rfl
set_option maxRecDepth 20000 in
theorem tw_1984 : (Cond.instanceMethod ⟨"MownMazeModel", "denied", "(I)Z"⟩ : Cond) ∈ WS := ws_t (tb_9 (List.mem_of_getElem? (i := 64) rfl)) rfl
set_option maxRecDepth 20000 in
theorem tw_1985 : (Cond.code ⟨"MownMazeModel", "denied", "(I)Z"⟩ prog_13_method_4_code 2 (Option.some FieldType.boolean) : Cond) ∈ WS := ws_t (tb_9 (List.mem_of_getElem? (i := 65) rfl)) rfl
set_option maxRecDepth 20000 in
theorem tw_1986 : (Cond.methodLink "MownMazeModel" 520 ⟨"MownMazeModel", "keeps", "()V"⟩ : Cond) ∈ WS := ws_t (tb_9 (List.mem_of_getElem? (i := 66) rfl)) rfl
set_option maxRecDepth 20000 in
theorem tw_1988 : (Cond.instanceMethod ⟨"MownMazeModel", "keeps", "()V"⟩ : Cond) ∈ WS := ws_t (tb_9 (List.mem_of_getElem? (i := 68) rfl)) rfl
set_option maxRecDepth 20000 in
theorem tw_1989 : (Cond.code ⟨"MownMazeModel", "keeps", "()V"⟩ prog_13_method_109_code 2 none : Cond) ∈ WS := ws_t (tb_9 (List.mem_of_getElem? (i := 69) rfl)) rfl
set_option maxRecDepth 20000 in
theorem tw_1990 : (Cond.methodLink "MownMazeModel" 523 ⟨"MownMazeModel", "granted", "()Z"⟩ : Cond) ∈ WS := ws_t (tb_9 (List.mem_of_getElem? (i := 70) rfl)) rfl
set_option maxRecDepth 20000 in
theorem tw_1992 : (Cond.instanceMethod ⟨"MownMazeModel", "granted", "()Z"⟩ : Cond) ∈ WS := ws_t (tb_9 (List.mem_of_getElem? (i := 72) rfl)) rfl
set_option maxRecDepth 20000 in
theorem tw_1993 : (Cond.code ⟨"MownMazeModel", "granted", "()Z"⟩ prog_13_method_6_code 1 (Option.some FieldType.boolean) : Cond) ∈ WS := ws_t (tb_9 (List.mem_of_getElem? (i := 73) rfl)) rfl
set_option maxRecDepth 20000 in
theorem tw_1994 : (Cond.methodLink "MownMazeLaw" 180 ⟨"MownMazeModel", "stand", "(II)Z"⟩ : Cond) ∈ WS := ws_t (tb_9 (List.mem_of_getElem? (i := 74) rfl)) rfl
set_option maxRecDepth 20000 in
theorem tw_1995 : (Cond.instanceMethod ⟨"MownMazeModel", "stand", "(II)Z"⟩ : Cond) ∈ WS := ws_t (tb_9 (List.mem_of_getElem? (i := 75) rfl)) rfl
set_option maxRecDepth 20000 in
theorem tw_1996 : (Cond.selects "MownMazeModel" ⟨"MownMazeModel", "stand", "(II)Z"⟩ ⟨"MownMazeModel", "stand", "(II)Z"⟩ : Cond) ∈ WS := ws_t (tb_9 (List.mem_of_getElem? (i := 76) rfl)) rfl
set_option maxRecDepth 20000 in
theorem tw_1997 : (Cond.code ⟨"MownMazeModel", "stand", "(II)Z"⟩ prog_13_method_112_code 3 (Option.some FieldType.boolean) : Cond) ∈ WS := ws_t (tb_9 (List.mem_of_getElem? (i := 77) rfl)) rfl
set_option maxRecDepth 20000 in
theorem tw_1998 : (Cond.methodLink "MownMazeLaw" 184 ⟨"MownMazeModel", "week", "()I"⟩ : Cond) ∈ WS := ws_t (tb_9 (List.mem_of_getElem? (i := 78) rfl)) rfl
set_option maxRecDepth 20000 in
theorem tw_1999 : (Cond.instanceMethod ⟨"MownMazeModel", "week", "()I"⟩ : Cond) ∈ WS := ws_t (tb_9 (List.mem_of_getElem? (i := 79) rfl)) rfl
set_option maxRecDepth 20000 in
theorem tw_2000 : (Cond.selects "MownMazeModel" ⟨"MownMazeModel", "week", "()I"⟩ ⟨"MownMazeModel", "week", "()I"⟩ : Cond) ∈ WS := ws_t (tb_9 (List.mem_of_getElem? (i := 80) rfl)) rfl
set_option maxRecDepth 20000 in
theorem tw_2001 : (Cond.code ⟨"MownMazeModel", "week", "()I"⟩ prog_13_method_113_code 2 (Option.some FieldType.int) : Cond) ∈ WS := ws_t (tb_9 (List.mem_of_getElem? (i := 81) rfl)) rfl
set_option maxRecDepth 20000 in
theorem tw_2002 : (Cond.methodLink "MownMazeLaw" 188 ⟨"MownMazeModel", "thin", "()I"⟩ : Cond) ∈ WS := ws_t (tb_9 (List.mem_of_getElem? (i := 82) rfl)) rfl
set_option maxRecDepth 20000 in
theorem tw_2003 : (Cond.instanceMethod ⟨"MownMazeModel", "thin", "()I"⟩ : Cond) ∈ WS := ws_t (tb_9 (List.mem_of_getElem? (i := 83) rfl)) rfl
set_option maxRecDepth 20000 in
theorem tw_2004 : (Cond.selects "MownMazeModel" ⟨"MownMazeModel", "thin", "()I"⟩ ⟨"MownMazeModel", "thin", "()I"⟩ : Cond) ∈ WS := ws_t (tb_9 (List.mem_of_getElem? (i := 84) rfl)) rfl
set_option maxRecDepth 20000 in
theorem tw_2005 : (Cond.code ⟨"MownMazeModel", "thin", "()I"⟩ prog_13_method_114_code 5 (Option.some FieldType.int) : Cond) ∈ WS := ws_t (tb_9 (List.mem_of_getElem? (i := 85) rfl)) rfl
set_option maxRecDepth 20000 in
theorem tw_2006 : (Cond.methodLink "MownMazeLaw" 193 ⟨"MownMazeModel", "seed", "(I)Z"⟩ : Cond) ∈ WS := ws_t (tb_9 (List.mem_of_getElem? (i := 86) rfl)) rfl
set_option maxRecDepth 20000 in
theorem tw_2007 : (Cond.instanceMethod ⟨"MownMazeModel", "seed", "(I)Z"⟩ : Cond) ∈ WS := ws_t (tb_9 (List.mem_of_getElem? (i := 87) rfl)) rfl
set_option maxRecDepth 20000 in
theorem tw_2008 : (Cond.selects "MownMazeModel" ⟨"MownMazeModel", "seed", "(I)Z"⟩ ⟨"MownMazeModel", "seed", "(I)Z"⟩ : Cond) ∈ WS := ws_t (tb_9 (List.mem_of_getElem? (i := 88) rfl)) rfl
set_option maxRecDepth 20000 in
theorem tw_2009 : (Cond.code ⟨"MownMazeModel", "seed", "(I)Z"⟩ prog_13_method_115_code 2 (Option.some FieldType.boolean) : Cond) ∈ WS := ws_t (tb_9 (List.mem_of_getElem? (i := 89) rfl)) rfl
set_option maxRecDepth 20000 in
theorem tw_2010 : (Cond.constant "MownMazeModel" 530 65536 : Cond) ∈ WS := ws_t (tb_9 (List.mem_of_getElem? (i := 90) rfl)) rfl
set_option maxRecDepth 20000 in
theorem tw_2011 : (Cond.methodLink "MownMazeLaw" 198 ⟨"MownMazeModel", "undo", "()Z"⟩ : Cond) ∈ WS := ws_t (tb_9 (List.mem_of_getElem? (i := 91) rfl)) rfl
set_option maxRecDepth 20000 in
theorem tw_2012 : (Cond.instanceMethod ⟨"MownMazeModel", "undo", "()Z"⟩ : Cond) ∈ WS := ws_t (tb_9 (List.mem_of_getElem? (i := 92) rfl)) rfl
set_option maxRecDepth 20000 in
theorem tw_2013 : (Cond.selects "MownMazeModel" ⟨"MownMazeModel", "undo", "()Z"⟩ ⟨"MownMazeModel", "undo", "()Z"⟩ : Cond) ∈ WS := ws_t (tb_9 (List.mem_of_getElem? (i := 93) rfl)) rfl
set_option maxRecDepth 20000 in
theorem tw_2014 : (Cond.code ⟨"MownMazeModel", "undo", "()Z"⟩ prog_13_method_116_code 1 (Option.some FieldType.boolean) : Cond) ∈ WS := ws_t (tb_9 (List.mem_of_getElem? (i := 94) rfl)) rfl
set_option maxRecDepth 20000 in
theorem tw_2015 : (Cond.methodLink "MownMazeLaw" 202 ⟨"MownMazeModel", "mark", "()I"⟩ : Cond) ∈ WS := ws_t (tb_9 (List.mem_of_getElem? (i := 95) rfl)) rfl
set_option maxRecDepth 20000 in
theorem tw_2016 : (Cond.instanceMethod ⟨"MownMazeModel", "mark", "()I"⟩ : Cond) ∈ WS := ws_t (tb_9 (List.mem_of_getElem? (i := 96) rfl)) rfl
set_option maxRecDepth 20000 in
theorem tw_2017 : (Cond.selects "MownMazeModel" ⟨"MownMazeModel", "mark", "()I"⟩ ⟨"MownMazeModel", "mark", "()I"⟩ : Cond) ∈ WS := ws_t (tb_9 (List.mem_of_getElem? (i := 97) rfl)) rfl
set_option maxRecDepth 20000 in
theorem tw_2018 : (Cond.code ⟨"MownMazeModel", "mark", "()I"⟩ prog_13_method_117_code 1 (Option.some FieldType.int) : Cond) ∈ WS := ws_t (tb_9 (List.mem_of_getElem? (i := 98) rfl)) rfl
set_option maxRecDepth 20000 in
theorem tw_2019 : (Cond.methodLink "MownMazeLaw" 206 ⟨"MownMazeModel", "back", "(I)Z"⟩ : Cond) ∈ WS := ws_t (tb_9 (List.mem_of_getElem? (i := 99) rfl)) rfl
set_option maxRecDepth 20000 in
theorem tw_2020 : (Cond.instanceMethod ⟨"MownMazeModel", "back", "(I)Z"⟩ : Cond) ∈ WS := ws_t (tb_9 (List.mem_of_getElem? (i := 100) rfl)) rfl
set_option maxRecDepth 20000 in
theorem tw_2021 : (Cond.selects "MownMazeModel" ⟨"MownMazeModel", "back", "(I)Z"⟩ ⟨"MownMazeModel", "back", "(I)Z"⟩ : Cond) ∈ WS := ws_t (tb_9 (List.mem_of_getElem? (i := 101) rfl)) rfl
set_option maxRecDepth 20000 in
theorem tw_2022 : (Cond.code ⟨"MownMazeModel", "back", "(I)Z"⟩ prog_13_method_118_code 2 (Option.some FieldType.boolean) : Cond) ∈ WS := ws_t (tb_9 (List.mem_of_getElem? (i := 102) rfl)) rfl
set_option maxRecDepth 20000 in
theorem tw_2023 : (Cond.methodLink "MownMazeLaw" 212 ⟨"MownMazeModel", "led", "(I)I"⟩ : Cond) ∈ WS := ws_t (tb_9 (List.mem_of_getElem? (i := 103) rfl)) rfl
set_option maxRecDepth 20000 in
theorem tw_2024 : (Cond.instanceMethod ⟨"MownMazeModel", "led", "(I)I"⟩ : Cond) ∈ WS := ws_t (tb_9 (List.mem_of_getElem? (i := 104) rfl)) rfl
set_option maxRecDepth 20000 in
theorem tw_2025 : (Cond.selects "MownMazeModel" ⟨"MownMazeModel", "led", "(I)I"⟩ ⟨"MownMazeModel", "led", "(I)I"⟩ : Cond) ∈ WS := ws_t (tb_9 (List.mem_of_getElem? (i := 105) rfl)) rfl
set_option maxRecDepth 20000 in
theorem tw_2026 : (Cond.code ⟨"MownMazeModel", "led", "(I)I"⟩ prog_13_method_119_code 4 (Option.some FieldType.int) : Cond) ∈ WS := ws_t (tb_9 (List.mem_of_getElem? (i := 106) rfl)) rfl
set_option maxRecDepth 20000 in
theorem tw_2027 : (Cond.methodLink "MownMazeLaw" 219 ⟨"MownMazeModel", "size", "(I)I"⟩ : Cond) ∈ WS := ws_t (tb_9 (List.mem_of_getElem? (i := 107) rfl)) rfl
set_option maxRecDepth 20000 in
theorem tw_2028 : (Cond.instanceMethod ⟨"MownMazeModel", "size", "(I)I"⟩ : Cond) ∈ WS := ws_t (tb_9 (List.mem_of_getElem? (i := 108) rfl)) rfl
set_option maxRecDepth 20000 in
theorem tw_2029 : (Cond.selects "MownMazeModel" ⟨"MownMazeModel", "size", "(I)I"⟩ ⟨"MownMazeModel", "size", "(I)I"⟩ : Cond) ∈ WS := ws_t (tb_9 (List.mem_of_getElem? (i := 109) rfl)) rfl
set_option maxRecDepth 20000 in
theorem tw_2030 : (Cond.code ⟨"MownMazeModel", "size", "(I)I"⟩ prog_13_method_120_code 2 (Option.some FieldType.int) : Cond) ∈ WS := ws_t (tb_9 (List.mem_of_getElem? (i := 110) rfl)) rfl
set_option maxRecDepth 20000 in
theorem tw_2031 : (Cond.methodLink "MownMazeLaw" 223 ⟨"MownMazeModel", "trouble", "()I"⟩ : Cond) ∈ WS := ws_t (tb_9 (List.mem_of_getElem? (i := 111) rfl)) rfl
set_option maxRecDepth 20000 in
theorem tw_2032 : (Cond.instanceMethod ⟨"MownMazeModel", "trouble", "()I"⟩ : Cond) ∈ WS := ws_t (tb_9 (List.mem_of_getElem? (i := 112) rfl)) rfl
set_option maxRecDepth 20000 in
theorem tw_2033 : (Cond.selects "MownMazeModel" ⟨"MownMazeModel", "trouble", "()I"⟩ ⟨"MownMazeModel", "trouble", "()I"⟩ : Cond) ∈ WS := ws_t (tb_9 (List.mem_of_getElem? (i := 113) rfl)) rfl
set_option maxRecDepth 20000 in
theorem tw_2034 : (Cond.code ⟨"MownMazeModel", "trouble", "()I"⟩ prog_13_method_121_code 1 (Option.some FieldType.int) : Cond) ∈ WS := ws_t (tb_9 (List.mem_of_getElem? (i := 114) rfl)) rfl
set_option maxRecDepth 20000 in
theorem tw_2052 : (Cond.fieldLink "java/lang/String" 9 "java/lang/String" "value" "[B" : Cond) ∈ WS := ws_t (tb_9 (List.mem_of_getElem? (i := 132) rfl)) rfl
set_option maxRecDepth 20000 in
theorem tw_2053 : (Cond.fieldLink "java/lang/String" 15 "java/lang/String" "coder" "B" : Cond) ∈ WS := ws_t (tb_9 (List.mem_of_getElem? (i := 133) rfl)) rfl
set_option maxRecDepth 20000 in
theorem tw_p0 : (Cond.selects "MownMaze" ⟨"MownMaze", "refuse", "(I)I"⟩ ⟨"MownMaze", "refuse", "(I)I"⟩ : Cond) ∈ WS := ws_p (List.mem_map.mpr ⟨(⟨"MownMaze", "refuse", "(I)I"⟩, 15), List.mem_of_getElem? (i := 0) rfl, rfl⟩) rfl
set_option maxRecDepth 20000 in
theorem tw_p1 : (Cond.selects "MownMaze$Ground" ⟨"MownMaze$Ground", "layBeside", "(IIIII)V"⟩ ⟨"MownMaze$Ground", "layBeside", "(IIIII)V"⟩ : Cond) ∈ WS := ws_p (List.mem_map.mpr ⟨(⟨"MownMaze$Ground", "layBeside", "(IIIII)V"⟩, 7), List.mem_of_getElem? (i := 1) rfl, rfl⟩) rfl
set_option maxRecDepth 20000 in
theorem tw_p2 : (Cond.selects "MownMaze$Tokens" ⟨"MownMaze$Tokens", "mostBytes", "()I"⟩ ⟨"MownMaze$Tokens", "mostBytes", "()I"⟩ : Cond) ∈ WS := ws_p (List.mem_map.mpr ⟨(⟨"MownMaze$Tokens", "mostBytes", "()I"⟩, 7), List.mem_of_getElem? (i := 2) rfl, rfl⟩) rfl
set_option maxRecDepth 20000 in
theorem tw_p3 : (Cond.selects "MownMaze$Reader" ⟨"MownMaze$Reader", "readLine", "(LMownMaze$Plan;)Z"⟩ ⟨"MownMaze$Reader", "readLine", "(LMownMaze$Plan;)Z"⟩ : Cond) ∈ WS := ws_p (List.mem_map.mpr ⟨(⟨"MownMaze$Reader", "readLine", "(LMownMaze$Plan;)Z"⟩, 6), List.mem_of_getElem? (i := 3) rfl, rfl⟩) rfl
set_option maxRecDepth 20000 in
theorem tw_p4 : (Cond.selects "MownMaze$Reader" ⟨"MownMaze$Reader", "fail", "(I)Z"⟩ ⟨"MownMaze$Reader", "fail", "(I)Z"⟩ : Cond) ∈ WS := ws_p (List.mem_map.mpr ⟨(⟨"MownMaze$Reader", "fail", "(I)Z"⟩, 6), List.mem_of_getElem? (i := 4) rfl, rfl⟩) rfl
set_option maxRecDepth 20000 in
theorem tw_p5 : (Cond.selects "MownMaze$Reader" ⟨"MownMaze$Reader", "failAt", "(II)Z"⟩ ⟨"MownMaze$Reader", "failAt", "(II)Z"⟩ : Cond) ∈ WS := ws_p (List.mem_map.mpr ⟨(⟨"MownMaze$Reader", "failAt", "(II)Z"⟩, 6), List.mem_of_getElem? (i := 5) rfl, rfl⟩) rfl
set_option maxRecDepth 20000 in
theorem tw_p6 : (Cond.selects "MownMaze$Reader" ⟨"MownMaze$Reader", "readSizes", "(LMownMaze$Plan;)Z"⟩ ⟨"MownMaze$Reader", "readSizes", "(LMownMaze$Plan;)Z"⟩ : Cond) ∈ WS := ws_p (List.mem_map.mpr ⟨(⟨"MownMaze$Reader", "readSizes", "(LMownMaze$Plan;)Z"⟩, 6), List.mem_of_getElem? (i := 6) rfl, rfl⟩) rfl
set_option maxRecDepth 20000 in
theorem tw_p7 : (Cond.selects "MownMaze$Reader" ⟨"MownMaze$Reader", "takeNamed", "(Ljava/lang/String;II)Z"⟩ ⟨"MownMaze$Reader", "takeNamed", "(Ljava/lang/String;II)Z"⟩ : Cond) ∈ WS := ws_p (List.mem_map.mpr ⟨(⟨"MownMaze$Reader", "takeNamed", "(Ljava/lang/String;II)Z"⟩, 6), List.mem_of_getElem? (i := 7) rfl, rfl⟩) rfl
set_option maxRecDepth 20000 in
theorem tw_p8 : (Cond.selects "MownMaze$Reader" ⟨"MownMaze$Reader", "takeWord", "(Ljava/lang/String;)Z"⟩ ⟨"MownMaze$Reader", "takeWord", "(Ljava/lang/String;)Z"⟩ : Cond) ∈ WS := ws_p (List.mem_map.mpr ⟨(⟨"MownMaze$Reader", "takeWord", "(Ljava/lang/String;)Z"⟩, 6), List.mem_of_getElem? (i := 8) rfl, rfl⟩) rfl
set_option maxRecDepth 20000 in
theorem tw_p9 : (Cond.selects "MownMaze$Reader" ⟨"MownMaze$Reader", "takeWhole", "(II)Z"⟩ ⟨"MownMaze$Reader", "takeWhole", "(II)Z"⟩ : Cond) ∈ WS := ws_p (List.mem_map.mpr ⟨(⟨"MownMaze$Reader", "takeWhole", "(II)Z"⟩, 6), List.mem_of_getElem? (i := 9) rfl, rfl⟩) rfl
set_option maxRecDepth 20000 in
theorem tw_p10 : (Cond.selects "MownMaze$Reader" ⟨"MownMaze$Reader", "readRow", "(LMownMaze$Plan;LMownMaze$Picture;Z)Z"⟩ ⟨"MownMaze$Reader", "readRow", "(LMownMaze$Plan;LMownMaze$Picture;Z)Z"⟩ : Cond) ∈ WS := ws_p (List.mem_map.mpr ⟨(⟨"MownMaze$Reader", "readRow", "(LMownMaze$Plan;LMownMaze$Picture;Z)Z"⟩, 6), List.mem_of_getElem? (i := 10) rfl, rfl⟩) rfl
set_option maxRecDepth 20000 in
theorem tw_p11 : (Cond.selects "MownMaze$Reader" ⟨"MownMaze$Reader", "readGate", "(LMownMaze$Plan;)Z"⟩ ⟨"MownMaze$Reader", "readGate", "(LMownMaze$Plan;)Z"⟩ : Cond) ∈ WS := ws_p (List.mem_map.mpr ⟨(⟨"MownMaze$Reader", "readGate", "(LMownMaze$Plan;)Z"⟩, 6), List.mem_of_getElem? (i := 11) rfl, rfl⟩) rfl
set_option maxRecDepth 20000 in
theorem tw_p12 : (Cond.selects "MownMaze$Reader" ⟨"MownMaze$Reader", "takeCell", "(LMownMaze$Ground;)Z"⟩ ⟨"MownMaze$Reader", "takeCell", "(LMownMaze$Ground;)Z"⟩ : Cond) ∈ WS := ws_p (List.mem_map.mpr ⟨(⟨"MownMaze$Reader", "takeCell", "(LMownMaze$Ground;)Z"⟩, 6), List.mem_of_getElem? (i := 12) rfl, rfl⟩) rfl
set_option maxRecDepth 20000 in
theorem tw_p13 : (Cond.selects "MownMaze$Reader" ⟨"MownMaze$Reader", "takeSign", "(C)Z"⟩ ⟨"MownMaze$Reader", "takeSign", "(C)Z"⟩ : Cond) ∈ WS := ws_p (List.mem_map.mpr ⟨(⟨"MownMaze$Reader", "takeSign", "(C)Z"⟩, 6), List.mem_of_getElem? (i := 13) rfl, rfl⟩) rfl
set_option maxRecDepth 20000 in
theorem tw_p14 : (Cond.selects "MownMaze$Reader" ⟨"MownMaze$Reader", "readNoise", "(LMownMaze$Plan;)Z"⟩ ⟨"MownMaze$Reader", "readNoise", "(LMownMaze$Plan;)Z"⟩ : Cond) ∈ WS := ws_p (List.mem_map.mpr ⟨(⟨"MownMaze$Reader", "readNoise", "(LMownMaze$Plan;)Z"⟩, 6), List.mem_of_getElem? (i := 14) rfl, rfl⟩) rfl
set_option maxRecDepth 20000 in
theorem tw_p15 : (Cond.selects "MownMaze$Reader" ⟨"MownMaze$Reader", "readHeard", "(LMownMaze$Plan;)Z"⟩ ⟨"MownMaze$Reader", "readHeard", "(LMownMaze$Plan;)Z"⟩ : Cond) ∈ WS := ws_p (List.mem_map.mpr ⟨(⟨"MownMaze$Reader", "readHeard", "(LMownMaze$Plan;)Z"⟩, 6), List.mem_of_getElem? (i := 15) rfl, rfl⟩) rfl
set_option maxRecDepth 20000 in
theorem tw_p16 : (Cond.selects "MownMaze$Reader" ⟨"MownMaze$Reader", "readWalker", "(LMownMaze$Plan;)Z"⟩ ⟨"MownMaze$Reader", "readWalker", "(LMownMaze$Plan;)Z"⟩ : Cond) ∈ WS := ws_p (List.mem_map.mpr ⟨(⟨"MownMaze$Reader", "readWalker", "(LMownMaze$Plan;)Z"⟩, 6), List.mem_of_getElem? (i := 16) rfl, rfl⟩) rfl
set_option maxRecDepth 20000 in
theorem tw_p17 : (Cond.selects "MownMaze$Reader" ⟨"MownMaze$Reader", "takeOneOf", "(Ljava/lang/String;)Z"⟩ ⟨"MownMaze$Reader", "takeOneOf", "(Ljava/lang/String;)Z"⟩ : Cond) ∈ WS := ws_p (List.mem_map.mpr ⟨(⟨"MownMaze$Reader", "takeOneOf", "(Ljava/lang/String;)Z"⟩, 6), List.mem_of_getElem? (i := 17) rfl, rfl⟩) rfl
set_option maxRecDepth 20000 in
theorem tw_p18 : (Cond.selects "MownMaze" ⟨"MownMaze", "answer", "(I)I"⟩ ⟨"MownMaze", "answer", "(I)I"⟩ : Cond) ∈ WS := ws_p (List.mem_map.mpr ⟨(⟨"MownMaze", "answer", "(I)I"⟩, 15), List.mem_of_getElem? (i := 18) rfl, rfl⟩) rfl
set_option maxRecDepth 20000 in
theorem tw_p19 : (Cond.selects "MownMaze" ⟨"MownMaze", "isCell", "(II)Z"⟩ ⟨"MownMaze", "isCell", "(II)Z"⟩ : Cond) ∈ WS := ws_p (List.mem_map.mpr ⟨(⟨"MownMaze", "isCell", "(II)Z"⟩, 15), List.mem_of_getElem? (i := 19) rfl, rfl⟩) rfl
set_option maxRecDepth 20000 in
theorem tw_p20 : (Cond.selects "MownMaze" ⟨"MownMaze", "isMown", "(II)Z"⟩ ⟨"MownMaze", "isMown", "(II)Z"⟩ : Cond) ∈ WS := ws_p (List.mem_map.mpr ⟨(⟨"MownMaze", "isMown", "(II)Z"⟩, 15), List.mem_of_getElem? (i := 20) rfl, rfl⟩) rfl
set_option maxRecDepth 20000 in
theorem tw_p21 : (Cond.selects "MownMaze" ⟨"MownMaze", "isNumber", "(I)Z"⟩ ⟨"MownMaze", "isNumber", "(I)Z"⟩ : Cond) ∈ WS := ws_p (List.mem_map.mpr ⟨(⟨"MownMaze", "isNumber", "(I)Z"⟩, 15), List.mem_of_getElem? (i := 21) rfl, rfl⟩) rfl
set_option maxRecDepth 20000 in
theorem tw_p22 : (Cond.selects "MownMaze$Ground" ⟨"MownMaze$Ground", "farthest", "(JI)I"⟩ ⟨"MownMaze$Ground", "farthest", "(JI)I"⟩ : Cond) ∈ WS := ws_p (List.mem_map.mpr ⟨(⟨"MownMaze$Ground", "farthest", "(JI)I"⟩, 7), List.mem_of_getElem? (i := 22) rfl, rfl⟩) rfl
set_option maxRecDepth 20000 in
theorem tw_p23 : (Cond.selects "MownMaze" ⟨"MownMaze", "isWalker", "(I)Z"⟩ ⟨"MownMaze", "isWalker", "(I)Z"⟩ : Cond) ∈ WS := ws_p (List.mem_map.mpr ⟨(⟨"MownMaze", "isWalker", "(I)Z"⟩, 15), List.mem_of_getElem? (i := 23) rfl, rfl⟩) rfl
set_option maxRecDepth 20000 in
theorem tw_p24 : (Cond.selects "MownMaze" ⟨"MownMaze", "isMinute", "(I)Z"⟩ ⟨"MownMaze", "isMinute", "(I)Z"⟩ : Cond) ∈ WS := ws_p (List.mem_map.mpr ⟨(⟨"MownMaze", "isMinute", "(I)Z"⟩, 15), List.mem_of_getElem? (i := 24) rfl, rfl⟩) rfl
set_option maxRecDepth 20000 in
theorem tw_p25 : (Cond.selects "MownMaze$Walk" ⟨"MownMaze$Walk", "enter", "(II)V"⟩ ⟨"MownMaze$Walk", "enter", "(II)V"⟩ : Cond) ∈ WS := ws_p (List.mem_map.mpr ⟨(⟨"MownMaze$Walk", "enter", "(II)V"⟩, 12), List.mem_of_getElem? (i := 25) rfl, rfl⟩) rfl
set_option maxRecDepth 20000 in
theorem tw_p26 : (Cond.selects "MownMaze$Walk" ⟨"MownMaze$Walk", "step", "()V"⟩ ⟨"MownMaze$Walk", "step", "()V"⟩ : Cond) ∈ WS := ws_p (List.mem_map.mpr ⟨(⟨"MownMaze$Walk", "step", "()V"⟩, 12), List.mem_of_getElem? (i := 26) rfl, rfl⟩) rfl
set_option maxRecDepth 20000 in
theorem tw_p27 : (Cond.selects "MownMaze$Walk" ⟨"MownMaze$Walk", "stepTurning", "(II)V"⟩ ⟨"MownMaze$Walk", "stepTurning", "(II)V"⟩ : Cond) ∈ WS := ws_p (List.mem_map.mpr ⟨(⟨"MownMaze$Walk", "stepTurning", "(II)V"⟩, 12), List.mem_of_getElem? (i := 27) rfl, rfl⟩) rfl
set_option maxRecDepth 20000 in
theorem tw_p28 : (Cond.selects "MownMaze$Walk" ⟨"MownMaze$Walk", "mownTo", "(I)I"⟩ ⟨"MownMaze$Walk", "mownTo", "(I)I"⟩ : Cond) ∈ WS := ws_p (List.mem_map.mpr ⟨(⟨"MownMaze$Walk", "mownTo", "(I)I"⟩, 12), List.mem_of_getElem? (i := 28) rfl, rfl⟩) rfl
set_option maxRecDepth 20000 in
theorem tw_p29 : (Cond.selects "MownMaze$Walk" ⟨"MownMaze$Walk", "stepOnce", "()V"⟩ ⟨"MownMaze$Walk", "stepOnce", "()V"⟩ : Cond) ∈ WS := ws_p (List.mem_map.mpr ⟨(⟨"MownMaze$Walk", "stepOnce", "()V"⟩, 12), List.mem_of_getElem? (i := 29) rfl, rfl⟩) rfl
set_option maxRecDepth 20000 in
theorem tw_p30 : (Cond.selects "MownMaze$Walk" ⟨"MownMaze$Walk", "stepToNoise", "()V"⟩ ⟨"MownMaze$Walk", "stepToNoise", "()V"⟩ : Cond) ∈ WS := ws_p (List.mem_map.mpr ⟨(⟨"MownMaze$Walk", "stepToNoise", "()V"⟩, 12), List.mem_of_getElem? (i := 30) rfl, rfl⟩) rfl
set_option maxRecDepth 20000 in
theorem tw_p31 : (Cond.selects "MownMaze$Walk" ⟨"MownMaze$Walk", "stepByLot", "()V"⟩ ⟨"MownMaze$Walk", "stepByLot", "()V"⟩ : Cond) ∈ WS := ws_p (List.mem_map.mpr ⟨(⟨"MownMaze$Walk", "stepByLot", "()V"⟩, 12), List.mem_of_getElem? (i := 31) rfl, rfl⟩) rfl
set_option maxRecDepth 20000 in
theorem tw_p32 : (Cond.selects "MownMaze$Walk" ⟨"MownMaze$Walk", "isAtGate", "()Z"⟩ ⟨"MownMaze$Walk", "isAtGate", "()Z"⟩ : Cond) ∈ WS := ws_p (List.mem_map.mpr ⟨(⟨"MownMaze$Walk", "isAtGate", "()Z"⟩, 12), List.mem_of_getElem? (i := 32) rfl, rfl⟩) rfl
set_option maxRecDepth 20000 in
theorem tw_p33 : (Cond.selects "MownMaze" ⟨"MownMaze", "goesByLot", "(I)Z"⟩ ⟨"MownMaze", "goesByLot", "(I)Z"⟩ : Cond) ∈ WS := ws_p (List.mem_map.mpr ⟨(⟨"MownMaze", "goesByLot", "(I)Z"⟩, 15), List.mem_of_getElem? (i := 33) rfl, rfl⟩) rfl
set_option maxRecDepth 20000 in
theorem tw_p34 : (Cond.selects "MownMaze" ⟨"MownMaze", "unlikeCells", "(Z)J"⟩ ⟨"MownMaze", "unlikeCells", "(Z)J"⟩ : Cond) ∈ WS := ws_p (List.mem_map.mpr ⟨(⟨"MownMaze", "unlikeCells", "(Z)J"⟩, 15), List.mem_of_getElem? (i := 34) rfl, rfl⟩) rfl
set_option maxRecDepth 20000 in
theorem tw_p35 : (Cond.selects "MownMaze" ⟨"MownMaze", "clashingCells", "()J"⟩ ⟨"MownMaze", "clashingCells", "()J"⟩ : Cond) ∈ WS := ws_p (List.mem_map.mpr ⟨(⟨"MownMaze", "clashingCells", "()J"⟩, 15), List.mem_of_getElem? (i := 35) rfl, rfl⟩) rfl
set_option maxRecDepth 20000 in
theorem tw_p36 : (Cond.selects "MownMaze" ⟨"MownMaze", "cellsToMow", "()J"⟩ ⟨"MownMaze", "cellsToMow", "()J"⟩ : Cond) ∈ WS := ws_p (List.mem_map.mpr ⟨(⟨"MownMaze", "cellsToMow", "()J"⟩, 15), List.mem_of_getElem? (i := 36) rfl, rfl⟩) rfl
set_option maxRecDepth 20000 in
theorem tw_p37 : (Cond.selects "MownMaze$Scythe" ⟨"MownMaze$Scythe", "findBesides", "(LMownMaze$Ground;JI)V"⟩ ⟨"MownMaze$Scythe", "findBesides", "(LMownMaze$Ground;JI)V"⟩ : Cond) ∈ WS := ws_p (List.mem_map.mpr ⟨(⟨"MownMaze$Scythe", "findBesides", "(LMownMaze$Ground;JI)V"⟩, 3), List.mem_of_getElem? (i := 37) rfl, rfl⟩) rfl
set_option maxRecDepth 20000 in
theorem tw_p38 : (Cond.selects "MownMaze$Scythe" ⟨"MownMaze$Scythe", "mowOneMore", "(II)V"⟩ ⟨"MownMaze$Scythe", "mowOneMore", "(II)V"⟩ : Cond) ∈ WS := ws_p (List.mem_map.mpr ⟨(⟨"MownMaze$Scythe", "mowOneMore", "(II)V"⟩, 3), List.mem_of_getElem? (i := 38) rfl, rfl⟩) rfl
set_option maxRecDepth 20000 in
theorem tw_p39 : (Cond.selects "MownMaze" ⟨"MownMaze", "weekLater", "(J)J"⟩ ⟨"MownMaze", "weekLater", "(J)J"⟩ : Cond) ∈ WS := ws_p (List.mem_map.mpr ⟨(⟨"MownMaze", "weekLater", "(J)J"⟩, 15), List.mem_of_getElem? (i := 39) rfl, rfl⟩) rfl
set_option maxRecDepth 20000 in
theorem tw_p40 : (Cond.selects "MownMaze$Ground" ⟨"MownMaze$Ground", "isSeenAlong", "(JIIJ)Z"⟩ ⟨"MownMaze$Ground", "isSeenAlong", "(JIIJ)Z"⟩ : Cond) ∈ WS := ws_p (List.mem_map.mpr ⟨(⟨"MownMaze$Ground", "isSeenAlong", "(JIIJ)Z"⟩, 7), List.mem_of_getElem? (i := 40) rfl, rfl⟩) rfl
set_option maxRecDepth 20000 in
theorem tw_p41 : (Cond.selects "MownMaze" ⟨"MownMaze", "isGateSeen", "(I)Z"⟩ ⟨"MownMaze", "isGateSeen", "(I)Z"⟩ : Cond) ∈ WS := ws_p (List.mem_map.mpr ⟨(⟨"MownMaze", "isGateSeen", "(I)Z"⟩, 15), List.mem_of_getElem? (i := 41) rfl, rfl⟩) rfl
set_option maxRecDepth 20000 in
theorem tw_p42 : (Cond.selects "MownMaze" ⟨"MownMaze", "placesByShouts", "()J"⟩ ⟨"MownMaze", "placesByShouts", "()J"⟩ : Cond) ∈ WS := ws_p (List.mem_map.mpr ⟨(⟨"MownMaze", "placesByShouts", "()J"⟩, 15), List.mem_of_getElem? (i := 42) rfl, rfl⟩) rfl
set_option maxRecDepth 20000 in
theorem tw_p43 : (Cond.selects "MownMaze" ⟨"MownMaze", "bestCell", "()I"⟩ ⟨"MownMaze", "bestCell", "()I"⟩ : Cond) ∈ WS := ws_p (List.mem_map.mpr ⟨(⟨"MownMaze", "bestCell", "()I"⟩, 15), List.mem_of_getElem? (i := 43) rfl, rfl⟩) rfl
set_option maxRecDepth 20000 in
theorem tw_p44 : (Cond.selects "MownMaze" ⟨"MownMaze", "paidIfAllGetOut", "(J)I"⟩ ⟨"MownMaze", "paidIfAllGetOut", "(J)I"⟩ : Cond) ∈ WS := ws_p (List.mem_map.mpr ⟨(⟨"MownMaze", "paidIfAllGetOut", "(J)I"⟩, 15), List.mem_of_getElem? (i := 44) rfl, rfl⟩) rfl
set_option maxRecDepth 20000 in
theorem tw_p45 : (Cond.selects "MownMaze" ⟨"MownMaze", "rejected", "(I)Z"⟩ ⟨"MownMaze", "rejected", "(I)Z"⟩ : Cond) ∈ WS := ws_p (List.mem_map.mpr ⟨(⟨"MownMaze", "rejected", "(I)Z"⟩, 15), List.mem_of_getElem? (i := 45) rfl, rfl⟩) rfl
set_option maxRecDepth 20000 in
theorem tw_p46 : (Cond.selects "MownMaze" ⟨"MownMaze", "act", "(J)V"⟩ ⟨"MownMaze", "act", "(J)V"⟩ : Cond) ∈ WS := ws_p (List.mem_map.mpr ⟨(⟨"MownMaze", "act", "(J)V"⟩, 15), List.mem_of_getElem? (i := 46) rfl, rfl⟩) rfl
set_option maxRecDepth 20000 in
theorem tw_p47 : (Cond.selects "MownMaze" ⟨"MownMaze", "accepted", "()Z"⟩ ⟨"MownMaze", "accepted", "()Z"⟩ : Cond) ∈ WS := ws_p (List.mem_map.mpr ⟨(⟨"MownMaze", "accepted", "()Z"⟩, 15), List.mem_of_getElem? (i := 47) rfl, rfl⟩) rfl
set_option maxRecDepth 20000 in
theorem tw_p48 : (Cond.selects "MownMaze" ⟨"MownMaze", "cellsToThin", "()J"⟩ ⟨"MownMaze", "cellsToThin", "()J"⟩ : Cond) ∈ WS := ws_p (List.mem_map.mpr ⟨(⟨"MownMaze", "cellsToThin", "()J"⟩, 15), List.mem_of_getElem? (i := 48) rfl, rfl⟩) rfl
set_option maxRecDepth 20000 in
theorem tw_p49 : (Cond.selects "java/lang/Throwable" ⟨"java/lang/Throwable", "fillInStackTrace", "(I)Ljava/lang/Throwable;"⟩ ⟨"java/lang/Throwable", "fillInStackTrace", "(I)Ljava/lang/Throwable;"⟩ : Cond) ∈ WS := ws_p (List.mem_map.mpr ⟨(⟨"java/lang/Throwable", "fillInStackTrace", "(I)Ljava/lang/Throwable;"⟩, 6), List.mem_of_getElem? (i := 49) rfl, rfl⟩) rfl
set_option maxRecDepth 20000 in
theorem tw_p50 : (Cond.selects "MownMazeModel" ⟨"MownMazeModel", "refused", "(I)I"⟩ ⟨"MownMazeModel", "refused", "(I)I"⟩ : Cond) ∈ WS := ws_p (List.mem_map.mpr ⟨(⟨"MownMazeModel", "refused", "(I)I"⟩, 43), List.mem_of_getElem? (i := 50) rfl, rfl⟩) rfl
set_option maxRecDepth 20000 in
theorem tw_p51 : (Cond.selects "MownMazeModel" ⟨"MownMazeModel", "goesOn", "()V"⟩ ⟨"MownMazeModel", "goesOn", "()V"⟩ : Cond) ∈ WS := ws_p (List.mem_map.mpr ⟨(⟨"MownMazeModel", "goesOn", "()V"⟩, 43), List.mem_of_getElem? (i := 51) rfl, rfl⟩) rfl
set_option maxRecDepth 20000 in
theorem tw_p52 : (Cond.selects "MownMazeModel" ⟨"MownMazeModel", "byteAt", "(I)I"⟩ ⟨"MownMazeModel", "byteAt", "(I)I"⟩ : Cond) ∈ WS := ws_p (List.mem_map.mpr ⟨(⟨"MownMazeModel", "byteAt", "(I)I"⟩, 43), List.mem_of_getElem? (i := 52) rfl, rfl⟩) rfl
set_option maxRecDepth 20000 in
theorem tw_p53 : (Cond.selects "MownMazeModel" ⟨"MownMazeModel", "readAll", "()V"⟩ ⟨"MownMazeModel", "readAll", "()V"⟩ : Cond) ∈ WS := ws_p (List.mem_map.mpr ⟨(⟨"MownMazeModel", "readAll", "()V"⟩, 43), List.mem_of_getElem? (i := 53) rfl, rfl⟩) rfl
set_option maxRecDepth 20000 in
theorem tw_p54 : (Cond.selects "MownMazeModel" ⟨"MownMazeModel", "readLine", "()V"⟩ ⟨"MownMazeModel", "readLine", "()V"⟩ : Cond) ∈ WS := ws_p (List.mem_map.mpr ⟨(⟨"MownMazeModel", "readLine", "()V"⟩, 43), List.mem_of_getElem? (i := 54) rfl, rfl⟩) rfl
set_option maxRecDepth 20000 in
theorem tw_p55 : (Cond.selects "MownMazeModel" ⟨"MownMazeModel", "isWord", "(Ljava/lang/String;)Z"⟩ ⟨"MownMazeModel", "isWord", "(Ljava/lang/String;)Z"⟩ : Cond) ∈ WS := ws_p (List.mem_map.mpr ⟨(⟨"MownMazeModel", "isWord", "(Ljava/lang/String;)Z"⟩, 43), List.mem_of_getElem? (i := 55) rfl, rfl⟩) rfl
set_option maxRecDepth 20000 in
theorem tw_p56 : (Cond.selects "MownMazeModel" ⟨"MownMazeModel", "readMeadow", "()V"⟩ ⟨"MownMazeModel", "readMeadow", "()V"⟩ : Cond) ∈ WS := ws_p (List.mem_map.mpr ⟨(⟨"MownMazeModel", "readMeadow", "()V"⟩, 43), List.mem_of_getElem? (i := 56) rfl, rfl⟩) rfl
set_option maxRecDepth 20000 in
theorem tw_p57 : (Cond.selects "MownMazeModel" ⟨"MownMazeModel", "flaw", "(I)V"⟩ ⟨"MownMazeModel", "flaw", "(I)V"⟩ : Cond) ∈ WS := ws_p (List.mem_map.mpr ⟨(⟨"MownMazeModel", "flaw", "(I)V"⟩, 43), List.mem_of_getElem? (i := 57) rfl, rfl⟩) rfl
set_option maxRecDepth 20000 in
theorem tw_p58 : (Cond.selects "MownMazeModel" ⟨"MownMazeModel", "readPart", "(Ljava/lang/String;II)I"⟩ ⟨"MownMazeModel", "readPart", "(Ljava/lang/String;II)I"⟩ : Cond) ∈ WS := ws_p (List.mem_map.mpr ⟨(⟨"MownMazeModel", "readPart", "(Ljava/lang/String;II)I"⟩, 43), List.mem_of_getElem? (i := 58) rfl, rfl⟩) rfl
set_option maxRecDepth 20000 in
theorem tw_p59 : (Cond.selects "MownMazeModel" ⟨"MownMazeModel", "needs", "(Ljava/lang/String;)V"⟩ ⟨"MownMazeModel", "needs", "(Ljava/lang/String;)V"⟩ : Cond) ∈ WS := ws_p (List.mem_map.mpr ⟨(⟨"MownMazeModel", "needs", "(Ljava/lang/String;)V"⟩, 43), List.mem_of_getElem? (i := 59) rfl, rfl⟩) rfl
set_option maxRecDepth 20000 in
theorem tw_p60 : (Cond.selects "MownMazeModel" ⟨"MownMazeModel", "readWhole", "(II)I"⟩ ⟨"MownMazeModel", "readWhole", "(II)I"⟩ : Cond) ∈ WS := ws_p (List.mem_map.mpr ⟨(⟨"MownMazeModel", "readWhole", "(II)I"⟩, 43), List.mem_of_getElem? (i := 60) rfl, rfl⟩) rfl
set_option maxRecDepth 20000 in
theorem tw_p61 : (Cond.selects "MownMazeModel" ⟨"MownMazeModel", "bounded", "(II)I"⟩ ⟨"MownMazeModel", "bounded", "(II)I"⟩ : Cond) ∈ WS := ws_p (List.mem_map.mpr ⟨(⟨"MownMazeModel", "bounded", "(II)I"⟩, 43), List.mem_of_getElem? (i := 61) rfl, rfl⟩) rfl
set_option maxRecDepth 20000 in
theorem tw_p62 : (Cond.selects "MownMazeModel" ⟨"MownMazeModel", "readRow", "()V"⟩ ⟨"MownMazeModel", "readRow", "()V"⟩ : Cond) ∈ WS := ws_p (List.mem_map.mpr ⟨(⟨"MownMazeModel", "readRow", "()V"⟩, 43), List.mem_of_getElem? (i := 62) rfl, rfl⟩) rfl
set_option maxRecDepth 20000 in
theorem tw_p63 : (Cond.selects "MownMazeModel" ⟨"MownMazeModel", "begins", "(II)V"⟩ ⟨"MownMazeModel", "begins", "(II)V"⟩ : Cond) ∈ WS := ws_p (List.mem_map.mpr ⟨(⟨"MownMazeModel", "begins", "(II)V"⟩, 43), List.mem_of_getElem? (i := 63) rfl, rfl⟩) rfl
set_option maxRecDepth 20000 in
theorem tw_p64 : (Cond.selects "MownMazeModel" ⟨"MownMazeModel", "readCells", "(IZ)V"⟩ ⟨"MownMazeModel", "readCells", "(IZ)V"⟩ : Cond) ∈ WS := ws_p (List.mem_map.mpr ⟨(⟨"MownMazeModel", "readCells", "(IZ)V"⟩, 43), List.mem_of_getElem? (i := 64) rfl, rfl⟩) rfl
set_option maxRecDepth 20000 in
theorem tw_p65 : (Cond.selects "MownMazeModel" ⟨"MownMazeModel", "readWant", "()V"⟩ ⟨"MownMazeModel", "readWant", "()V"⟩ : Cond) ∈ WS := ws_p (List.mem_map.mpr ⟨(⟨"MownMazeModel", "readWant", "()V"⟩, 43), List.mem_of_getElem? (i := 65) rfl, rfl⟩) rfl
set_option maxRecDepth 20000 in
theorem tw_p66 : (Cond.selects "MownMazeModel" ⟨"MownMazeModel", "readMoon", "()V"⟩ ⟨"MownMazeModel", "readMoon", "()V"⟩ : Cond) ∈ WS := ws_p (List.mem_map.mpr ⟨(⟨"MownMazeModel", "readMoon", "()V"⟩, 43), List.mem_of_getElem? (i := 66) rfl, rfl⟩) rfl
set_option maxRecDepth 20000 in
theorem tw_p67 : (Cond.selects "MownMazeModel" ⟨"MownMazeModel", "readGate", "()V"⟩ ⟨"MownMazeModel", "readGate", "()V"⟩ : Cond) ∈ WS := ws_p (List.mem_map.mpr ⟨(⟨"MownMazeModel", "readGate", "()V"⟩, 43), List.mem_of_getElem? (i := 67) rfl, rfl⟩) rfl
set_option maxRecDepth 20000 in
theorem tw_p68 : (Cond.selects "MownMazeModel" ⟨"MownMazeModel", "needsSign", "(I)V"⟩ ⟨"MownMazeModel", "needsSign", "(I)V"⟩ : Cond) ∈ WS := ws_p (List.mem_map.mpr ⟨(⟨"MownMazeModel", "needsSign", "(I)V"⟩, 43), List.mem_of_getElem? (i := 68) rfl, rfl⟩) rfl
set_option maxRecDepth 20000 in
theorem tw_p69 : (Cond.selects "MownMazeModel" ⟨"MownMazeModel", "readNoise", "()V"⟩ ⟨"MownMazeModel", "readNoise", "()V"⟩ : Cond) ∈ WS := ws_p (List.mem_map.mpr ⟨(⟨"MownMazeModel", "readNoise", "()V"⟩, 43), List.mem_of_getElem? (i := 69) rfl, rfl⟩) rfl
set_option maxRecDepth 20000 in
theorem tw_p70 : (Cond.selects "MownMazeModel" ⟨"MownMazeModel", "readCell", "()I"⟩ ⟨"MownMazeModel", "readCell", "()I"⟩ : Cond) ∈ WS := ws_p (List.mem_map.mpr ⟨(⟨"MownMazeModel", "readCell", "()I"⟩, 43), List.mem_of_getElem? (i := 70) rfl, rfl⟩) rfl
set_option maxRecDepth 20000 in
theorem tw_p71 : (Cond.selects "MownMazeModel" ⟨"MownMazeModel", "readHeard", "()V"⟩ ⟨"MownMazeModel", "readHeard", "()V"⟩ : Cond) ∈ WS := ws_p (List.mem_map.mpr ⟨(⟨"MownMazeModel", "readHeard", "()V"⟩, 43), List.mem_of_getElem? (i := 71) rfl, rfl⟩) rfl
set_option maxRecDepth 20000 in
theorem tw_p72 : (Cond.selects "MownMazeModel" ⟨"MownMazeModel", "readWalker", "()V"⟩ ⟨"MownMazeModel", "readWalker", "()V"⟩ : Cond) ∈ WS := ws_p (List.mem_map.mpr ⟨(⟨"MownMazeModel", "readWalker", "()V"⟩, 43), List.mem_of_getElem? (i := 72) rfl, rfl⟩) rfl
set_option maxRecDepth 20000 in
theorem tw_p73 : (Cond.selects "MownMazeModel" ⟨"MownMazeModel", "isName", "()Z"⟩ ⟨"MownMazeModel", "isName", "()Z"⟩ : Cond) ∈ WS := ws_p (List.mem_map.mpr ⟨(⟨"MownMazeModel", "isName", "()Z"⟩, 43), List.mem_of_getElem? (i := 73) rfl, rfl⟩) rfl
set_option maxRecDepth 20000 in
theorem tw_p74 : (Cond.selects "MownMazeModel" ⟨"MownMazeModel", "eatsWord", "(Ljava/lang/String;)Z"⟩ ⟨"MownMazeModel", "eatsWord", "(Ljava/lang/String;)Z"⟩ : Cond) ∈ WS := ws_p (List.mem_map.mpr ⟨(⟨"MownMazeModel", "eatsWord", "(Ljava/lang/String;)Z"⟩, 43), List.mem_of_getElem? (i := 74) rfl, rfl⟩) rfl
set_option maxRecDepth 20000 in
theorem tw_p75 : (Cond.selects "MownMazeModel" ⟨"MownMazeModel", "eatsSign", "(I)Z"⟩ ⟨"MownMazeModel", "eatsSign", "(I)Z"⟩ : Cond) ∈ WS := ws_p (List.mem_map.mpr ⟨(⟨"MownMazeModel", "eatsSign", "(I)Z"⟩, 43), List.mem_of_getElem? (i := 75) rfl, rfl⟩) rfl
set_option maxRecDepth 20000 in
theorem tw_p76 : (Cond.selects "MownMazeModel" ⟨"MownMazeModel", "good", "(I)I"⟩ ⟨"MownMazeModel", "good", "(I)I"⟩ : Cond) ∈ WS := ws_p (List.mem_map.mpr ⟨(⟨"MownMazeModel", "good", "(I)I"⟩, 43), List.mem_of_getElem? (i := 76) rfl, rfl⟩) rfl
set_option maxRecDepth 20000 in
theorem tw_p77 : (Cond.selects "MownMazeModel" ⟨"MownMazeModel", "isCell", "(II)Z"⟩ ⟨"MownMazeModel", "isCell", "(II)Z"⟩ : Cond) ∈ WS := ws_p (List.mem_map.mpr ⟨(⟨"MownMazeModel", "isCell", "(II)Z"⟩, 43), List.mem_of_getElem? (i := 77) rfl, rfl⟩) rfl
set_option maxRecDepth 20000 in
theorem tw_p78 : (Cond.selects "MownMazeModel" ⟨"MownMazeModel", "cellOf", "(II)I"⟩ ⟨"MownMazeModel", "cellOf", "(II)I"⟩ : Cond) ∈ WS := ws_p (List.mem_map.mpr ⟨(⟨"MownMazeModel", "cellOf", "(II)I"⟩, 43), List.mem_of_getElem? (i := 78) rfl, rfl⟩) rfl
set_option maxRecDepth 20000 in
theorem tw_p79 : (Cond.selects "MownMazeModel" ⟨"MownMazeModel", "besideOf", "(JI)J"⟩ ⟨"MownMazeModel", "besideOf", "(JI)J"⟩ : Cond) ∈ WS := ws_p (List.mem_map.mpr ⟨(⟨"MownMazeModel", "besideOf", "(JI)J"⟩, 43), List.mem_of_getElem? (i := 79) rfl, rfl⟩) rfl
set_option maxRecDepth 20000 in
theorem tw_p80 : (Cond.selects "MownMazeModel" ⟨"MownMazeModel", "partsOf", "(J)I"⟩ ⟨"MownMazeModel", "partsOf", "(J)I"⟩ : Cond) ∈ WS := ws_p (List.mem_map.mpr ⟨(⟨"MownMazeModel", "partsOf", "(J)I"⟩, 43), List.mem_of_getElem? (i := 80) rfl, rfl⟩) rfl
set_option maxRecDepth 20000 in
theorem tw_p81 : (Cond.selects "MownMazeModel" ⟨"MownMazeModel", "laysFar", "(JI)V"⟩ ⟨"MownMazeModel", "laysFar", "(JI)V"⟩ : Cond) ∈ WS := ws_p (List.mem_map.mpr ⟨(⟨"MownMazeModel", "laysFar", "(JI)V"⟩, 43), List.mem_of_getElem? (i := 81) rfl, rfl⟩) rfl
set_option maxRecDepth 20000 in
theorem tw_p82 : (Cond.selects "MownMazeModel" ⟨"MownMazeModel", "isNumber", "(I)Z"⟩ ⟨"MownMazeModel", "isNumber", "(I)Z"⟩ : Cond) ∈ WS := ws_p (List.mem_map.mpr ⟨(⟨"MownMazeModel", "isNumber", "(I)Z"⟩, 43), List.mem_of_getElem? (i := 82) rfl, rfl⟩) rfl
set_option maxRecDepth 20000 in
theorem tw_p83 : (Cond.selects "MownMazeModel" ⟨"MownMazeModel", "splitsAt", "(I)Z"⟩ ⟨"MownMazeModel", "splitsAt", "(I)Z"⟩ : Cond) ∈ WS := ws_p (List.mem_map.mpr ⟨(⟨"MownMazeModel", "splitsAt", "(I)Z"⟩, 43), List.mem_of_getElem? (i := 83) rfl, rfl⟩) rfl
set_option maxRecDepth 20000 in
theorem tw_p84 : (Cond.selects "MownMazeModel" ⟨"MownMazeModel", "isWalker", "(I)Z"⟩ ⟨"MownMazeModel", "isWalker", "(I)Z"⟩ : Cond) ∈ WS := ws_p (List.mem_map.mpr ⟨(⟨"MownMazeModel", "isWalker", "(I)Z"⟩, 43), List.mem_of_getElem? (i := 84) rfl, rfl⟩) rfl
set_option maxRecDepth 20000 in
theorem tw_p85 : (Cond.selects "MownMazeModel" ⟨"MownMazeModel", "walks", "(I)V"⟩ ⟨"MownMazeModel", "walks", "(I)V"⟩ : Cond) ∈ WS := ws_p (List.mem_map.mpr ⟨(⟨"MownMazeModel", "walks", "(I)V"⟩, 43), List.mem_of_getElem? (i := 85) rfl, rfl⟩) rfl
set_option maxRecDepth 20000 in
theorem tw_p86 : (Cond.selects "MownMazeModel" ⟨"MownMazeModel", "sets", "(I)V"⟩ ⟨"MownMazeModel", "sets", "(I)V"⟩ : Cond) ∈ WS := ws_p (List.mem_map.mpr ⟨(⟨"MownMazeModel", "sets", "(I)V"⟩, 43), List.mem_of_getElem? (i := 86) rfl, rfl⟩) rfl
set_option maxRecDepth 20000 in
theorem tw_p87 : (Cond.selects "MownMazeModel" ⟨"MownMazeModel", "goes", "(I)V"⟩ ⟨"MownMazeModel", "goes", "(I)V"⟩ : Cond) ∈ WS := ws_p (List.mem_map.mpr ⟨(⟨"MownMazeModel", "goes", "(I)V"⟩, 43), List.mem_of_getElem? (i := 87) rfl, rfl⟩) rfl
set_option maxRecDepth 20000 in
theorem tw_p88 : (Cond.selects "MownMazeModel" ⟨"MownMazeModel", "turns", "(I)V"⟩ ⟨"MownMazeModel", "turns", "(I)V"⟩ : Cond) ∈ WS := ws_p (List.mem_map.mpr ⟨(⟨"MownMazeModel", "turns", "(I)V"⟩, 43), List.mem_of_getElem? (i := 88) rfl, rfl⟩) rfl
set_option maxRecDepth 20000 in
theorem tw_p89 : (Cond.selects "MownMazeModel" ⟨"MownMazeModel", "mownTo", "(I)I"⟩ ⟨"MownMazeModel", "mownTo", "(I)I"⟩ : Cond) ∈ WS := ws_p (List.mem_map.mpr ⟨(⟨"MownMazeModel", "mownTo", "(I)I"⟩, 43), List.mem_of_getElem? (i := 89) rfl, rfl⟩) rfl
set_option maxRecDepth 20000 in
theorem tw_p90 : (Cond.selects "MownMazeModel" ⟨"MownMazeModel", "goesOnce", "()V"⟩ ⟨"MownMazeModel", "goesOnce", "()V"⟩ : Cond) ∈ WS := ws_p (List.mem_map.mpr ⟨(⟨"MownMazeModel", "goesOnce", "()V"⟩, 43), List.mem_of_getElem? (i := 90) rfl, rfl⟩) rfl
set_option maxRecDepth 20000 in
theorem tw_p91 : (Cond.selects "MownMazeModel" ⟨"MownMazeModel", "goesToNoise", "()V"⟩ ⟨"MownMazeModel", "goesToNoise", "()V"⟩ : Cond) ∈ WS := ws_p (List.mem_map.mpr ⟨(⟨"MownMazeModel", "goesToNoise", "()V"⟩, 43), List.mem_of_getElem? (i := 91) rfl, rfl⟩) rfl
set_option maxRecDepth 20000 in
theorem tw_p92 : (Cond.selects "MownMazeModel" ⟨"MownMazeModel", "goesByLot", "()V"⟩ ⟨"MownMazeModel", "goesByLot", "()V"⟩ : Cond) ∈ WS := ws_p (List.mem_map.mpr ⟨(⟨"MownMazeModel", "goesByLot", "()V"⟩, 43), List.mem_of_getElem? (i := 92) rfl, rfl⟩) rfl
set_option maxRecDepth 20000 in
theorem tw_p93 : (Cond.selects "MownMazeModel" ⟨"MownMazeModel", "isGate", "(I)Z"⟩ ⟨"MownMazeModel", "isGate", "(I)Z"⟩ : Cond) ∈ WS := ws_p (List.mem_map.mpr ⟨(⟨"MownMazeModel", "isGate", "(I)Z"⟩, 43), List.mem_of_getElem? (i := 93) rfl, rfl⟩) rfl
set_option maxRecDepth 20000 in
theorem tw_p94 : (Cond.selects "MownMazeModel" ⟨"MownMazeModel", "ringOf", "(I)I"⟩ ⟨"MownMazeModel", "ringOf", "(I)I"⟩ : Cond) ∈ WS := ws_p (List.mem_map.mpr ⟨(⟨"MownMazeModel", "ringOf", "(I)I"⟩, 43), List.mem_of_getElem? (i := 94) rfl, rfl⟩) rfl
set_option maxRecDepth 20000 in
theorem tw_p95 : (Cond.selects "MownMazeModel" ⟨"MownMazeModel", "there", "(I)I"⟩ ⟨"MownMazeModel", "there", "(I)I"⟩ : Cond) ∈ WS := ws_p (List.mem_map.mpr ⟨(⟨"MownMazeModel", "there", "(I)I"⟩, 43), List.mem_of_getElem? (i := 95) rfl, rfl⟩) rfl
set_option maxRecDepth 20000 in
theorem tw_p96 : (Cond.selects "MownMazeModel" ⟨"MownMazeModel", "paidNow", "()I"⟩ ⟨"MownMazeModel", "paidNow", "()I"⟩ : Cond) ∈ WS := ws_p (List.mem_map.mpr ⟨(⟨"MownMazeModel", "paidNow", "()I"⟩, 43), List.mem_of_getElem? (i := 96) rfl, rfl⟩) rfl
set_option maxRecDepth 20000 in
theorem tw_p97 : (Cond.selects "MownMazeModel" ⟨"MownMazeModel", "unlikeNow", "(Z)J"⟩ ⟨"MownMazeModel", "unlikeNow", "(Z)J"⟩ : Cond) ∈ WS := ws_p (List.mem_map.mpr ⟨(⟨"MownMazeModel", "unlikeNow", "(Z)J"⟩, 43), List.mem_of_getElem? (i := 97) rfl, rfl⟩) rfl
set_option maxRecDepth 20000 in
theorem tw_p98 : (Cond.selects "MownMazeModel" ⟨"MownMazeModel", "clashNow", "()J"⟩ ⟨"MownMazeModel", "clashNow", "()J"⟩ : Cond) ∈ WS := ws_p (List.mem_map.mpr ⟨(⟨"MownMazeModel", "clashNow", "()J"⟩, 43), List.mem_of_getElem? (i := 98) rfl, rfl⟩) rfl
set_option maxRecDepth 20000 in
theorem tw_p99 : (Cond.selects "MownMazeModel" ⟨"MownMazeModel", "toMowNow", "()J"⟩ ⟨"MownMazeModel", "toMowNow", "()J"⟩ : Cond) ∈ WS := ws_p (List.mem_map.mpr ⟨(⟨"MownMazeModel", "toMowNow", "()J"⟩, 43), List.mem_of_getElem? (i := 99) rfl, rfl⟩) rfl
set_option maxRecDepth 20000 in
theorem tw_p100 : (Cond.selects "MownMazeModel" ⟨"MownMazeModel", "strokesNow", "()I"⟩ ⟨"MownMazeModel", "strokesNow", "()I"⟩ : Cond) ∈ WS := ws_p (List.mem_map.mpr ⟨(⟨"MownMazeModel", "strokesNow", "()I"⟩, 43), List.mem_of_getElem? (i := 100) rfl, rfl⟩) rfl
set_option maxRecDepth 20000 in
theorem tw_p101 : (Cond.selects "MownMazeModel" ⟨"MownMazeModel", "strokesTo", "(III)I"⟩ ⟨"MownMazeModel", "strokesTo", "(III)I"⟩ : Cond) ∈ WS := ws_p (List.mem_map.mpr ⟨(⟨"MownMazeModel", "strokesTo", "(III)I"⟩, 43), List.mem_of_getElem? (i := 101) rfl, rfl⟩) rfl
set_option maxRecDepth 20000 in
theorem tw_p102 : (Cond.selects "MownMazeModel" ⟨"MownMazeModel", "isBeside", "(II)Z"⟩ ⟨"MownMazeModel", "isBeside", "(II)Z"⟩ : Cond) ∈ WS := ws_p (List.mem_map.mpr ⟨(⟨"MownMazeModel", "isBeside", "(II)Z"⟩, 43), List.mem_of_getElem? (i := 102) rfl, rfl⟩) rfl
set_option maxRecDepth 20000 in
theorem tw_p103 : (Cond.selects "MownMazeModel" ⟨"MownMazeModel", "weekOf", "(J)J"⟩ ⟨"MownMazeModel", "weekOf", "(J)J"⟩ : Cond) ∈ WS := ws_p (List.mem_map.mpr ⟨(⟨"MownMazeModel", "weekOf", "(J)J"⟩, 43), List.mem_of_getElem? (i := 103) rfl, rfl⟩) rfl
set_option maxRecDepth 20000 in
theorem tw_p104 : (Cond.selects "MownMazeModel" ⟨"MownMazeModel", "hasWay", "(J)Z"⟩ ⟨"MownMazeModel", "hasWay", "(J)Z"⟩ : Cond) ∈ WS := ws_p (List.mem_map.mpr ⟨(⟨"MownMazeModel", "hasWay", "(J)Z"⟩, 43), List.mem_of_getElem? (i := 104) rfl, rfl⟩) rfl
set_option maxRecDepth 20000 in
theorem tw_p105 : (Cond.selects "MownMazeModel" ⟨"MownMazeModel", "seenNow", "(I)I"⟩ ⟨"MownMazeModel", "seenNow", "(I)I"⟩ : Cond) ∈ WS := ws_p (List.mem_map.mpr ⟨(⟨"MownMazeModel", "seenNow", "(I)I"⟩, 43), List.mem_of_getElem? (i := 105) rfl, rfl⟩) rfl
set_option maxRecDepth 20000 in
theorem tw_p106 : (Cond.selects "MownMazeModel" ⟨"MownMazeModel", "isFree", "(II)Z"⟩ ⟨"MownMazeModel", "isFree", "(II)Z"⟩ : Cond) ∈ WS := ws_p (List.mem_map.mpr ⟨(⟨"MownMazeModel", "isFree", "(II)Z"⟩, 43), List.mem_of_getElem? (i := 106) rfl, rfl⟩) rfl
set_option maxRecDepth 20000 in
theorem tw_p107 : (Cond.selects "MownMazeModel" ⟨"MownMazeModel", "placesNow", "()J"⟩ ⟨"MownMazeModel", "placesNow", "()J"⟩ : Cond) ∈ WS := ws_p (List.mem_map.mpr ⟨(⟨"MownMazeModel", "placesNow", "()J"⟩, 43), List.mem_of_getElem? (i := 107) rfl, rfl⟩) rfl
set_option maxRecDepth 20000 in
theorem tw_p108 : (Cond.selects "MownMazeModel" ⟨"MownMazeModel", "bestNow", "()I"⟩ ⟨"MownMazeModel", "bestNow", "()I"⟩ : Cond) ∈ WS := ws_p (List.mem_map.mpr ⟨(⟨"MownMazeModel", "bestNow", "()I"⟩, 43), List.mem_of_getElem? (i := 108) rfl, rfl⟩) rfl
set_option maxRecDepth 20000 in
theorem tw_p109 : (Cond.selects "MownMazeModel" ⟨"MownMazeModel", "changesTo", "(IIZ)Z"⟩ ⟨"MownMazeModel", "changesTo", "(IIZ)Z"⟩ : Cond) ∈ WS := ws_p (List.mem_map.mpr ⟨(⟨"MownMazeModel", "changesTo", "(IIZ)Z"⟩, 43), List.mem_of_getElem? (i := 109) rfl, rfl⟩) rfl
set_option maxRecDepth 20000 in
theorem tw_p110 : (Cond.selects "MownMazeModel" ⟨"MownMazeModel", "denied", "(I)Z"⟩ ⟨"MownMazeModel", "denied", "(I)Z"⟩ : Cond) ∈ WS := ws_p (List.mem_map.mpr ⟨(⟨"MownMazeModel", "denied", "(I)Z"⟩, 43), List.mem_of_getElem? (i := 110) rfl, rfl⟩) rfl
set_option maxRecDepth 20000 in
theorem tw_p111 : (Cond.selects "MownMazeModel" ⟨"MownMazeModel", "keeps", "()V"⟩ ⟨"MownMazeModel", "keeps", "()V"⟩ : Cond) ∈ WS := ws_p (List.mem_map.mpr ⟨(⟨"MownMazeModel", "keeps", "()V"⟩, 43), List.mem_of_getElem? (i := 111) rfl, rfl⟩) rfl
set_option maxRecDepth 20000 in
theorem tw_p112 : (Cond.selects "MownMazeModel" ⟨"MownMazeModel", "granted", "()Z"⟩ ⟨"MownMazeModel", "granted", "()Z"⟩ : Cond) ∈ WS := ws_p (List.mem_map.mpr ⟨(⟨"MownMazeModel", "granted", "()Z"⟩, 43), List.mem_of_getElem? (i := 112) rfl, rfl⟩) rfl
