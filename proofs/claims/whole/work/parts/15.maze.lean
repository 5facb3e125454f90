noncomputable section
abbrev XX10_init : MX := (yX10_init, cX10_init, 1, none, Cond.code yX10_init cX10_init 1 none :: WS, { frames := 3, cells := 54, slots := 10386, locals := 61 })
def BX10_init_105 : KT HP :=
  oCal 2 (some 8) EX8_init fVH (oPut 10 5 (.object "MownMaze$Walk") (oAld 0 (oConst (.int 48) (oNar 1 zI 48 (oPut 10 6 (.array .int) (oVretH))))))
set_option maxRecDepth 20000 in
theorem sBX10_init_105 : Snd XX10_init fVH 105 (BX10_init_105) (4) (345) := by
  unfold BX10_init_105
  refine s_cal (mc := 1) (ms := 48) 108 (run_I (X := XX10_init) 8 rfl yoX8_init rfl rfl tw_304 tw_305 (by decide) dX10_init_105) cmX8_init (fun _ _ _ => rfl) rfl ?_
  refine s_putF 10 5 111 clX10 (by decide) rfl rfl rfl rfl pVH tw_354 dX10_init_108 rfl ?_
  refine s_Aldn 0 rfl 112 dX10_init_111 rfl ?_
  refine s_bipush 114 48 (by decide) dX10_init_112 rfl ?_
  refine s_narI (mc := 0) (ms := 0) 48 116 (by decide) pVH tw_126 dX10_init_114 rfl ?_
  refine s_putF 10 6 119 clX10 (by decide) rfl rfl rfl rfl pVH tw_355 dX10_init_116 rfl ?_
  exact s_vretH rfl dX10_init_119
def BX10_init_90 : KT HP :=
  oCal 2 (some 8) EX8_init fVH (oPut 10 4 (.object "MownMaze$Walk") (oAld 0 (oNew 8 [.null, .null, .null, .null, .null, .long 0, .long 0, .int 0, .int 0, .int 0, .int 0, .int 0] (odup (oAld 0 (oGet 10 7 (oPick [0] (BX10_init_105))))))))
set_option maxRecDepth 20000 in
theorem sBX10_init_90 : Snd XX10_init fVH 90 (BX10_init_90) (8) (654) := by
  unfold BX10_init_90
  refine s_cal (mc := 5) (ms := 357) 93 (run_I (X := XX10_init) 8 rfl yoX8_init rfl rfl tw_304 tw_305 (by decide) dX10_init_90) cmX8_init (fun _ _ _ => rfl) rfl ?_
  refine s_putF 10 4 96 clX10 (by decide) rfl rfl rfl rfl pVH tw_353 dX10_init_93 rfl ?_
  refine s_Aldn 0 rfl 97 dX10_init_96 rfl ?_
  refine s_new (mc := 4) (ms := 345) 8 100 clX8 (by decide +kernel) (fun _ => rfl) pVH tw_302 tw_303 tw_11 dX10_init_97 rfl ?_
  refine s_dup 101 dX10_init_100 rfl ?_
  refine s_Aldn 0 rfl 102 dX10_init_101 rfl ?_
  refine s_get 10 7 105 clX10 (by decide) tw_356 dX10_init_102 rfl ?_
  exact s_pick (sBX10_init_105)
def BX10_init_75 : KT HP :=
  oCal 1 (some 3) EX3_init fVH (oPut 10 8 (.object "MownMaze$Plan") (oAld 0 (oNew 8 [.null, .null, .null, .null, .null, .long 0, .long 0, .int 0, .int 0, .int 0, .int 0, .int 0] (odup (oAld 0 (oGet 10 7 (oPick [0] (BX10_init_90))))))))
set_option maxRecDepth 20000 in
theorem sBX10_init_75 : Snd XX10_init fVH 75 (BX10_init_75) (24) (923) := by
  unfold BX10_init_75
  refine s_cal (mc := 9) (ms := 666) 78 (run_I (X := XX10_init) 3 rfl yoX3_init rfl rfl tw_145 tw_146 (by decide) dX10_init_75) cmX3_init (fun _ _ _ => rfl) rfl ?_
  refine s_put 10 8 81 clX10 (by decide) rfl rfl pVH tw_357 dX10_init_78 rfl ?_
  refine s_Aldn 0 rfl 82 dX10_init_81 rfl ?_
  refine s_new (mc := 8) (ms := 654) 8 85 clX8 (by decide +kernel) (fun _ => rfl) pVH tw_302 tw_303 tw_11 dX10_init_82 rfl ?_
  refine s_dup 86 dX10_init_85 rfl ?_
  refine s_Aldn 0 rfl 87 dX10_init_86 rfl ?_
  refine s_get 10 7 90 clX10 (by decide) tw_356 dX10_init_87 rfl ?_
  exact s_pick (sBX10_init_90)
def BX10_init_64 : KT HP :=
  oCal 1 (some 3) EX3_init fVH (oPut 10 7 (.object "MownMaze$Plan") (oAld 0 (oNew 3 [.null, .null, .null, .null, .null, .null, .null, .null, .int 0, .int 0, .int 0, .int 0, .long 0, .int 0, .int 0, .int 0] (odup (oPick [0] (BX10_init_75))))))
set_option maxRecDepth 20000 in
theorem sBX10_init_64 : Snd XX10_init fVH 64 (BX10_init_64) (40) (1196) := by
  unfold BX10_init_64
  refine s_cal (mc := 25) (ms := 939) 67 (run_I (X := XX10_init) 3 rfl yoX3_init rfl rfl tw_145 tw_146 (by decide) dX10_init_64) cmX3_init (fun _ _ _ => rfl) rfl ?_
  refine s_put 10 7 70 clX10 (by decide) rfl rfl pVH tw_356 dX10_init_67 rfl ?_
  refine s_Aldn 0 rfl 71 dX10_init_70 rfl ?_
  refine s_new (mc := 24) (ms := 923) 3 74 clX3 (by decide +kernel) (fun _ => rfl) pVH tw_143 tw_144 tw_7 dX10_init_71 rfl ?_
  refine s_dup 75 dX10_init_74 rfl ?_
  exact s_pick (sBX10_init_75)
def BX10_init_0 : KT HP :=
  oAld 0 (oPopA (oAld 0 (oNew 6 [.null, .int 0] (odup (oCal 1 (some 6) EX6_init fVH (oPut 10 0 (.object "MownMaze$Tape") (oAld 0 (oNew 4 [.null, .int 0, .int 0, .int 0, .int 0, .int 0] (odup (oNew 7 [.null, .int 0, .int 0, .int 0, .int 0, .int 0, .long 0] (odup (oAld 0 (oGet 10 0 (oCal 2 (some 7) EX7_init fVH (oCal 2 (some 4) EX4_init fVH (oPut 10 1 (.object "MownMaze$Reader") (oAld 0 (oNew 1 [.null, .null, .null, .null, .int 0, .int 0] (odup (oCal 1 (some 1) EX1_init fVH (oPut 10 2 (.object "MownMaze$History") (oAld 0 (oNew 5 [.null, .null, .null] (odup (oCal 1 (some 5) EX5_init fVH (oPut 10 3 (.object "MownMaze$Scythe") (oAld 0 (oNew 3 [.null, .null, .null, .null, .null, .null, .null, .null, .int 0, .int 0, .int 0, .int 0, .long 0, .int 0, .int 0, .int 0] (odup (oPick [0] (BX10_init_64)))))))))))))))))))))))))))))))
set_option maxRecDepth 20000 in
theorem sBX10_init_0 : Snd XX10_init fVH 0 (BX10_init_0) (54) (10386) := by
  unfold BX10_init_0
  refine s_Aldn 0 rfl 1 dX10_init_0 rfl ?_
  refine s_objI 4 tw_30 tw_31 tw_32 (by decide) (by decide) dX10_init_1 rfl ?_
  refine s_Aldn 0 rfl 5 dX10_init_4 rfl ?_
  refine s_new (mc := 53) (ms := 10384) 6 8 clX6 (by decide +kernel) (fun _ => rfl) pVH tw_33 tw_34 tw_2 dX10_init_5 rfl ?_
  refine s_dup 9 dX10_init_8 rfl ?_
  refine s_cal (mc := 52) (ms := 9484) 12 (run_IN (X := XX10_init) 6 rfl yoX6_init rfl rfl nw_68 tw_36 (by decide) dX10_init_9) cmX6_init (fun _ _ _ => rfl) rfl ?_
  refine s_putF 10 0 15 clX10 (by decide) rfl rfl rfl rfl pVH tw_349 dX10_init_12 rfl ?_
  refine s_Aldn 0 rfl 16 dX10_init_15 rfl ?_
  refine s_new (mc := 51) (ms := 9478) 4 19 clX4 (by decide +kernel) (fun _ => rfl) pVH tw_47 tw_48 tw_3 dX10_init_16 rfl ?_
  refine s_dup 20 dX10_init_19 rfl ?_
  refine s_new (mc := 50) (ms := 9471) 7 23 clX7 (by decide +kernel) (fun _ => rfl) pVH tw_49 tw_50 tw_4 dX10_init_20 rfl ?_
  refine s_dup 24 dX10_init_23 rfl ?_
  refine s_Aldn 0 rfl 25 dX10_init_24 rfl ?_
  refine s_get 10 0 28 clX10 (by decide) tw_349 dX10_init_25 rfl ?_
  refine s_cal0 31 (run_I (X := XX10_init) 7 rfl yoX7_init rfl rfl tw_51 tw_52 (by decide) dX10_init_28) cmX7_init (fun _ _ _ => rfl) rfl ?_
  refine s_cal0 34 (run_I (X := XX10_init) 4 rfl yoX4_init rfl rfl tw_77 tw_78 (by decide) dX10_init_31) cmX4_init (fun _ _ _ => rfl) rfl ?_
  refine s_putF 10 1 37 clX10 (by decide) rfl rfl rfl rfl pVH tw_350 dX10_init_34 rfl ?_
  refine s_Aldn 0 rfl 38 dX10_init_37 rfl ?_
  refine s_new (mc := 49) (ms := 9465) 1 41 clX1 (by decide +kernel) (fun _ => rfl) pVH tw_100 tw_101 tw_5 dX10_init_38 rfl ?_
  refine s_dup 42 dX10_init_41 rfl ?_
  refine s_cal (mc := 45) (ms := 9419) 45 (run_IN (X := XX10_init) 1 rfl yoX1_init rfl rfl nw_69 tw_103 (by decide) dX10_init_42) cmX1_init (fun _ _ _ => rfl) rfl ?_
  refine s_putF 10 2 48 clX10 (by decide) rfl rfl rfl rfl pVH tw_351 dX10_init_45 rfl ?_
  refine s_Aldn 0 rfl 49 dX10_init_48 rfl ?_
  refine s_new (mc := 44) (ms := 9416) 5 52 clX5 (by decide +kernel) (fun _ => rfl) pVH tw_127 tw_128 tw_6 dX10_init_49 rfl ?_
  refine s_dup 53 dX10_init_52 rfl ?_
  refine s_cal (mc := 41) (ms := 1212) 56 (run_IN (X := XX10_init) 5 rfl yoX5_init rfl rfl nw_70 tw_130 (by decide) dX10_init_53) cmX5_init (fun _ _ _ => rfl) rfl ?_
  refine s_putF 10 3 59 clX10 (by decide) rfl rfl rfl rfl pVH tw_352 dX10_init_56 rfl ?_
  refine s_Aldn 0 rfl 60 dX10_init_59 rfl ?_
  refine s_new (mc := 40) (ms := 1196) 3 63 clX3 (by decide +kernel) (fun _ => rfl) pVH tw_143 tw_144 tw_7 dX10_init_60 rfl ?_
  refine s_dup 64 dX10_init_63 rfl ?_
  exact s_pick (sBX10_init_64)
def EX10_init : List Value → HP → Option HP := en 1 BX10_init_0
theorem cmX10_init : CM XX10_init EX10_init fVH 54 10386 := CM.of rfl (by decide) rfl rfl sBX10_init_0
theorem yoX10_init : YO XX10_init 0 54 10386 := ⟨tw_29, rfl, tw_1, (by decide +kernel), rfl, rfl⟩
abbrev XX10_feed : MX := (yX10_feed, cX10_feed, 6, (Option.some .int), Cond.code yX10_feed cX10_feed 6 (Option.some .int) :: WS, { frames := 1, cells := 0, slots := 0, locals := 22 })
def BX10_feed_53 : KT (Int32 × HP) :=
  oCal 2 (some 6) EX6_put fVH (oAld 0 (oGet 10 0 (oCal 1 (some 6) EX6_length fI (oIretH))))
set_option maxRecDepth 20000 in
theorem sBX10_feed_53 : Snd XX10_feed fIH 53 (BX10_feed_53) (0) (0) := by
  unfold BX10_feed_53
  refine s_cal0 56 (run_V (X := XX10_feed) rfl clX6 yoX6_put rfl tw_403 tw_404 tw_405 (by decide) dX10_feed_53) cmX6_put (fun _ _ _ => rfl) rfl ?_
  refine s_Aldn 0 rfl 57 dX10_feed_56 rfl ?_
  refine s_get 10 0 60 clX10 (by decide) tw_349 dX10_feed_57 rfl ?_
  refine s_cal0 63 (run_V (X := XX10_feed) rfl clX6 yoX6_length rfl tw_407 tw_408 tw_409 (by decide) dX10_feed_60) cmX6_length (fun _ _ _ => rfl) rfl ?_
  exact s_iretH rfl dX10_feed_63
def BX10_feed_44 : KT (Int32 × HP) :=
  oCal 2 (some 6) EX6_put fVH (oAld 0 (oGet 10 0 (oIld 5 (oPick [0] (BX10_feed_53)))))
set_option maxRecDepth 20000 in
theorem sBX10_feed_44 : Snd XX10_feed fIH 44 (BX10_feed_44) (0) (0) := by
  unfold BX10_feed_44
  refine s_cal0 47 (run_V (X := XX10_feed) rfl clX6 yoX6_put rfl tw_403 tw_404 tw_405 (by decide) dX10_feed_44) cmX6_put (fun _ _ _ => rfl) rfl ?_
  refine s_Aldn 0 rfl 48 dX10_feed_47 rfl ?_
  refine s_get 10 0 51 clX10 (by decide) tw_349 dX10_feed_48 rfl ?_
  refine s_Ild 5 53 dX10_feed_51 rfl ?_
  exact s_pick (sBX10_feed_53)
def BX10_feed_35 : KT (Int32 × HP) :=
  oCal 2 (some 6) EX6_put fVH (oAld 0 (oGet 10 0 (oIld 4 (oPick [0, 5] (BX10_feed_44)))))
set_option maxRecDepth 20000 in
theorem sBX10_feed_35 : Snd XX10_feed fIH 35 (BX10_feed_35) (0) (0) := by
  unfold BX10_feed_35
  refine s_cal0 38 (run_V (X := XX10_feed) rfl clX6 yoX6_put rfl tw_403 tw_404 tw_405 (by decide) dX10_feed_35) cmX6_put (fun _ _ _ => rfl) rfl ?_
  refine s_Aldn 0 rfl 39 dX10_feed_38 rfl ?_
  refine s_get 10 0 42 clX10 (by decide) tw_349 dX10_feed_39 rfl ?_
  refine s_Ild 4 44 dX10_feed_42 rfl ?_
  exact s_pick (sBX10_feed_44)
def BX10_feed_27 : KT (Int32 × HP) :=
  oCal 2 (some 6) EX6_put fVH (oAld 0 (oGet 10 0 (oIld 3 (oPick [0, 4, 5] (BX10_feed_35)))))
set_option maxRecDepth 20000 in
theorem sBX10_feed_27 : Snd XX10_feed fIH 27 (BX10_feed_27) (0) (0) := by
  unfold BX10_feed_27
  refine s_cal0 30 (run_V (X := XX10_feed) rfl clX6 yoX6_put rfl tw_403 tw_404 tw_405 (by decide) dX10_feed_27) cmX6_put (fun _ _ _ => rfl) rfl ?_
  refine s_Aldn 0 rfl 31 dX10_feed_30 rfl ?_
  refine s_get 10 0 34 clX10 (by decide) tw_349 dX10_feed_31 rfl ?_
  refine s_Ildn 3 rfl 35 dX10_feed_34 rfl ?_
  exact s_pick (sBX10_feed_35)
def BX10_feed_19 : KT (Int32 × HP) :=
  oCal 2 (some 6) EX6_put fVH (oAld 0 (oGet 10 0 (oIld 2 (oPick [0, 3, 4, 5] (BX10_feed_27)))))
set_option maxRecDepth 20000 in
theorem sBX10_feed_19 : Snd XX10_feed fIH 19 (BX10_feed_19) (0) (0) := by
  unfold BX10_feed_19
  refine s_cal0 22 (run_V (X := XX10_feed) rfl clX6 yoX6_put rfl tw_403 tw_404 tw_405 (by decide) dX10_feed_19) cmX6_put (fun _ _ _ => rfl) rfl ?_
  refine s_Aldn 0 rfl 23 dX10_feed_22 rfl ?_
  refine s_get 10 0 26 clX10 (by decide) tw_349 dX10_feed_23 rfl ?_
  refine s_Ildn 2 rfl 27 dX10_feed_26 rfl ?_
  exact s_pick (sBX10_feed_27)
def BX10_feed_6 : KT (Int32 × HP) :=
  oCal 2 (some 6) EX6_hasRoom fZ (oIfne (oAld 0 (oGet 10 0 (oIld 1 (oPick [0, 2, 3, 4, 5] (BX10_feed_19))))) (oConst (.int (-1)) (oIretH)))
set_option maxRecDepth 20000 in
theorem sBX10_feed_6 : Snd XX10_feed fIH 6 (BX10_feed_6) (0) (0) := by
  unfold BX10_feed_6
  refine s_cal0 9 (run_V (X := XX10_feed) rfl clX6 yoX6_hasRoom rfl tw_399 tw_400 tw_401 (by decide) dX10_feed_6) cmX6_hasRoom (fun _ _ _ => rfl) rfl ?_
  refine s_ifne 14 12 dX10_feed_9 (by decide) rfl ?_ ?_
  · refine s_Aldn 0 rfl 15 dX10_feed_14 rfl ?_
    refine s_get 10 0 18 clX10 (by decide) tw_349 dX10_feed_15 rfl ?_
    refine s_Ildn 1 rfl 19 dX10_feed_18 rfl ?_
    exact s_pick (sBX10_feed_19)
  · refine s_iconst 13 (-1) (by decide) dX10_feed_12 rfl ?_
    exact s_iretH rfl dX10_feed_13
def BX10_feed_0 : KT (Int32 × HP) :=
  oAld 0 (oGet 10 0 (oConst (.int 20) (oPick [0, 1, 2, 3, 4, 5] (BX10_feed_6))))
set_option maxRecDepth 20000 in
theorem sBX10_feed_0 : Snd XX10_feed fIH 0 (BX10_feed_0) (0) (0) := by
  unfold BX10_feed_0
  refine s_Aldn 0 rfl 1 dX10_feed_0 rfl ?_
  refine s_get 10 0 4 clX10 (by decide) tw_349 dX10_feed_1 rfl ?_
  refine s_bipush 6 20 (by decide) dX10_feed_4 rfl ?_
  exact s_pick (sBX10_feed_6)
def EX10_feed : List Value → HP → Option (Int32 × HP) := en 6 BX10_feed_0
theorem cmX10_feed : CM XX10_feed EX10_feed fIH 0 0 := CM.of rfl (by decide) rfl rfl sBX10_feed_0
theorem yoX10_feed : YO XX10_feed 5 0 0 := ⟨tw_398, rfl, tw_1, (by decide +kernel), rfl, rfl⟩
abbrev XX10_refuse : MX := (yX10_refuse, cX10_refuse, 2, (Option.some .int), Cond.code yX10_refuse cX10_refuse 2 (Option.some .int) :: WS, { frames := 0, cells := 0, slots := 0, locals := 0 })
def BX10_refuse_0 : KT (Int32 × HP) :=
  oAld 0 (oIld 1 (oPut 10 12 .int (oConst (.int (-1)) (oIretH))))
set_option maxRecDepth 20000 in
theorem sBX10_refuse_0 : Snd XX10_refuse fIH 0 (BX10_refuse_0) (0) (0) := by
  unfold BX10_refuse_0
  refine s_Aldn 0 rfl 1 dX10_refuse_0 rfl ?_
  refine s_Ildn 1 rfl 2 dX10_refuse_1 rfl ?_
  refine s_put 10 12 5 clX10 (by decide) rfl rfl pIH tw_361 dX10_refuse_2 rfl ?_
  refine s_iconst 6 (-1) (by decide) dX10_refuse_5 rfl ?_
  exact s_iretH rfl dX10_refuse_6
def EX10_refuse : List Value → HP → Option (Int32 × HP) := en 2 BX10_refuse_0
theorem cmX10_refuse : CM XX10_refuse EX10_refuse fIH 0 0 := CM.of rfl (by decide) rfl rfl sBX10_refuse_0
theorem yoX10_refuse : YO XX10_refuse 1 0 0 := ⟨tw_418, rfl, tw_1, (by decide +kernel), rfl, rfl⟩
abbrev XX10_answer : MX := (yX10_answer, cX10_answer, 2, (Option.some .int), Cond.code yX10_answer cX10_answer 2 (Option.some .int) :: WS, { frames := 0, cells := 0, slots := 0, locals := 0 })
def BX10_answer_0 : KT (Int32 × HP) :=
  oAld 0 (oConst (.int 0) (oPut 10 12 .int (oIld 1 (oIretH))))
set_option maxRecDepth 20000 in
theorem sBX10_answer_0 : Snd XX10_answer fIH 0 (BX10_answer_0) (0) (0) := by
  unfold BX10_answer_0
  refine s_Aldn 0 rfl 1 dX10_answer_0 rfl ?_
  refine s_iconst 2 0 (by decide) dX10_answer_1 rfl ?_
  refine s_put 10 12 5 clX10 (by decide) rfl rfl pIH tw_361 dX10_answer_2 rfl ?_
  refine s_Ildn 1 rfl 6 dX10_answer_5 rfl ?_
  exact s_iretH rfl dX10_answer_6
def EX10_answer : List Value → HP → Option (Int32 × HP) := en 2 BX10_answer_0
theorem cmX10_answer : CM XX10_answer EX10_answer fIH 0 0 := CM.of rfl (by decide) rfl rfl sBX10_answer_0
theorem yoX10_answer : YO XX10_answer 1 0 0 := ⟨tw_705, rfl, tw_1, (by decide +kernel), rfl, rfl⟩
abbrev XX10_meadow : MX := (yX10_meadow, cX10_meadow, 4, (Option.some .int), Cond.code yX10_meadow cX10_meadow 4 (Option.some .int) :: WS, { frames := 10, cells := 0, slots := 0, locals := 225 })
def BX10_meadow_30 : KT (Int32 × HP) :=
  oCal 3 (some 4) EX4_read fZH (oIst 2 (oAld 0 (oGet 10 0 (oCal 1 (some 6) EX6_clear fVH (oAld 0 (oAld 0 (oGet 10 1 (oCal 1 (some 4) EX4_faultFound fI (oPut 10 13 .int (oAld 0 (oAld 0 (oGet 10 1 (oCal 1 (some 4) EX4_placeOfFault fI (oPut 10 14 .int (oIld 2 (oIfne (oAld 0 (oGet 10 8 (oAst 3 (oAld 0 (oAld 0 (oGet 10 7 (oPut 10 8 (.object "MownMaze$Plan") (oAld 0 (oAld 3 (oPut 10 7 (.object "MownMaze$Plan") (oAld 0 (oConst (.int 1) (oPut 10 9 .boolean (oAld 0 (oAld 0 (oGet 10 7 (oGet 3 1 (oGet 2 0 (oPut 10 10 .long (oAld 0 (oConst (.int 0) (oPut 10 11 .int (oAld 0 (oGet 10 2 (oCal 1 (some 1) EX1_forget fVH (oAld 0 (oAld 0 (oGet 10 10 (oCal 1 none EJ13_bitCount_95d88 fI (oCal 2 (some 10) EX10_answer fIH (oIretH))))))))))))))))))))))))))))))) (oAld 0 (oConst (.int 4) (oCal 2 (some 10) EX10_refuse fIH (oIretH))))))))))))))))))))
set_option maxRecDepth 20000 in
theorem sBX10_meadow_30 : Snd XX10_meadow fIH 30 (BX10_meadow_30) (0) (0) := by
  unfold BX10_meadow_30
  refine s_cal0 33 (run_V (X := XX10_meadow) rfl clX4 yoX4_read rfl tw_419 tw_420 tw_421 (by decide) dX10_meadow_30) cmX4_read (fun _ _ _ => rfl) rfl ?_
  refine s_Istn 2 rfl 34 (by decide) dX10_meadow_33 rfl ?_
  refine s_Aldn 0 rfl 35 dX10_meadow_34 rfl ?_
  refine s_get 10 0 38 clX10 (by decide) tw_349 dX10_meadow_35 rfl ?_
  refine s_cal0 41 (run_V (X := XX10_meadow) rfl clX6 yoX6_clear rfl tw_680 tw_681 tw_682 (by decide) dX10_meadow_38) cmX6_clear (fun _ _ _ => rfl) rfl ?_
  refine s_Aldn 0 rfl 42 dX10_meadow_41 rfl ?_
  refine s_Aldn 0 rfl 43 dX10_meadow_42 rfl ?_
  refine s_get 10 1 46 clX10 (by decide) tw_350 dX10_meadow_43 rfl ?_
  refine s_cal0 49 (run_V (X := XX10_meadow) rfl clX4 yoX4_faultFound rfl tw_684 tw_685 tw_686 (by decide) dX10_meadow_46) cmX4_faultFound (fun _ _ _ => rfl) rfl ?_
  refine s_put 10 13 52 clX10 (by decide) rfl rfl pIH tw_362 dX10_meadow_49 rfl ?_
  refine s_Aldn 0 rfl 53 dX10_meadow_52 rfl ?_
  refine s_Aldn 0 rfl 54 dX10_meadow_53 rfl ?_
  refine s_get 10 1 57 clX10 (by decide) tw_350 dX10_meadow_54 rfl ?_
  refine s_cal0 60 (run_V (X := XX10_meadow) rfl clX4 yoX4_placeOfFault rfl tw_688 tw_689 tw_690 (by decide) dX10_meadow_57) cmX4_placeOfFault (fun _ _ _ => rfl) rfl ?_
  refine s_put 10 14 63 clX10 (by decide) rfl rfl pIH tw_363 dX10_meadow_60 rfl ?_
  refine s_Ildn 2 rfl 64 dX10_meadow_63 rfl ?_
  refine s_ifne 73 67 dX10_meadow_64 (by decide) rfl ?_ ?_
  · refine s_Aldn 0 rfl 74 dX10_meadow_73 rfl ?_
    refine s_get 10 8 77 clX10 (by decide) tw_357 dX10_meadow_74 rfl ?_
    refine s_Astn 3 rfl 78 (by decide) dX10_meadow_77 rfl ?_
    refine s_Aldn 0 rfl 79 dX10_meadow_78 rfl ?_
    refine s_Aldn 0 rfl 80 dX10_meadow_79 rfl ?_
    refine s_get 10 7 83 clX10 (by decide) tw_356 dX10_meadow_80 rfl ?_
    refine s_put 10 8 86 clX10 (by decide) rfl rfl pIH tw_357 dX10_meadow_83 rfl ?_
    refine s_Aldn 0 rfl 87 dX10_meadow_86 rfl ?_
    refine s_Aldn 3 rfl 88 dX10_meadow_87 rfl ?_
    refine s_put 10 7 91 clX10 (by decide) rfl rfl pIH tw_356 dX10_meadow_88 rfl ?_
    refine s_Aldn 0 rfl 92 dX10_meadow_91 rfl ?_
    refine s_iconst 93 1 (by decide) dX10_meadow_92 rfl ?_
    refine s_put 10 9 96 clX10 (by decide) rfl rfl pIH tw_358 dX10_meadow_93 rfl ?_
    refine s_Aldn 0 rfl 97 dX10_meadow_96 rfl ?_
    refine s_Aldn 0 rfl 98 dX10_meadow_97 rfl ?_
    refine s_get 10 7 101 clX10 (by decide) tw_356 dX10_meadow_98 rfl ?_
    refine s_getN 3 1 104 clX3 (by decide) nw_24 dX10_meadow_101 rfl ?_
    refine s_getN 2 0 107 clX2 (by decide) nw_7 dX10_meadow_104 rfl ?_
    refine s_put 10 10 110 clX10 (by decide) rfl rfl pIH tw_359 dX10_meadow_107 rfl ?_
    refine s_Aldn 0 rfl 111 dX10_meadow_110 rfl ?_
    refine s_iconst 112 0 (by decide) dX10_meadow_111 rfl ?_
    refine s_put 10 11 115 clX10 (by decide) rfl rfl pIH tw_360 dX10_meadow_112 rfl ?_
    refine s_Aldn 0 rfl 116 dX10_meadow_115 rfl ?_
    refine s_get 10 2 119 clX10 (by decide) tw_351 dX10_meadow_116 rfl ?_
    refine s_cal0 122 (run_V (X := XX10_meadow) rfl clX1 yoX1_forget rfl tw_692 tw_693 tw_694 (by decide) dX10_meadow_119) cmX1_forget (fun _ _ _ => rfl) rfl ?_
    refine s_Aldn 0 rfl 123 dX10_meadow_122 rfl ?_
    refine s_Aldn 0 rfl 124 dX10_meadow_123 rfl ?_
    refine s_get 10 10 127 clX10 (by decide) tw_359 dX10_meadow_124 rfl ?_
    refine s_cal0 130 (run_S (X := XX10_meadow) yoJ13_bitCount_95d88 tw_696 tw_697 (by decide) dX10_meadow_127) cmJ13_bitCount_95d88 (fun _ _ _ => rfl) rfl ?_
    refine s_cal0 133 (run_V (X := XX10_meadow) rfl clX10 yoX10_answer rfl tw_702 tw_704 tw_p18 (by decide) dX10_meadow_130) cmX10_answer (fun _ _ _ => rfl) rfl ?_
    exact s_iretH rfl dX10_meadow_133
  · refine s_Aldn 0 rfl 68 dX10_meadow_67 rfl ?_
    refine s_iconst 69 4 (by decide) dX10_meadow_68 rfl ?_
    refine s_cal0 72 (run_V (X := XX10_meadow) rfl clX10 yoX10_refuse rfl tw_415 tw_417 tw_p0 (by decide) dX10_meadow_69) cmX10_refuse (fun _ _ _ => rfl) rfl ?_
    exact s_iretH rfl dX10_meadow_72
def BX10_meadow_0 : KT (Int32 × HP) :=
  oIld 1 (oIflt (oAld 0 (oConst (.int 2) (oCal 2 (some 10) EX10_refuse fIH (oIretH)))) (oIld 1 (oAld 0 (oGet 10 0 (oCal 1 (some 6) EX6_length fI (oCmple (oAld 0 (oGet 10 1 (oAld 0 (oGet 10 8 (oIld 1 (oPick [0] (BX10_meadow_30))))))) (oAld 0 (oConst (.int 2) (oCal 2 (some 10) EX10_refuse fIH (oIretH))))))))))
set_option maxRecDepth 20000 in
theorem sBX10_meadow_0 : Snd XX10_meadow fIH 0 (BX10_meadow_0) (0) (0) := by
  unfold BX10_meadow_0
  refine s_Ildn 1 rfl 1 dX10_meadow_0 rfl ?_
  refine s_iflt 15 4 dX10_meadow_1 (by decide) rfl ?_ ?_
  · refine s_Aldn 0 rfl 16 dX10_meadow_15 rfl ?_
    refine s_iconst 17 2 (by decide) dX10_meadow_16 rfl ?_
    refine s_cal0 20 (run_V (X := XX10_meadow) rfl clX10 yoX10_refuse rfl tw_415 tw_417 tw_p0 (by decide) dX10_meadow_17) cmX10_refuse (fun _ _ _ => rfl) rfl ?_
    exact s_iretH rfl dX10_meadow_20
  · refine s_Ildn 1 rfl 5 dX10_meadow_4 rfl ?_
    refine s_Aldn 0 rfl 6 dX10_meadow_5 rfl ?_
    refine s_get 10 0 9 clX10 (by decide) tw_349 dX10_meadow_6 rfl ?_
    refine s_cal0 12 (run_V (X := XX10_meadow) rfl clX6 yoX6_length rfl tw_407 tw_408 tw_409 (by decide) dX10_meadow_9) cmX6_length (fun _ _ _ => rfl) rfl ?_
    refine s_cmple 21 15 dX10_meadow_12 (by decide) rfl ?_ ?_
    · refine s_Aldn 0 rfl 22 dX10_meadow_21 rfl ?_
      refine s_get 10 1 25 clX10 (by decide) tw_350 dX10_meadow_22 rfl ?_
      refine s_Aldn 0 rfl 26 dX10_meadow_25 rfl ?_
      refine s_get 10 8 29 clX10 (by decide) tw_357 dX10_meadow_26 rfl ?_
      refine s_Ildn 1 rfl 30 dX10_meadow_29 rfl ?_
      exact s_pick (sBX10_meadow_30)
    · refine s_Aldn 0 rfl 16 dX10_meadow_15 rfl ?_
      refine s_iconst 17 2 (by decide) dX10_meadow_16 rfl ?_
      refine s_cal0 20 (run_V (X := XX10_meadow) rfl clX10 yoX10_refuse rfl tw_415 tw_417 tw_p0 (by decide) dX10_meadow_17) cmX10_refuse (fun _ _ _ => rfl) rfl ?_
      exact s_iretH rfl dX10_meadow_20
def EX10_meadow : List Value → HP → Option (Int32 × HP) := en 4 BX10_meadow_0
theorem cmX10_meadow : CM XX10_meadow EX10_meadow fIH 0 0 := CM.of rfl (by decide) rfl rfl sBX10_meadow_0
theorem yoX10_meadow : YO XX10_meadow 1 0 0 := ⟨tw_414, rfl, tw_1, (by decide +kernel), rfl, rfl⟩
abbrev XX10_fault : MX := (yX10_fault, cX10_fault, 1, (Option.some .int), Cond.code yX10_fault cX10_fault 1 (Option.some .int) :: WS, { frames := 0, cells := 0, slots := 0, locals := 0 })
def BX10_fault_0 : KT Int32 :=
  oAld 0 (oGet 10 13 (oIretP))
set_option maxRecDepth 20000 in
theorem sBX10_fault_0 : Snd XX10_fault fI 0 (BX10_fault_0) (0) (0) := by
  unfold BX10_fault_0
  refine s_Aldn 0 rfl 1 dX10_fault_0 rfl ?_
  refine s_get 10 13 4 clX10 (by decide) tw_362 dX10_fault_1 rfl ?_
  exact s_iretP rfl dX10_fault_4
def EX10_fault : List Value → HP → Option Int32 := en 1 BX10_fault_0
theorem cmX10_fault : CM XX10_fault EX10_fault fI 0 0 := CM.of rfl (by decide) rfl rfl sBX10_fault_0
theorem yoX10_fault : YO XX10_fault 0 0 0 := ⟨tw_709, rfl, tw_1, (by decide +kernel), rfl, rfl⟩
abbrev XX10_where : MX := (yX10_where, cX10_where, 1, (Option.some .int), Cond.code yX10_where cX10_where 1 (Option.some .int) :: WS, { frames := 0, cells := 0, slots := 0, locals := 0 })
def BX10_where_0 : KT Int32 :=
  oAld 0 (oGet 10 12 (oConst (.int 4) (oCmpne (oConst (.int (-1)) (oIretP)) (oAld 0 (oGet 10 14 (oIretP))))))
set_option maxRecDepth 20000 in
theorem sBX10_where_0 : Snd XX10_where fI 0 (BX10_where_0) (0) (0) := by
  unfold BX10_where_0
  refine s_Aldn 0 rfl 1 dX10_where_0 rfl ?_
  refine s_get 10 12 4 clX10 (by decide) tw_361 dX10_where_1 rfl ?_
  refine s_iconst 5 4 (by decide) dX10_where_4 rfl ?_
  refine s_cmpne 15 8 dX10_where_5 (by decide) rfl ?_ ?_
  · refine s_iconst 16 (-1) (by decide) dX10_where_15 rfl ?_
    exact s_iretP rfl dX10_where_16
  · refine s_Aldn 0 rfl 9 dX10_where_8 rfl ?_
    refine s_get 10 14 12 clX10 (by decide) tw_363 dX10_where_9 rfl ?_
    refine s_goto 16 dX10_where_12 (by decide) ?_
    exact s_iretP rfl dX10_where_16
def EX10_where : List Value → HP → Option Int32 := en 1 BX10_where_0
theorem cmX10_where : CM XX10_where EX10_where fI 0 0 := CM.of rfl (by decide) rfl rfl sBX10_where_0
theorem yoX10_where : YO XX10_where 0 0 0 := ⟨tw_713, rfl, tw_1, (by decide +kernel), rfl, rfl⟩
abbrev XX10_isCell : MX := (yX10_isCell, cX10_isCell, 3, (Option.some .boolean), Cond.code yX10_isCell cX10_isCell 3 (Option.some .boolean) :: WS, { frames := 1, cells := 0, slots := 0, locals := 22 })
def BX10_isCell_16 : KT Bool :=
  oCal 3 (some 0) EX0_isInside fZ (oIfeq (oConst (.int 0) (oZretP)) (oConst (.int 1) (oZretP)))
set_option maxRecDepth 20000 in
theorem sBX10_isCell_16 : Snd XX10_isCell fZ 16 (BX10_isCell_16) (0) (0) := by
  unfold BX10_isCell_16
  refine s_cal0 19 (run_V (X := XX10_isCell) rfl clX0 yoX0_isInside rfl tw_722 tw_443 tw_444 (by decide) dX10_isCell_16) cmX0_isInside (fun _ _ _ => rfl) rfl ?_
  refine s_ifeq 26 22 dX10_isCell_19 (by decide) rfl ?_ ?_
  · refine s_iconst 27 0 (by decide) dX10_isCell_26 rfl ?_
    exact s_zretP rfl dX10_isCell_27
  · refine s_iconst 23 1 (by decide) dX10_isCell_22 rfl ?_
    refine s_goto 27 dX10_isCell_23 (by decide) ?_
    exact s_zretP rfl dX10_isCell_27
def BX10_isCell_0 : KT Bool :=
  oAld 0 (oGet 10 9 (oIfeq (oConst (.int 0) (oZretP)) (oAld 0 (oGet 10 7 (oGet 3 0 (oIld 1 (oIld 2 (oPick [] (BX10_isCell_16)))))))))
set_option maxRecDepth 20000 in
theorem sBX10_isCell_0 : Snd XX10_isCell fZ 0 (BX10_isCell_0) (0) (0) := by
  unfold BX10_isCell_0
  refine s_Aldn 0 rfl 1 dX10_isCell_0 rfl ?_
  refine s_get 10 9 4 clX10 (by decide) tw_358 dX10_isCell_1 rfl ?_
  refine s_ifeq 26 7 dX10_isCell_4 (by decide) rfl ?_ ?_
  · refine s_iconst 27 0 (by decide) dX10_isCell_26 rfl ?_
    exact s_zretP rfl dX10_isCell_27
  · refine s_Aldn 0 rfl 8 dX10_isCell_7 rfl ?_
    refine s_get 10 7 11 clX10 (by decide) tw_356 dX10_isCell_8 rfl ?_
    refine s_getN 3 0 14 clX3 (by decide) nw_23 dX10_isCell_11 rfl ?_
    refine s_Ildn 1 rfl 15 dX10_isCell_14 rfl ?_
    refine s_Ildn 2 rfl 16 dX10_isCell_15 rfl ?_
    exact s_pick (sBX10_isCell_16)
def EX10_isCell : List Value → HP → Option Bool := en 3 BX10_isCell_0
theorem cmX10_isCell : CM XX10_isCell EX10_isCell fZ 0 0 := CM.of rfl (by decide) rfl rfl sBX10_isCell_0
theorem yoX10_isCell : YO XX10_isCell 2 0 0 := ⟨tw_721, rfl, tw_1, (by decide +kernel), rfl, rfl⟩
abbrev XX10_isMown : MX := (yX10_isMown, cX10_isMown, 3, (Option.some .boolean), Cond.code yX10_isMown cX10_isMown 3 (Option.some .boolean) :: WS, { frames := 1, cells := 0, slots := 0, locals := 22 })
def BX10_isMown_16 : KT Bool :=
  oCal 2 none EX10_isIn fZ (oZretP)
set_option maxRecDepth 20000 in
theorem sBX10_isMown_16 : Snd XX10_isMown fZ 16 (BX10_isMown_16) (0) (0) := by
  unfold BX10_isMown_16
  refine s_cal0 19 (run_S (X := XX10_isMown) yoX10_isIn tw_728 tw_631 (by decide) dX10_isMown_16) cmX10_isIn (fun _ _ _ => rfl) rfl ?_
  exact s_zretP rfl dX10_isMown_19
def BX10_isMown_0 : KT Bool :=
  oAld 0 (oGet 10 10 (oAld 0 (oGet 10 7 (oGet 3 0 (oIld 1 (oIld 2 (oCal 3 (some 0) EX0_number fI (oPick [] (BX10_isMown_16)))))))))
set_option maxRecDepth 20000 in
theorem sBX10_isMown_0 : Snd XX10_isMown fZ 0 (BX10_isMown_0) (0) (0) := by
  unfold BX10_isMown_0
  refine s_Aldn 0 rfl 1 dX10_isMown_0 rfl ?_
  refine s_get 10 10 4 clX10 (by decide) tw_359 dX10_isMown_1 rfl ?_
  refine s_Aldn 0 rfl 5 dX10_isMown_4 rfl ?_
  refine s_get 10 7 8 clX10 (by decide) tw_356 dX10_isMown_5 rfl ?_
  refine s_getN 3 0 11 clX3 (by decide) nw_23 dX10_isMown_8 rfl ?_
  refine s_Ildn 1 rfl 12 dX10_isMown_11 rfl ?_
  refine s_Ildn 2 rfl 13 dX10_isMown_12 rfl ?_
  refine s_cal0 16 (run_V (X := XX10_isMown) rfl clX0 yoX0_number rfl tw_727 tw_435 tw_436 (by decide) dX10_isMown_13) cmX0_number (fun _ _ _ => rfl) rfl ?_
  exact s_pick (sBX10_isMown_16)
def EX10_isMown : List Value → HP → Option Bool := en 3 BX10_isMown_0
theorem cmX10_isMown : CM XX10_isMown EX10_isMown fZ 0 0 := CM.of rfl (by decide) rfl rfl sBX10_isMown_0
theorem yoX10_isMown : YO XX10_isMown 2 0 0 := ⟨tw_726, rfl, tw_1, (by decide +kernel), rfl, rfl⟩
abbrev XX10_mown : MX := (yX10_mown, cX10_mown, 3, (Option.some .int), Cond.code yX10_mown cX10_mown 3 (Option.some .int) :: WS, { frames := 2, cells := 0, slots := 0, locals := 44 })
def BX10_mown_19 : KT (Int32 × HP) :=
  oCal 3 (some 10) EX10_isMown fZ (oIfeq (oConst (.int 0) (oCal 2 (some 10) EX10_answer fIH (oIretH))) (oConst (.int 1) (oCal 2 (some 10) EX10_answer fIH (oIretH))))
set_option maxRecDepth 20000 in
theorem sBX10_mown_19 : Snd XX10_mown fIH 19 (BX10_mown_19) (0) (0) := by
  unfold BX10_mown_19
  refine s_cal0 22 (run_V (X := XX10_mown) rfl clX10 yoX10_isMown rfl tw_723 tw_725 tw_p20 (by decide) dX10_mown_19) cmX10_isMown (fun _ _ _ => rfl) rfl ?_
  refine s_ifeq 29 25 dX10_mown_22 (by decide) rfl ?_ ?_
  · refine s_iconst 30 0 (by decide) dX10_mown_29 rfl ?_
    refine s_cal0 33 (run_V (X := XX10_mown) rfl clX10 yoX10_answer rfl tw_702 tw_704 tw_p18 (by decide) dX10_mown_30) cmX10_answer (fun _ _ _ => rfl) rfl ?_
    exact s_iretH rfl dX10_mown_33
  · refine s_iconst 26 1 (by decide) dX10_mown_25 rfl ?_
    refine s_goto 30 dX10_mown_26 (by decide) ?_
    refine s_cal0 33 (run_V (X := XX10_mown) rfl clX10 yoX10_answer rfl tw_702 tw_704 tw_p18 (by decide) dX10_mown_30) cmX10_answer (fun _ _ _ => rfl) rfl ?_
    exact s_iretH rfl dX10_mown_33
def BX10_mown_3 : KT (Int32 × HP) :=
  oCal 3 (some 10) EX10_isCell fZ (oIfne (oAld 0 (oAld 0 (oIld 1 (oIld 2 (oPick [] (BX10_mown_19)))))) (oAld 0 (oConst (.int 1) (oCal 2 (some 10) EX10_refuse fIH (oIretH)))))
set_option maxRecDepth 20000 in
theorem sBX10_mown_3 : Snd XX10_mown fIH 3 (BX10_mown_3) (0) (0) := by
  unfold BX10_mown_3
  refine s_cal0 6 (run_V (X := XX10_mown) rfl clX10 yoX10_isCell rfl tw_718 tw_720 tw_p19 (by decide) dX10_mown_3) cmX10_isCell (fun _ _ _ => rfl) rfl ?_
  refine s_ifne 15 9 dX10_mown_6 (by decide) rfl ?_ ?_
  · refine s_Aldn 0 rfl 16 dX10_mown_15 rfl ?_
    refine s_Aldn 0 rfl 17 dX10_mown_16 rfl ?_
    refine s_Ildn 1 rfl 18 dX10_mown_17 rfl ?_
    refine s_Ildn 2 rfl 19 dX10_mown_18 rfl ?_
    exact s_pick (sBX10_mown_19)
  · refine s_Aldn 0 rfl 10 dX10_mown_9 rfl ?_
    refine s_iconst 11 1 (by decide) dX10_mown_10 rfl ?_
    refine s_cal0 14 (run_V (X := XX10_mown) rfl clX10 yoX10_refuse rfl tw_415 tw_417 tw_p0 (by decide) dX10_mown_11) cmX10_refuse (fun _ _ _ => rfl) rfl ?_
    exact s_iretH rfl dX10_mown_14
def BX10_mown_0 : KT (Int32 × HP) :=
  oAld 0 (oIld 1 (oIld 2 (oPick [0, 1, 2] (BX10_mown_3))))
set_option maxRecDepth 20000 in
theorem sBX10_mown_0 : Snd XX10_mown fIH 0 (BX10_mown_0) (0) (0) := by
  unfold BX10_mown_0
  refine s_Aldn 0 rfl 1 dX10_mown_0 rfl ?_
  refine s_Ildn 1 rfl 2 dX10_mown_1 rfl ?_
  refine s_Ildn 2 rfl 3 dX10_mown_2 rfl ?_
  exact s_pick (sBX10_mown_3)
def EX10_mown : List Value → HP → Option (Int32 × HP) := en 3 BX10_mown_0
theorem cmX10_mown : CM XX10_mown EX10_mown fIH 0 0 := CM.of rfl (by decide) rfl rfl sBX10_mown_0
theorem yoX10_mown : YO XX10_mown 2 0 0 := ⟨tw_717, rfl, tw_1, (by decide +kernel), rfl, rfl⟩
abbrev XX10_beside : MX := (yX10_beside, cX10_beside, 3, (Option.some .int), Cond.code yX10_beside cX10_beside 3 (Option.some .int) :: WS, { frames := 2, cells := 0, slots := 0, locals := 49 })
def BX10_beside_3 : KT (Int32 × HP) :=
  oCal 3 (some 10) EX10_isCell fZ (oIfne (oAld 0 (oAld 0 (oGet 10 7 (oGet 3 0 (oAld 0 (oGet 10 10 (oAld 0 (oGet 10 7 (oGet 3 0 (oIld 1 (oIld 2 (oCal 3 (some 0) EX0_number fI (oCal 3 (some 0) EX0_countBeside fI (oCal 2 (some 10) EX10_answer fIH (oIretH))))))))))))))) (oAld 0 (oConst (.int 1) (oCal 2 (some 10) EX10_refuse fIH (oIretH)))))
set_option maxRecDepth 20000 in
theorem sBX10_beside_3 : Snd XX10_beside fIH 3 (BX10_beside_3) (0) (0) := by
  unfold BX10_beside_3
  refine s_cal0 6 (run_V (X := XX10_beside) rfl clX10 yoX10_isCell rfl tw_718 tw_720 tw_p19 (by decide) dX10_beside_3) cmX10_isCell (fun _ _ _ => rfl) rfl ?_
  refine s_ifne 15 9 dX10_beside_6 (by decide) rfl ?_ ?_
  · refine s_Aldn 0 rfl 16 dX10_beside_15 rfl ?_
    refine s_Aldn 0 rfl 17 dX10_beside_16 rfl ?_
    refine s_get 10 7 20 clX10 (by decide) tw_356 dX10_beside_17 rfl ?_
    refine s_getN 3 0 23 clX3 (by decide) nw_23 dX10_beside_20 rfl ?_
    refine s_Aldn 0 rfl 24 dX10_beside_23 rfl ?_
    refine s_get 10 10 27 clX10 (by decide) tw_359 dX10_beside_24 rfl ?_
    refine s_Aldn 0 rfl 28 dX10_beside_27 rfl ?_
    refine s_get 10 7 31 clX10 (by decide) tw_356 dX10_beside_28 rfl ?_
    refine s_getN 3 0 34 clX3 (by decide) nw_23 dX10_beside_31 rfl ?_
    refine s_Ildn 1 rfl 35 dX10_beside_34 rfl ?_
    refine s_Ildn 2 rfl 36 dX10_beside_35 rfl ?_
    refine s_cal0 39 (run_V (X := XX10_beside) rfl clX0 yoX0_number rfl tw_727 tw_435 tw_436 (by decide) dX10_beside_36) cmX0_number (fun _ _ _ => rfl) rfl ?_
    refine s_cal0 42 (run_V (X := XX10_beside) rfl clX0 yoX0_countBeside rfl tw_733 tw_734 tw_735 (by decide) dX10_beside_39) cmX0_countBeside (fun _ _ _ => rfl) rfl ?_
    refine s_cal0 45 (run_V (X := XX10_beside) rfl clX10 yoX10_answer rfl tw_702 tw_704 tw_p18 (by decide) dX10_beside_42) cmX10_answer (fun _ _ _ => rfl) rfl ?_
    exact s_iretH rfl dX10_beside_45
  · refine s_Aldn 0 rfl 10 dX10_beside_9 rfl ?_
    refine s_iconst 11 1 (by decide) dX10_beside_10 rfl ?_
    refine s_cal0 14 (run_V (X := XX10_beside) rfl clX10 yoX10_refuse rfl tw_415 tw_417 tw_p0 (by decide) dX10_beside_11) cmX10_refuse (fun _ _ _ => rfl) rfl ?_
    exact s_iretH rfl dX10_beside_14
def BX10_beside_0 : KT (Int32 × HP) :=
  oAld 0 (oIld 1 (oIld 2 (oPick [0, 1, 2] (BX10_beside_3))))
set_option maxRecDepth 20000 in
theorem sBX10_beside_0 : Snd XX10_beside fIH 0 (BX10_beside_0) (0) (0) := by
  unfold BX10_beside_0
  refine s_Aldn 0 rfl 1 dX10_beside_0 rfl ?_
  refine s_Ildn 1 rfl 2 dX10_beside_1 rfl ?_
  refine s_Ildn 2 rfl 3 dX10_beside_2 rfl ?_
  exact s_pick (sBX10_beside_3)
def EX10_beside : List Value → HP → Option (Int32 × HP) := en 3 BX10_beside_0
theorem cmX10_beside : CM XX10_beside EX10_beside fIH 0 0 := CM.of rfl (by decide) rfl rfl sBX10_beside_0
theorem yoX10_beside : YO XX10_beside 2 0 0 := ⟨tw_732, rfl, tw_1, (by decide +kernel), rfl, rfl⟩
abbrev XX10_parts : MX := (yX10_parts, cX10_parts, 1, (Option.some .int), Cond.code yX10_parts cX10_parts 1 (Option.some .int) :: WS, { frames := 3, cells := 0, slots := 0, locals := 81 })
def BX10_parts_19 : KT (Int32 × HP) :=
  oCal 2 (some 0) EX0_countParts fI (oCal 2 (some 10) EX10_answer fIH (oIretH))
set_option maxRecDepth 20000 in
theorem sBX10_parts_19 : Snd XX10_parts fIH 19 (BX10_parts_19) (0) (0) := by
  unfold BX10_parts_19
  refine s_cal0 22 (run_V (X := XX10_parts) rfl clX0 yoX0_countParts rfl tw_747 tw_748 tw_749 (by decide) dX10_parts_19) cmX0_countParts (fun _ _ _ => rfl) rfl ?_
  refine s_cal0 25 (run_V (X := XX10_parts) rfl clX10 yoX10_answer rfl tw_702 tw_704 tw_p18 (by decide) dX10_parts_22) cmX10_answer (fun _ _ _ => rfl) rfl ?_
  refine s_goto 33 dX10_parts_25 (by decide) ?_
  exact s_iretH rfl dX10_parts_33
def BX10_parts_0 : KT (Int32 × HP) :=
  oAld 0 (oGet 10 9 (oIfeq (oAld 0 (oConst (.int 1) (oCal 2 (some 10) EX10_refuse fIH (oIretH)))) (oAld 0 (oAld 0 (oGet 10 7 (oGet 3 0 (oAld 0 (oGet 10 10 (oPick [] (BX10_parts_19))))))))))
set_option maxRecDepth 20000 in
theorem sBX10_parts_0 : Snd XX10_parts fIH 0 (BX10_parts_0) (0) (0) := by
  unfold BX10_parts_0
  refine s_Aldn 0 rfl 1 dX10_parts_0 rfl ?_
  refine s_get 10 9 4 clX10 (by decide) tw_358 dX10_parts_1 rfl ?_
  refine s_ifeq 28 7 dX10_parts_4 (by decide) rfl ?_ ?_
  · refine s_Aldn 0 rfl 29 dX10_parts_28 rfl ?_
    refine s_iconst 30 1 (by decide) dX10_parts_29 rfl ?_
    refine s_cal0 33 (run_V (X := XX10_parts) rfl clX10 yoX10_refuse rfl tw_415 tw_417 tw_p0 (by decide) dX10_parts_30) cmX10_refuse (fun _ _ _ => rfl) rfl ?_
    exact s_iretH rfl dX10_parts_33
  · refine s_Aldn 0 rfl 8 dX10_parts_7 rfl ?_
    refine s_Aldn 0 rfl 9 dX10_parts_8 rfl ?_
    refine s_get 10 7 12 clX10 (by decide) tw_356 dX10_parts_9 rfl ?_
    refine s_getN 3 0 15 clX3 (by decide) nw_23 dX10_parts_12 rfl ?_
    refine s_Aldn 0 rfl 16 dX10_parts_15 rfl ?_
    refine s_get 10 10 19 clX10 (by decide) tw_359 dX10_parts_16 rfl ?_
    exact s_pick (sBX10_parts_19)
def EX10_parts : List Value → HP → Option (Int32 × HP) := en 1 BX10_parts_0
theorem cmX10_parts : CM XX10_parts EX10_parts fIH 0 0 := CM.of rfl (by decide) rfl rfl sBX10_parts_0
theorem yoX10_parts : YO XX10_parts 0 0 0 := ⟨tw_746, rfl, tw_1, (by decide +kernel), rfl, rfl⟩
abbrev XX10_rings : MX := (yX10_rings, cX10_rings, 1, (Option.some .int), Cond.code yX10_rings cX10_rings 1 (Option.some .int) :: WS, { frames := 4, cells := 0, slots := 0, locals := 105 })
def BX10_rings_19 : KT (Int32 × HP) :=
  oCal 2 (some 0) EX0_countRings fI (oCal 2 (some 10) EX10_answer fIH (oIretH))
set_option maxRecDepth 20000 in
theorem sBX10_rings_19 : Snd XX10_rings fIH 19 (BX10_rings_19) (0) (0) := by
  unfold BX10_rings_19
  refine s_cal0 22 (run_V (X := XX10_rings) rfl clX0 yoX0_countRings rfl tw_759 tw_760 tw_761 (by decide) dX10_rings_19) cmX0_countRings (fun _ _ _ => rfl) rfl ?_
  refine s_cal0 25 (run_V (X := XX10_rings) rfl clX10 yoX10_answer rfl tw_702 tw_704 tw_p18 (by decide) dX10_rings_22) cmX10_answer (fun _ _ _ => rfl) rfl ?_
  refine s_goto 33 dX10_rings_25 (by decide) ?_
  exact s_iretH rfl dX10_rings_33
def BX10_rings_0 : KT (Int32 × HP) :=
  oAld 0 (oGet 10 9 (oIfeq (oAld 0 (oConst (.int 1) (oCal 2 (some 10) EX10_refuse fIH (oIretH)))) (oAld 0 (oAld 0 (oGet 10 7 (oGet 3 0 (oAld 0 (oGet 10 10 (oPick [] (BX10_rings_19))))))))))
set_option maxRecDepth 20000 in
theorem sBX10_rings_0 : Snd XX10_rings fIH 0 (BX10_rings_0) (0) (0) := by
  unfold BX10_rings_0
  refine s_Aldn 0 rfl 1 dX10_rings_0 rfl ?_
  refine s_get 10 9 4 clX10 (by decide) tw_358 dX10_rings_1 rfl ?_
  refine s_ifeq 28 7 dX10_rings_4 (by decide) rfl ?_ ?_
  · refine s_Aldn 0 rfl 29 dX10_rings_28 rfl ?_
    refine s_iconst 30 1 (by decide) dX10_rings_29 rfl ?_
    refine s_cal0 33 (run_V (X := XX10_rings) rfl clX10 yoX10_refuse rfl tw_415 tw_417 tw_p0 (by decide) dX10_rings_30) cmX10_refuse (fun _ _ _ => rfl) rfl ?_
    exact s_iretH rfl dX10_rings_33
  · refine s_Aldn 0 rfl 8 dX10_rings_7 rfl ?_
    refine s_Aldn 0 rfl 9 dX10_rings_8 rfl ?_
    refine s_get 10 7 12 clX10 (by decide) tw_356 dX10_rings_9 rfl ?_
    refine s_getN 3 0 15 clX3 (by decide) nw_23 dX10_rings_12 rfl ?_
    refine s_Aldn 0 rfl 16 dX10_rings_15 rfl ?_
    refine s_get 10 10 19 clX10 (by decide) tw_359 dX10_rings_16 rfl ?_
    exact s_pick (sBX10_rings_19)
def EX10_rings : List Value → HP → Option (Int32 × HP) := en 1 BX10_rings_0
theorem cmX10_rings : CM XX10_rings EX10_rings fIH 0 0 := CM.of rfl (by decide) rfl rfl sBX10_rings_0
theorem yoX10_rings : YO XX10_rings 0 0 0 := ⟨tw_758, rfl, tw_1, (by decide +kernel), rfl, rfl⟩
abbrev XX10_ends : MX := (yX10_ends, cX10_ends, 1, (Option.some .int), Cond.code yX10_ends cX10_ends 1 (Option.some .int) :: WS, { frames := 3, cells := 0, slots := 0, locals := 73 })
def BX10_ends_19 : KT (Int32 × HP) :=
  oCal 2 (some 0) EX0_countEnds fI (oCal 2 (some 10) EX10_answer fIH (oIretH))
set_option maxRecDepth 20000 in
theorem sBX10_ends_19 : Snd XX10_ends fIH 19 (BX10_ends_19) (0) (0) := by
  unfold BX10_ends_19
  refine s_cal0 22 (run_V (X := XX10_ends) rfl clX0 yoX0_countEnds rfl tw_768 tw_769 tw_770 (by decide) dX10_ends_19) cmX0_countEnds (fun _ _ _ => rfl) rfl ?_
  refine s_cal0 25 (run_V (X := XX10_ends) rfl clX10 yoX10_answer rfl tw_702 tw_704 tw_p18 (by decide) dX10_ends_22) cmX10_answer (fun _ _ _ => rfl) rfl ?_
  refine s_goto 33 dX10_ends_25 (by decide) ?_
  exact s_iretH rfl dX10_ends_33
def BX10_ends_0 : KT (Int32 × HP) :=
  oAld 0 (oGet 10 9 (oIfeq (oAld 0 (oConst (.int 1) (oCal 2 (some 10) EX10_refuse fIH (oIretH)))) (oAld 0 (oAld 0 (oGet 10 7 (oGet 3 0 (oAld 0 (oGet 10 10 (oPick [] (BX10_ends_19))))))))))
set_option maxRecDepth 20000 in
theorem sBX10_ends_0 : Snd XX10_ends fIH 0 (BX10_ends_0) (0) (0) := by
  unfold BX10_ends_0
  refine s_Aldn 0 rfl 1 dX10_ends_0 rfl ?_
  refine s_get 10 9 4 clX10 (by decide) tw_358 dX10_ends_1 rfl ?_
  refine s_ifeq 28 7 dX10_ends_4 (by decide) rfl ?_ ?_
  · refine s_Aldn 0 rfl 29 dX10_ends_28 rfl ?_
    refine s_iconst 30 1 (by decide) dX10_ends_29 rfl ?_
    refine s_cal0 33 (run_V (X := XX10_ends) rfl clX10 yoX10_refuse rfl tw_415 tw_417 tw_p0 (by decide) dX10_ends_30) cmX10_refuse (fun _ _ _ => rfl) rfl ?_
    exact s_iretH rfl dX10_ends_33
  · refine s_Aldn 0 rfl 8 dX10_ends_7 rfl ?_
    refine s_Aldn 0 rfl 9 dX10_ends_8 rfl ?_
    refine s_get 10 7 12 clX10 (by decide) tw_356 dX10_ends_9 rfl ?_
    refine s_getN 3 0 15 clX3 (by decide) nw_23 dX10_ends_12 rfl ?_
    refine s_Aldn 0 rfl 16 dX10_ends_15 rfl ?_
    refine s_get 10 10 19 clX10 (by decide) tw_359 dX10_ends_16 rfl ?_
    exact s_pick (sBX10_ends_19)
def EX10_ends : List Value → HP → Option (Int32 × HP) := en 1 BX10_ends_0
theorem cmX10_ends : CM XX10_ends EX10_ends fIH 0 0 := CM.of rfl (by decide) rfl rfl sBX10_ends_0
theorem yoX10_ends : YO XX10_ends 0 0 0 := ⟨tw_767, rfl, tw_1, (by decide +kernel), rfl, rfl⟩
abbrev XX10_isNumber : MX := (yX10_isNumber, cX10_isNumber, 2, (Option.some .boolean), Cond.code yX10_isNumber cX10_isNumber 2 (Option.some .boolean) :: WS, { frames := 0, cells := 0, slots := 0, locals := 0 })
def BX10_isNumber_0 : KT Bool :=
  oAld 0 (oGet 10 9 (oIfeq (oConst (.int 0) (oZretP)) (oIld 1 (oIflt (oConst (.int 0) (oZretP)) (oIld 1 (oAld 0 (oGet 10 7 (oGet 3 0 (oGet 0 3 (oCmpge (oConst (.int 0) (oZretP)) (oConst (.int 1) (oZretP))))))))))))
set_option maxRecDepth 20000 in
theorem sBX10_isNumber_0 : Snd XX10_isNumber fZ 0 (BX10_isNumber_0) (0) (0) := by
  unfold BX10_isNumber_0
  refine s_Aldn 0 rfl 1 dX10_isNumber_0 rfl ?_
  refine s_get 10 9 4 clX10 (by decide) tw_358 dX10_isNumber_1 rfl ?_
  refine s_ifeq 29 7 dX10_isNumber_4 (by decide) rfl ?_ ?_
  · refine s_iconst 30 0 (by decide) dX10_isNumber_29 rfl ?_
    exact s_zretP rfl dX10_isNumber_30
  · refine s_Ildn 1 rfl 8 dX10_isNumber_7 rfl ?_
    refine s_iflt 29 11 dX10_isNumber_8 (by decide) rfl ?_ ?_
    · refine s_iconst 30 0 (by decide) dX10_isNumber_29 rfl ?_
      exact s_zretP rfl dX10_isNumber_30
    · refine s_Ildn 1 rfl 12 dX10_isNumber_11 rfl ?_
      refine s_Aldn 0 rfl 13 dX10_isNumber_12 rfl ?_
      refine s_get 10 7 16 clX10 (by decide) tw_356 dX10_isNumber_13 rfl ?_
      refine s_getN 3 0 19 clX3 (by decide) nw_23 dX10_isNumber_16 rfl ?_
      refine s_getN 0 3 22 clX0 (by decide) nw_5 dX10_isNumber_19 rfl ?_
      refine s_cmpge 29 25 dX10_isNumber_22 (by decide) rfl ?_ ?_
      · refine s_iconst 30 0 (by decide) dX10_isNumber_29 rfl ?_
        exact s_zretP rfl dX10_isNumber_30
      · refine s_iconst 26 1 (by decide) dX10_isNumber_25 rfl ?_
        refine s_goto 30 dX10_isNumber_26 (by decide) ?_
        exact s_zretP rfl dX10_isNumber_30
def EX10_isNumber : List Value → HP → Option Bool := en 2 BX10_isNumber_0
theorem cmX10_isNumber : CM XX10_isNumber EX10_isNumber fZ 0 0 := CM.of rfl (by decide) rfl rfl sBX10_isNumber_0
theorem yoX10_isNumber : YO XX10_isNumber 1 0 0 := ⟨tw_781, rfl, tw_1, (by decide +kernel), rfl, rfl⟩
abbrev XX10_steps : MX := (yX10_steps, cX10_steps, 3, (Option.some .int), Cond.code yX10_steps cX10_steps 3 (Option.some .int) :: WS, { frames := 2, cells := 0, slots := 0, locals := 55 })
def BX10_steps_36 : KT (Int32 × HP) :=
  oCal 4 (some 0) EX0_stepsBetween fI (oCal 2 (some 10) EX10_answer fIH (oIretH))
set_option maxRecDepth 20000 in
theorem sBX10_steps_36 : Snd XX10_steps fIH 36 (BX10_steps_36) (0) (0) := by
  unfold BX10_steps_36
  refine s_cal0 39 (run_V (X := XX10_steps) rfl clX0 yoX0_stepsBetween rfl tw_782 tw_783 tw_784 (by decide) dX10_steps_36) cmX0_stepsBetween (fun _ _ _ => rfl) rfl ?_
  refine s_cal0 42 (run_V (X := XX10_steps) rfl clX10 yoX10_answer rfl tw_702 tw_704 tw_p18 (by decide) dX10_steps_39) cmX10_answer (fun _ _ _ => rfl) rfl ?_
  exact s_iretH rfl dX10_steps_42
def BX10_steps_10 : KT (Int32 × HP) :=
  oCal 2 (some 10) EX10_isNumber fZ (oIfne (oAld 0 (oAld 0 (oGet 10 7 (oGet 3 0 (oAld 0 (oGet 10 10 (oIld 1 (oIld 2 (oPick [] (BX10_steps_36)))))))))) (oAld 0 (oConst (.int 1) (oCal 2 (some 10) EX10_refuse fIH (oIretH)))))
set_option maxRecDepth 20000 in
theorem sBX10_steps_10 : Snd XX10_steps fIH 10 (BX10_steps_10) (0) (0) := by
  unfold BX10_steps_10
  refine s_cal0 13 (run_V (X := XX10_steps) rfl clX10 yoX10_isNumber rfl tw_778 tw_780 tw_p21 (by decide) dX10_steps_10) cmX10_isNumber (fun _ _ _ => rfl) rfl ?_
  refine s_ifne 22 16 dX10_steps_13 (by decide) rfl ?_ ?_
  · refine s_Aldn 0 rfl 23 dX10_steps_22 rfl ?_
    refine s_Aldn 0 rfl 24 dX10_steps_23 rfl ?_
    refine s_get 10 7 27 clX10 (by decide) tw_356 dX10_steps_24 rfl ?_
    refine s_getN 3 0 30 clX3 (by decide) nw_23 dX10_steps_27 rfl ?_
    refine s_Aldn 0 rfl 31 dX10_steps_30 rfl ?_
    refine s_get 10 10 34 clX10 (by decide) tw_359 dX10_steps_31 rfl ?_
    refine s_Ildn 1 rfl 35 dX10_steps_34 rfl ?_
    refine s_Ildn 2 rfl 36 dX10_steps_35 rfl ?_
    exact s_pick (sBX10_steps_36)
  · refine s_Aldn 0 rfl 17 dX10_steps_16 rfl ?_
    refine s_iconst 18 1 (by decide) dX10_steps_17 rfl ?_
    refine s_cal0 21 (run_V (X := XX10_steps) rfl clX10 yoX10_refuse rfl tw_415 tw_417 tw_p0 (by decide) dX10_steps_18) cmX10_refuse (fun _ _ _ => rfl) rfl ?_
    exact s_iretH rfl dX10_steps_21
def BX10_steps_2 : KT (Int32 × HP) :=
  oCal 2 (some 10) EX10_isNumber fZ (oIfeq (oAld 0 (oConst (.int 1) (oCal 2 (some 10) EX10_refuse fIH (oIretH)))) (oAld 0 (oIld 2 (oPick [0, 1, 2] (BX10_steps_10)))))
set_option maxRecDepth 20000 in
theorem sBX10_steps_2 : Snd XX10_steps fIH 2 (BX10_steps_2) (0) (0) := by
  unfold BX10_steps_2
  refine s_cal0 5 (run_V (X := XX10_steps) rfl clX10 yoX10_isNumber rfl tw_778 tw_780 tw_p21 (by decide) dX10_steps_2) cmX10_isNumber (fun _ _ _ => rfl) rfl ?_
  refine s_ifeq 16 8 dX10_steps_5 (by decide) rfl ?_ ?_
  · refine s_Aldn 0 rfl 17 dX10_steps_16 rfl ?_
    refine s_iconst 18 1 (by decide) dX10_steps_17 rfl ?_
    refine s_cal0 21 (run_V (X := XX10_steps) rfl clX10 yoX10_refuse rfl tw_415 tw_417 tw_p0 (by decide) dX10_steps_18) cmX10_refuse (fun _ _ _ => rfl) rfl ?_
    exact s_iretH rfl dX10_steps_21
  · refine s_Aldn 0 rfl 9 dX10_steps_8 rfl ?_
    refine s_Ildn 2 rfl 10 dX10_steps_9 rfl ?_
    exact s_pick (sBX10_steps_10)
def BX10_steps_0 : KT (Int32 × HP) :=
  oAld 0 (oIld 1 (oPick [0, 1, 2] (BX10_steps_2)))
set_option maxRecDepth 20000 in
theorem sBX10_steps_0 : Snd XX10_steps fIH 0 (BX10_steps_0) (0) (0) := by
  unfold BX10_steps_0
  refine s_Aldn 0 rfl 1 dX10_steps_0 rfl ?_
  refine s_Ildn 1 rfl 2 dX10_steps_1 rfl ?_
  exact s_pick (sBX10_steps_2)
def EX10_steps : List Value → HP → Option (Int32 × HP) := en 3 BX10_steps_0
theorem cmX10_steps : CM XX10_steps EX10_steps fIH 0 0 := CM.of rfl (by decide) rfl rfl sBX10_steps_0
theorem yoX10_steps : YO XX10_steps 2 0 0 := ⟨tw_777, rfl, tw_1, (by decide +kernel), rfl, rfl⟩
abbrev XX10_longest : MX := (yX10_longest, cX10_longest, 1, (Option.some .int), Cond.code yX10_longest cX10_longest 1 (Option.some .int) :: WS, { frames := 3, cells := 0, slots := 0, locals := 79 })
def BX10_longest_19 : KT (Int32 × HP) :=
  oCal 2 (some 0) EX0_longestWay fI (oCal 2 (some 10) EX10_answer fIH (oIretH))
set_option maxRecDepth 20000 in
theorem sBX10_longest_19 : Snd XX10_longest fIH 19 (BX10_longest_19) (0) (0) := by
  unfold BX10_longest_19
  refine s_cal0 22 (run_V (X := XX10_longest) rfl clX0 yoX0_longestWay rfl tw_790 tw_791 tw_792 (by decide) dX10_longest_19) cmX0_longestWay (fun _ _ _ => rfl) rfl ?_
  refine s_cal0 25 (run_V (X := XX10_longest) rfl clX10 yoX10_answer rfl tw_702 tw_704 tw_p18 (by decide) dX10_longest_22) cmX10_answer (fun _ _ _ => rfl) rfl ?_
  refine s_goto 33 dX10_longest_25 (by decide) ?_
  exact s_iretH rfl dX10_longest_33
def BX10_longest_0 : KT (Int32 × HP) :=
  oAld 0 (oGet 10 9 (oIfeq (oAld 0 (oConst (.int 1) (oCal 2 (some 10) EX10_refuse fIH (oIretH)))) (oAld 0 (oAld 0 (oGet 10 7 (oGet 3 0 (oAld 0 (oGet 10 10 (oPick [] (BX10_longest_19))))))))))
set_option maxRecDepth 20000 in
theorem sBX10_longest_0 : Snd XX10_longest fIH 0 (BX10_longest_0) (0) (0) := by
  unfold BX10_longest_0
  refine s_Aldn 0 rfl 1 dX10_longest_0 rfl ?_
  refine s_get 10 9 4 clX10 (by decide) tw_358 dX10_longest_1 rfl ?_
  refine s_ifeq 28 7 dX10_longest_4 (by decide) rfl ?_ ?_
  · refine s_Aldn 0 rfl 29 dX10_longest_28 rfl ?_
    refine s_iconst 30 1 (by decide) dX10_longest_29 rfl ?_
    refine s_cal0 33 (run_V (X := XX10_longest) rfl clX10 yoX10_refuse rfl tw_415 tw_417 tw_p0 (by decide) dX10_longest_30) cmX10_refuse (fun _ _ _ => rfl) rfl ?_
    exact s_iretH rfl dX10_longest_33
  · refine s_Aldn 0 rfl 8 dX10_longest_7 rfl ?_
    refine s_Aldn 0 rfl 9 dX10_longest_8 rfl ?_
    refine s_get 10 7 12 clX10 (by decide) tw_356 dX10_longest_9 rfl ?_
    refine s_getN 3 0 15 clX3 (by decide) nw_23 dX10_longest_12 rfl ?_
    refine s_Aldn 0 rfl 16 dX10_longest_15 rfl ?_
    refine s_get 10 10 19 clX10 (by decide) tw_359 dX10_longest_16 rfl ?_
    exact s_pick (sBX10_longest_19)
def EX10_longest : List Value → HP → Option (Int32 × HP) := en 1 BX10_longest_0
theorem cmX10_longest : CM XX10_longest EX10_longest fIH 0 0 := CM.of rfl (by decide) rfl rfl sBX10_longest_0
theorem yoX10_longest : YO XX10_longest 0 0 0 := ⟨tw_789, rfl, tw_1, (by decide +kernel), rfl, rfl⟩
abbrev XX10_splits : MX := (yX10_splits, cX10_splits, 3, (Option.some .int), Cond.code yX10_splits cX10_splits 3 (Option.some .int) :: WS, { frames := 3, cells := 0, slots := 0, locals := 82 })
def BX10_splits_39 : KT (Int32 × HP) :=
  oCal 3 (some 0) EX0_isParting fZ (oIfeq (oConst (.int 0) (oCal 2 (some 10) EX10_answer fIH (oIretH))) (oConst (.int 1) (oCal 2 (some 10) EX10_answer fIH (oIretH))))
set_option maxRecDepth 20000 in
theorem sBX10_splits_39 : Snd XX10_splits fIH 39 (BX10_splits_39) (0) (0) := by
  unfold BX10_splits_39
  refine s_cal0 42 (run_V (X := XX10_splits) rfl clX0 yoX0_isParting rfl tw_805 tw_806 tw_807 (by decide) dX10_splits_39) cmX0_isParting (fun _ _ _ => rfl) rfl ?_
  refine s_ifeq 49 45 dX10_splits_42 (by decide) rfl ?_ ?_
  · refine s_iconst 50 0 (by decide) dX10_splits_49 rfl ?_
    refine s_cal0 53 (run_V (X := XX10_splits) rfl clX10 yoX10_answer rfl tw_702 tw_704 tw_p18 (by decide) dX10_splits_50) cmX10_answer (fun _ _ _ => rfl) rfl ?_
    exact s_iretH rfl dX10_splits_53
  · refine s_iconst 46 1 (by decide) dX10_splits_45 rfl ?_
    refine s_goto 50 dX10_splits_46 (by decide) ?_
    refine s_cal0 53 (run_V (X := XX10_splits) rfl clX10 yoX10_answer rfl tw_702 tw_704 tw_p18 (by decide) dX10_splits_50) cmX10_answer (fun _ _ _ => rfl) rfl ?_
    exact s_iretH rfl dX10_splits_53
def BX10_splits_3 : KT (Int32 × HP) :=
  oCal 3 (some 10) EX10_isCell fZ (oIfne (oAld 0 (oAld 0 (oGet 10 7 (oGet 3 0 (oAld 0 (oGet 10 10 (oAld 0 (oGet 10 7 (oGet 3 0 (oIld 1 (oIld 2 (oCal 3 (some 0) EX0_number fI (oPick [] (BX10_splits_39)))))))))))))) (oAld 0 (oConst (.int 1) (oCal 2 (some 10) EX10_refuse fIH (oIretH)))))
set_option maxRecDepth 20000 in
theorem sBX10_splits_3 : Snd XX10_splits fIH 3 (BX10_splits_3) (0) (0) := by
  unfold BX10_splits_3
  refine s_cal0 6 (run_V (X := XX10_splits) rfl clX10 yoX10_isCell rfl tw_718 tw_720 tw_p19 (by decide) dX10_splits_3) cmX10_isCell (fun _ _ _ => rfl) rfl ?_
  refine s_ifne 15 9 dX10_splits_6 (by decide) rfl ?_ ?_
  · refine s_Aldn 0 rfl 16 dX10_splits_15 rfl ?_
    refine s_Aldn 0 rfl 17 dX10_splits_16 rfl ?_
    refine s_get 10 7 20 clX10 (by decide) tw_356 dX10_splits_17 rfl ?_
    refine s_getN 3 0 23 clX3 (by decide) nw_23 dX10_splits_20 rfl ?_
    refine s_Aldn 0 rfl 24 dX10_splits_23 rfl ?_
    refine s_get 10 10 27 clX10 (by decide) tw_359 dX10_splits_24 rfl ?_
    refine s_Aldn 0 rfl 28 dX10_splits_27 rfl ?_
    refine s_get 10 7 31 clX10 (by decide) tw_356 dX10_splits_28 rfl ?_
    refine s_getN 3 0 34 clX3 (by decide) nw_23 dX10_splits_31 rfl ?_
    refine s_Ildn 1 rfl 35 dX10_splits_34 rfl ?_
    refine s_Ildn 2 rfl 36 dX10_splits_35 rfl ?_
    refine s_cal0 39 (run_V (X := XX10_splits) rfl clX0 yoX0_number rfl tw_727 tw_435 tw_436 (by decide) dX10_splits_36) cmX0_number (fun _ _ _ => rfl) rfl ?_
    exact s_pick (sBX10_splits_39)
  · refine s_Aldn 0 rfl 10 dX10_splits_9 rfl ?_
    refine s_iconst 11 1 (by decide) dX10_splits_10 rfl ?_
    refine s_cal0 14 (run_V (X := XX10_splits) rfl clX10 yoX10_refuse rfl tw_415 tw_417 tw_p0 (by decide) dX10_splits_11) cmX10_refuse (fun _ _ _ => rfl) rfl ?_
    exact s_iretH rfl dX10_splits_14
def BX10_splits_0 : KT (Int32 × HP) :=
  oAld 0 (oIld 1 (oIld 2 (oPick [0, 1, 2] (BX10_splits_3))))
set_option maxRecDepth 20000 in
theorem sBX10_splits_0 : Snd XX10_splits fIH 0 (BX10_splits_0) (0) (0) := by
  unfold BX10_splits_0
  refine s_Aldn 0 rfl 1 dX10_splits_0 rfl ?_
  refine s_Ildn 1 rfl 2 dX10_splits_1 rfl ?_
  refine s_Ildn 2 rfl 3 dX10_splits_2 rfl ?_
  exact s_pick (sBX10_splits_3)
def EX10_splits : List Value → HP → Option (Int32 × HP) := en 3 BX10_splits_0
theorem cmX10_splits : CM XX10_splits EX10_splits fIH 0 0 := CM.of rfl (by decide) rfl rfl sBX10_splits_0
theorem yoX10_splits : YO XX10_splits 2 0 0 := ⟨tw_804, rfl, tw_1, (by decide +kernel), rfl, rfl⟩
abbrev XX10_isWalker : MX := (yX10_isWalker, cX10_isWalker, 2, (Option.some .boolean), Cond.code yX10_isWalker cX10_isWalker 2 (Option.some .boolean) :: WS, { frames := 0, cells := 0, slots := 0, locals := 0 })
def BX10_isWalker_0 : KT Bool :=
  oAld 0 (oGet 10 9 (oIfeq (oConst (.int 0) (oZretP)) (oIld 1 (oIflt (oConst (.int 0) (oZretP)) (oIld 1 (oAld 0 (oGet 10 7 (oGet 3 15 (oCmpge (oConst (.int 0) (oZretP)) (oConst (.int 1) (oZretP)))))))))))
set_option maxRecDepth 20000 in
theorem sBX10_isWalker_0 : Snd XX10_isWalker fZ 0 (BX10_isWalker_0) (0) (0) := by
  unfold BX10_isWalker_0
  refine s_Aldn 0 rfl 1 dX10_isWalker_0 rfl ?_
  refine s_get 10 9 4 clX10 (by decide) tw_358 dX10_isWalker_1 rfl ?_
  refine s_ifeq 26 7 dX10_isWalker_4 (by decide) rfl ?_ ?_
  · refine s_iconst 27 0 (by decide) dX10_isWalker_26 rfl ?_
    exact s_zretP rfl dX10_isWalker_27
  · refine s_Ildn 1 rfl 8 dX10_isWalker_7 rfl ?_
    refine s_iflt 26 11 dX10_isWalker_8 (by decide) rfl ?_ ?_
    · refine s_iconst 27 0 (by decide) dX10_isWalker_26 rfl ?_
      exact s_zretP rfl dX10_isWalker_27
    · refine s_Ildn 1 rfl 12 dX10_isWalker_11 rfl ?_
      refine s_Aldn 0 rfl 13 dX10_isWalker_12 rfl ?_
      refine s_get 10 7 16 clX10 (by decide) tw_356 dX10_isWalker_13 rfl ?_
      refine s_getN 3 15 19 clX3 (by decide) nw_41 dX10_isWalker_16 rfl ?_
      refine s_cmpge 26 22 dX10_isWalker_19 (by decide) rfl ?_ ?_
      · refine s_iconst 27 0 (by decide) dX10_isWalker_26 rfl ?_
        exact s_zretP rfl dX10_isWalker_27
      · refine s_iconst 23 1 (by decide) dX10_isWalker_22 rfl ?_
        refine s_goto 27 dX10_isWalker_23 (by decide) ?_
        exact s_zretP rfl dX10_isWalker_27
def EX10_isWalker : List Value → HP → Option Bool := en 2 BX10_isWalker_0
theorem cmX10_isWalker : CM XX10_isWalker EX10_isWalker fZ 0 0 := CM.of rfl (by decide) rfl rfl sBX10_isWalker_0
theorem yoX10_isWalker : YO XX10_isWalker 1 0 0 := ⟨tw_816, rfl, tw_1, (by decide +kernel), rfl, rfl⟩
abbrev XX10_isMinute : MX := (yX10_isMinute, cX10_isMinute, 2, (Option.some .boolean), Cond.code yX10_isMinute cX10_isMinute 2 (Option.some .boolean) :: WS, { frames := 0, cells := 0, slots := 0, locals := 0 })
def BX10_isMinute_0 : KT Bool :=
  oIld 1 (oIflt (oConst (.int 0) (oZretP)) (oIld 1 (oAld 0 (oGet 10 7 (oGet 3 8 (oCmpgt (oConst (.int 0) (oZretP)) (oConst (.int 1) (oZretP))))))))
set_option maxRecDepth 20000 in
theorem sBX10_isMinute_0 : Snd XX10_isMinute fZ 0 (BX10_isMinute_0) (0) (0) := by
  unfold BX10_isMinute_0
  refine s_Ildn 1 rfl 1 dX10_isMinute_0 rfl ?_
  refine s_iflt 19 4 dX10_isMinute_1 (by decide) rfl ?_ ?_
  · refine s_iconst 20 0 (by decide) dX10_isMinute_19 rfl ?_
    exact s_zretP rfl dX10_isMinute_20
  · refine s_Ildn 1 rfl 5 dX10_isMinute_4 rfl ?_
    refine s_Aldn 0 rfl 6 dX10_isMinute_5 rfl ?_
    refine s_get 10 7 9 clX10 (by decide) tw_356 dX10_isMinute_6 rfl ?_
    refine s_getN 3 8 12 clX3 (by decide) nw_31 dX10_isMinute_9 rfl ?_
    refine s_cmpgt 19 15 dX10_isMinute_12 (by decide) rfl ?_ ?_
    · refine s_iconst 20 0 (by decide) dX10_isMinute_19 rfl ?_
      exact s_zretP rfl dX10_isMinute_20
    · refine s_iconst 16 1 (by decide) dX10_isMinute_15 rfl ?_
      refine s_goto 20 dX10_isMinute_16 (by decide) ?_
      exact s_zretP rfl dX10_isMinute_20
def EX10_isMinute : List Value → HP → Option Bool := en 2 BX10_isMinute_0
theorem cmX10_isMinute : CM XX10_isMinute EX10_isMinute fZ 0 0 := CM.of rfl (by decide) rfl rfl sBX10_isMinute_0
theorem yoX10_isMinute : YO XX10_isMinute 1 0 0 := ⟨tw_820, rfl, tw_1, (by decide +kernel), rfl, rfl⟩
abbrev XX10_at : MX := (yX10_at, cX10_at, 3, (Option.some .int), Cond.code yX10_at cX10_at 3 (Option.some .int) :: WS, { frames := 5, cells := 0, slots := 0, locals := 119 })
def BX10_at_54 : KT (Int32 × HP) :=
  oCal 2 (some 8) EX8_cellIn fI (oCal 2 (some 10) EX10_answer fIH (oIretH))
set_option maxRecDepth 20000 in
theorem sBX10_at_54 : Snd XX10_at fIH 54 (BX10_at_54) (0) (0) := by
  unfold BX10_at_54
  refine s_cal0 57 (run_V (X := XX10_at) rfl clX8 yoX8_cellIn rfl tw_878 tw_879 tw_880 (by decide) dX10_at_54) cmX8_cellIn (fun _ _ _ => rfl) rfl ?_
  refine s_cal0 60 (run_V (X := XX10_at) rfl clX10 yoX10_answer rfl tw_702 tw_704 tw_p18 (by decide) dX10_at_57) cmX10_answer (fun _ _ _ => rfl) rfl ?_
  exact s_iretH rfl dX10_at_60
def BX10_at_45 : KT (Int32 × HP) :=
  oCal 5 (some 8) EX8_goTillDusk fVH (oAld 0 (oAld 0 (oGet 10 4 (oIld 2 (oPick [] (BX10_at_54))))))
set_option maxRecDepth 20000 in
theorem sBX10_at_45 : Snd XX10_at fIH 45 (BX10_at_45) (0) (0) := by
  unfold BX10_at_45
  refine s_cal0 48 (run_V (X := XX10_at) rfl clX8 yoX8_goTillDusk rfl tw_821 tw_822 tw_823 (by decide) dX10_at_45) cmX8_goTillDusk (fun _ _ _ => rfl) rfl ?_
  refine s_Aldn 0 rfl 49 dX10_at_48 rfl ?_
  refine s_Aldn 0 rfl 50 dX10_at_49 rfl ?_
  refine s_get 10 4 53 clX10 (by decide) tw_353 dX10_at_50 rfl ?_
  refine s_Ildn 2 rfl 54 dX10_at_53 rfl ?_
  exact s_pick (sBX10_at_54)
def BX10_at_16 : KT (Int32 × HP) :=
  oCal 2 (some 10) EX10_isMinute fZ (oIfne (oAld 0 (oGet 10 4 (oAld 0 (oGet 10 7 (oIld 1 (oAld 0 (oGet 10 10 (oAld 0 (oGet 10 11 (oPick [0, 2] (BX10_at_45))))))))))) (oAld 0 (oConst (.int 2) (oCal 2 (some 10) EX10_refuse fIH (oIretH)))))
set_option maxRecDepth 20000 in
theorem sBX10_at_16 : Snd XX10_at fIH 16 (BX10_at_16) (0) (0) := by
  unfold BX10_at_16
  refine s_cal0 19 (run_V (X := XX10_at) rfl clX10 yoX10_isMinute rfl tw_817 tw_819 tw_p24 (by decide) dX10_at_16) cmX10_isMinute (fun _ _ _ => rfl) rfl ?_
  refine s_ifne 28 22 dX10_at_19 (by decide) rfl ?_ ?_
  · refine s_Aldn 0 rfl 29 dX10_at_28 rfl ?_
    refine s_get 10 4 32 clX10 (by decide) tw_353 dX10_at_29 rfl ?_
    refine s_Aldn 0 rfl 33 dX10_at_32 rfl ?_
    refine s_get 10 7 36 clX10 (by decide) tw_356 dX10_at_33 rfl ?_
    refine s_Ildn 1 rfl 37 dX10_at_36 rfl ?_
    refine s_Aldn 0 rfl 38 dX10_at_37 rfl ?_
    refine s_get 10 10 41 clX10 (by decide) tw_359 dX10_at_38 rfl ?_
    refine s_Aldn 0 rfl 42 dX10_at_41 rfl ?_
    refine s_get 10 11 45 clX10 (by decide) tw_360 dX10_at_42 rfl ?_
    exact s_pick (sBX10_at_45)
  · refine s_Aldn 0 rfl 23 dX10_at_22 rfl ?_
    refine s_iconst 24 2 (by decide) dX10_at_23 rfl ?_
    refine s_cal0 27 (run_V (X := XX10_at) rfl clX10 yoX10_refuse rfl tw_415 tw_417 tw_p0 (by decide) dX10_at_24) cmX10_refuse (fun _ _ _ => rfl) rfl ?_
    exact s_iretH rfl dX10_at_27
def BX10_at_2 : KT (Int32 × HP) :=
  oCal 2 (some 10) EX10_isWalker fZ (oIfne (oAld 0 (oIld 2 (oPick [0, 1, 2] (BX10_at_16)))) (oAld 0 (oConst (.int 1) (oCal 2 (some 10) EX10_refuse fIH (oIretH)))))
set_option maxRecDepth 20000 in
theorem sBX10_at_2 : Snd XX10_at fIH 2 (BX10_at_2) (0) (0) := by
  unfold BX10_at_2
  refine s_cal0 5 (run_V (X := XX10_at) rfl clX10 yoX10_isWalker rfl tw_813 tw_815 tw_p23 (by decide) dX10_at_2) cmX10_isWalker (fun _ _ _ => rfl) rfl ?_
  refine s_ifne 14 8 dX10_at_5 (by decide) rfl ?_ ?_
  · refine s_Aldn 0 rfl 15 dX10_at_14 rfl ?_
    refine s_Ildn 2 rfl 16 dX10_at_15 rfl ?_
    exact s_pick (sBX10_at_16)
  · refine s_Aldn 0 rfl 9 dX10_at_8 rfl ?_
    refine s_iconst 10 1 (by decide) dX10_at_9 rfl ?_
    refine s_cal0 13 (run_V (X := XX10_at) rfl clX10 yoX10_refuse rfl tw_415 tw_417 tw_p0 (by decide) dX10_at_10) cmX10_refuse (fun _ _ _ => rfl) rfl ?_
    exact s_iretH rfl dX10_at_13
def BX10_at_0 : KT (Int32 × HP) :=
  oAld 0 (oIld 1 (oPick [0, 1, 2] (BX10_at_2)))
set_option maxRecDepth 20000 in
theorem sBX10_at_0 : Snd XX10_at fIH 0 (BX10_at_0) (0) (0) := by
  unfold BX10_at_0
  refine s_Aldn 0 rfl 1 dX10_at_0 rfl ?_
  refine s_Ildn 1 rfl 2 dX10_at_1 rfl ?_
  exact s_pick (sBX10_at_2)
def EX10_at : List Value → HP → Option (Int32 × HP) := en 3 BX10_at_0
theorem cmX10_at : CM XX10_at EX10_at fIH 0 0 := CM.of rfl (by decide) rfl rfl sBX10_at_0
theorem yoX10_at : YO XX10_at 2 0 0 := ⟨tw_812, rfl, tw_1, (by decide +kernel), rfl, rfl⟩
abbrev XX10_out : MX := (yX10_out, cX10_out, 2, (Option.some .int), Cond.code yX10_out cX10_out 2 (Option.some .int) :: WS, { frames := 5, cells := 0, slots := 0, locals := 119 })
def BX10_out_31 : KT (Int32 × HP) :=
  oCal 5 (some 8) EX8_goTillDusk fVH (oAld 0 (oAld 0 (oGet 10 4 (oCal 1 (some 8) EX8_outIn fI (oCal 2 (some 10) EX10_answer fIH (oIretH))))))
set_option maxRecDepth 20000 in
theorem sBX10_out_31 : Snd XX10_out fIH 31 (BX10_out_31) (0) (0) := by
  unfold BX10_out_31
  refine s_cal0 34 (run_V (X := XX10_out) rfl clX8 yoX8_goTillDusk rfl tw_821 tw_822 tw_823 (by decide) dX10_out_31) cmX8_goTillDusk (fun _ _ _ => rfl) rfl ?_
  refine s_Aldn 0 rfl 35 dX10_out_34 rfl ?_
  refine s_Aldn 0 rfl 36 dX10_out_35 rfl ?_
  refine s_get 10 4 39 clX10 (by decide) tw_353 dX10_out_36 rfl ?_
  refine s_cal0 42 (run_V (X := XX10_out) rfl clX8 yoX8_outIn rfl tw_886 tw_887 tw_888 (by decide) dX10_out_39) cmX8_outIn (fun _ _ _ => rfl) rfl ?_
  refine s_cal0 45 (run_V (X := XX10_out) rfl clX10 yoX10_answer rfl tw_702 tw_704 tw_p18 (by decide) dX10_out_42) cmX10_answer (fun _ _ _ => rfl) rfl ?_
  exact s_iretH rfl dX10_out_45
def BX10_out_2 : KT (Int32 × HP) :=
  oCal 2 (some 10) EX10_isWalker fZ (oIfne (oAld 0 (oGet 10 4 (oAld 0 (oGet 10 7 (oIld 1 (oAld 0 (oGet 10 10 (oAld 0 (oGet 10 11 (oPick [0] (BX10_out_31))))))))))) (oAld 0 (oConst (.int 1) (oCal 2 (some 10) EX10_refuse fIH (oIretH)))))
set_option maxRecDepth 20000 in
theorem sBX10_out_2 : Snd XX10_out fIH 2 (BX10_out_2) (0) (0) := by
  unfold BX10_out_2
  refine s_cal0 5 (run_V (X := XX10_out) rfl clX10 yoX10_isWalker rfl tw_813 tw_815 tw_p23 (by decide) dX10_out_2) cmX10_isWalker (fun _ _ _ => rfl) rfl ?_
  refine s_ifne 14 8 dX10_out_5 (by decide) rfl ?_ ?_
  · refine s_Aldn 0 rfl 15 dX10_out_14 rfl ?_
    refine s_get 10 4 18 clX10 (by decide) tw_353 dX10_out_15 rfl ?_
    refine s_Aldn 0 rfl 19 dX10_out_18 rfl ?_
    refine s_get 10 7 22 clX10 (by decide) tw_356 dX10_out_19 rfl ?_
    refine s_Ildn 1 rfl 23 dX10_out_22 rfl ?_
    refine s_Aldn 0 rfl 24 dX10_out_23 rfl ?_
    refine s_get 10 10 27 clX10 (by decide) tw_359 dX10_out_24 rfl ?_
    refine s_Aldn 0 rfl 28 dX10_out_27 rfl ?_
    refine s_get 10 11 31 clX10 (by decide) tw_360 dX10_out_28 rfl ?_
    exact s_pick (sBX10_out_31)
  · refine s_Aldn 0 rfl 9 dX10_out_8 rfl ?_
    refine s_iconst 10 1 (by decide) dX10_out_9 rfl ?_
    refine s_cal0 13 (run_V (X := XX10_out) rfl clX10 yoX10_refuse rfl tw_415 tw_417 tw_p0 (by decide) dX10_out_10) cmX10_refuse (fun _ _ _ => rfl) rfl ?_
    exact s_iretH rfl dX10_out_13
def BX10_out_0 : KT (Int32 × HP) :=
  oAld 0 (oIld 1 (oPick [0, 1] (BX10_out_2)))
set_option maxRecDepth 20000 in
theorem sBX10_out_0 : Snd XX10_out fIH 0 (BX10_out_0) (0) (0) := by
  unfold BX10_out_0
  refine s_Aldn 0 rfl 1 dX10_out_0 rfl ?_
  refine s_Ildn 1 rfl 2 dX10_out_1 rfl ?_
  exact s_pick (sBX10_out_2)
def EX10_out : List Value → HP → Option (Int32 × HP) := en 2 BX10_out_0
theorem cmX10_out : CM XX10_out EX10_out fIH 0 0 := CM.of rfl (by decide) rfl rfl sBX10_out_0
theorem yoX10_out : YO XX10_out 1 0 0 := ⟨tw_885, rfl, tw_1, (by decide +kernel), rfl, rfl⟩
abbrev XX10_goesByLot : MX := (yX10_goesByLot, cX10_goesByLot, 2, (Option.some .boolean), Cond.code yX10_goesByLot cX10_goesByLot 2 (Option.some .boolean) :: WS, { frames := 1, cells := 0, slots := 0, locals := 21 })
def BX10_goesByLot_5 : KT Bool :=
  oCal 2 (some 3) EX3_walker fA (oGet 9 1 (oConst (.int 4) (oCmpne (oConst (.int 0) (oZretP)) (oConst (.int 1) (oZretP)))))
set_option maxRecDepth 20000 in
theorem sBX10_goesByLot_5 : Snd XX10_goesByLot fZ 5 (BX10_goesByLot_5) (0) (0) := by
  unfold BX10_goesByLot_5
  refine s_cal0 8 (run_V (X := XX10_goesByLot) rfl clX3 yoX3_walker rfl tw_898 tw_309 tw_310 (by decide) dX10_goesByLot_5) cmX3_walker (fun _ _ _ => rfl) rfl ?_
  refine s_getN 9 1 11 clX9 (by decide) nw_14 dX10_goesByLot_8 rfl ?_
  refine s_iconst 12 4 (by decide) dX10_goesByLot_11 rfl ?_
  refine s_cmpne 19 15 dX10_goesByLot_12 (by decide) rfl ?_ ?_
  · refine s_iconst 20 0 (by decide) dX10_goesByLot_19 rfl ?_
    exact s_zretP rfl dX10_goesByLot_20
  · refine s_iconst 16 1 (by decide) dX10_goesByLot_15 rfl ?_
    refine s_goto 20 dX10_goesByLot_16 (by decide) ?_
    exact s_zretP rfl dX10_goesByLot_20
def BX10_goesByLot_0 : KT Bool :=
  oAld 0 (oGet 10 7 (oIld 1 (oPick [] (BX10_goesByLot_5))))
set_option maxRecDepth 20000 in
theorem sBX10_goesByLot_0 : Snd XX10_goesByLot fZ 0 (BX10_goesByLot_0) (0) (0) := by
  unfold BX10_goesByLot_0
  refine s_Aldn 0 rfl 1 dX10_goesByLot_0 rfl ?_
  refine s_get 10 7 4 clX10 (by decide) tw_356 dX10_goesByLot_1 rfl ?_
  refine s_Ildn 1 rfl 5 dX10_goesByLot_4 rfl ?_
  exact s_pick (sBX10_goesByLot_5)
def EX10_goesByLot : List Value → HP → Option Bool := en 2 BX10_goesByLot_0
theorem cmX10_goesByLot : CM XX10_goesByLot EX10_goesByLot fZ 0 0 := CM.of rfl (by decide) rfl rfl sBX10_goesByLot_0
theorem yoX10_goesByLot : YO XX10_goesByLot 1 0 0 := ⟨tw_897, rfl, tw_1, (by decide +kernel), rfl, rfl⟩
abbrev XX10_ever : MX := (yX10_ever, cX10_ever, 2, (Option.some .int), Cond.code yX10_ever cX10_ever 2 (Option.some .int) :: WS, { frames := 5, cells := 0, slots := 0, locals := 114 })
def BX10_ever_53 : KT (Int32 × HP) :=
  oCal 1 (some 8) EX8_isOutSometime fZH (oIfeq (oConst (.int 0) (oCal 2 (some 10) EX10_answer fIH (oIretH))) (oConst (.int 1) (oCal 2 (some 10) EX10_answer fIH (oIretH))))
set_option maxRecDepth 20000 in
theorem sBX10_ever_53 : Snd XX10_ever fIH 53 (BX10_ever_53) (0) (0) := by
  unfold BX10_ever_53
  refine s_cal0 56 (run_V (X := XX10_ever) rfl clX8 yoX8_isOutSometime rfl tw_900 tw_901 tw_902 (by decide) dX10_ever_53) cmX8_isOutSometime (fun _ _ _ => rfl) rfl ?_
  refine s_ifeq 63 59 dX10_ever_56 (by decide) rfl ?_ ?_
  · refine s_iconst 64 0 (by decide) dX10_ever_63 rfl ?_
    refine s_cal0 67 (run_V (X := XX10_ever) rfl clX10 yoX10_answer rfl tw_702 tw_704 tw_p18 (by decide) dX10_ever_64) cmX10_answer (fun _ _ _ => rfl) rfl ?_
    exact s_iretH rfl dX10_ever_67
  · refine s_iconst 60 1 (by decide) dX10_ever_59 rfl ?_
    refine s_goto 64 dX10_ever_60 (by decide) ?_
    refine s_cal0 67 (run_V (X := XX10_ever) rfl clX10 yoX10_answer rfl tw_702 tw_704 tw_p18 (by decide) dX10_ever_64) cmX10_answer (fun _ _ _ => rfl) rfl ?_
    exact s_iretH rfl dX10_ever_67
def BX10_ever_45 : KT (Int32 × HP) :=
  oCal 5 (some 8) EX8_begin fVH (oAld 0 (oAld 0 (oGet 10 4 (oPick [] (BX10_ever_53)))))
set_option maxRecDepth 20000 in
theorem sBX10_ever_45 : Snd XX10_ever fIH 45 (BX10_ever_45) (0) (0) := by
  unfold BX10_ever_45
  refine s_cal0 48 (run_V (X := XX10_ever) rfl clX8 yoX8_begin rfl tw_899 tw_826 tw_827 (by decide) dX10_ever_45) cmX8_begin (fun _ _ _ => rfl) rfl ?_
  refine s_Aldn 0 rfl 49 dX10_ever_48 rfl ?_
  refine s_Aldn 0 rfl 50 dX10_ever_49 rfl ?_
  refine s_get 10 4 53 clX10 (by decide) tw_353 dX10_ever_50 rfl ?_
  exact s_pick (sBX10_ever_53)
def BX10_ever_16 : KT (Int32 × HP) :=
  oCal 2 (some 10) EX10_goesByLot fZ (oIfeq (oAld 0 (oGet 10 4 (oAld 0 (oGet 10 7 (oIld 1 (oAld 0 (oGet 10 10 (oAld 0 (oGet 10 11 (oPick [0] (BX10_ever_45))))))))))) (oAld 0 (oConst (.int 5) (oCal 2 (some 10) EX10_refuse fIH (oIretH)))))
set_option maxRecDepth 20000 in
theorem sBX10_ever_16 : Snd XX10_ever fIH 16 (BX10_ever_16) (0) (0) := by
  unfold BX10_ever_16
  refine s_cal0 19 (run_V (X := XX10_ever) rfl clX10 yoX10_goesByLot rfl tw_894 tw_896 tw_p33 (by decide) dX10_ever_16) cmX10_goesByLot (fun _ _ _ => rfl) rfl ?_
  refine s_ifeq 28 22 dX10_ever_19 (by decide) rfl ?_ ?_
  · refine s_Aldn 0 rfl 29 dX10_ever_28 rfl ?_
    refine s_get 10 4 32 clX10 (by decide) tw_353 dX10_ever_29 rfl ?_
    refine s_Aldn 0 rfl 33 dX10_ever_32 rfl ?_
    refine s_get 10 7 36 clX10 (by decide) tw_356 dX10_ever_33 rfl ?_
    refine s_Ildn 1 rfl 37 dX10_ever_36 rfl ?_
    refine s_Aldn 0 rfl 38 dX10_ever_37 rfl ?_
    refine s_get 10 10 41 clX10 (by decide) tw_359 dX10_ever_38 rfl ?_
    refine s_Aldn 0 rfl 42 dX10_ever_41 rfl ?_
    refine s_get 10 11 45 clX10 (by decide) tw_360 dX10_ever_42 rfl ?_
    exact s_pick (sBX10_ever_45)
  · refine s_Aldn 0 rfl 23 dX10_ever_22 rfl ?_
    refine s_iconst 24 5 (by decide) dX10_ever_23 rfl ?_
    refine s_cal0 27 (run_V (X := XX10_ever) rfl clX10 yoX10_refuse rfl tw_415 tw_417 tw_p0 (by decide) dX10_ever_24) cmX10_refuse (fun _ _ _ => rfl) rfl ?_
    exact s_iretH rfl dX10_ever_27
def BX10_ever_2 : KT (Int32 × HP) :=
  oCal 2 (some 10) EX10_isWalker fZ (oIfne (oAld 0 (oIld 1 (oPick [0, 1] (BX10_ever_16)))) (oAld 0 (oConst (.int 1) (oCal 2 (some 10) EX10_refuse fIH (oIretH)))))
set_option maxRecDepth 20000 in
theorem sBX10_ever_2 : Snd XX10_ever fIH 2 (BX10_ever_2) (0) (0) := by
  unfold BX10_ever_2
  refine s_cal0 5 (run_V (X := XX10_ever) rfl clX10 yoX10_isWalker rfl tw_813 tw_815 tw_p23 (by decide) dX10_ever_2) cmX10_isWalker (fun _ _ _ => rfl) rfl ?_
  refine s_ifne 14 8 dX10_ever_5 (by decide) rfl ?_ ?_
  · refine s_Aldn 0 rfl 15 dX10_ever_14 rfl ?_
    refine s_Ildn 1 rfl 16 dX10_ever_15 rfl ?_
    exact s_pick (sBX10_ever_16)
  · refine s_Aldn 0 rfl 9 dX10_ever_8 rfl ?_
    refine s_iconst 10 1 (by decide) dX10_ever_9 rfl ?_
    refine s_cal0 13 (run_V (X := XX10_ever) rfl clX10 yoX10_refuse rfl tw_415 tw_417 tw_p0 (by decide) dX10_ever_10) cmX10_refuse (fun _ _ _ => rfl) rfl ?_
    exact s_iretH rfl dX10_ever_13
def BX10_ever_0 : KT (Int32 × HP) :=
  oAld 0 (oIld 1 (oPick [0, 1] (BX10_ever_2)))
set_option maxRecDepth 20000 in
theorem sBX10_ever_0 : Snd XX10_ever fIH 0 (BX10_ever_0) (0) (0) := by
  unfold BX10_ever_0
  refine s_Aldn 0 rfl 1 dX10_ever_0 rfl ?_
  refine s_Ildn 1 rfl 2 dX10_ever_1 rfl ?_
  exact s_pick (sBX10_ever_2)
def EX10_ever : List Value → HP → Option (Int32 × HP) := en 2 BX10_ever_0
theorem cmX10_ever : CM XX10_ever EX10_ever fIH 0 0 := CM.of rfl (by decide) rfl rfl sBX10_ever_0
theorem yoX10_ever : YO XX10_ever 1 0 0 := ⟨tw_893, rfl, tw_1, (by decide +kernel), rfl, rfl⟩
abbrev XX10_ring : MX := (yX10_ring, cX10_ring, 2, (Option.some .int), Cond.code yX10_ring cX10_ring 2 (Option.some .int) :: WS, { frames := 5, cells := 0, slots := 0, locals := 116 })
def BX10_ring_70 : KT (Int32 × HP) :=
  oCal 1 (some 8) EX8_ringLength fIH (oCal 2 (some 10) EX10_answer fIH (oIretH))
set_option maxRecDepth 20000 in
theorem sBX10_ring_70 : Snd XX10_ring fIH 70 (BX10_ring_70) (0) (0) := by
  unfold BX10_ring_70
  refine s_cal0 73 (run_V (X := XX10_ring) rfl clX8 yoX8_ringLength rfl tw_908 tw_909 tw_910 (by decide) dX10_ring_70) cmX8_ringLength (fun _ _ _ => rfl) rfl ?_
  refine s_cal0 76 (run_V (X := XX10_ring) rfl clX10 yoX10_answer rfl tw_702 tw_704 tw_p18 (by decide) dX10_ring_73) cmX10_answer (fun _ _ _ => rfl) rfl ?_
  exact s_iretH rfl dX10_ring_76
def BX10_ring_52 : KT (Int32 × HP) :=
  oCal 1 (some 8) EX8_isOutSometime fZH (oIfeq (oAld 0 (oAld 0 (oGet 10 4 (oPick [] (BX10_ring_70))))) (oAld 0 (oConst (.int 6) (oCal 2 (some 10) EX10_refuse fIH (oIretH)))))
set_option maxRecDepth 20000 in
theorem sBX10_ring_52 : Snd XX10_ring fIH 52 (BX10_ring_52) (0) (0) := by
  unfold BX10_ring_52
  refine s_cal0 55 (run_V (X := XX10_ring) rfl clX8 yoX8_isOutSometime rfl tw_900 tw_901 tw_902 (by decide) dX10_ring_52) cmX8_isOutSometime (fun _ _ _ => rfl) rfl ?_
  refine s_ifeq 65 58 dX10_ring_55 (by decide) rfl ?_ ?_
  · refine s_Aldn 0 rfl 66 dX10_ring_65 rfl ?_
    refine s_Aldn 0 rfl 67 dX10_ring_66 rfl ?_
    refine s_get 10 4 70 clX10 (by decide) tw_353 dX10_ring_67 rfl ?_
    exact s_pick (sBX10_ring_70)
  · refine s_Aldn 0 rfl 59 dX10_ring_58 rfl ?_
    refine s_bipush 61 6 (by decide) dX10_ring_59 rfl ?_
    refine s_cal0 64 (run_V (X := XX10_ring) rfl clX10 yoX10_refuse rfl tw_415 tw_417 tw_p0 (by decide) dX10_ring_61) cmX10_refuse (fun _ _ _ => rfl) rfl ?_
    exact s_iretH rfl dX10_ring_64
def BX10_ring_45 : KT (Int32 × HP) :=
  oCal 5 (some 8) EX8_begin fVH (oAld 0 (oGet 10 4 (oPick [0] (BX10_ring_52))))
set_option maxRecDepth 20000 in
theorem sBX10_ring_45 : Snd XX10_ring fIH 45 (BX10_ring_45) (0) (0) := by
  unfold BX10_ring_45
  refine s_cal0 48 (run_V (X := XX10_ring) rfl clX8 yoX8_begin rfl tw_899 tw_826 tw_827 (by decide) dX10_ring_45) cmX8_begin (fun _ _ _ => rfl) rfl ?_
  refine s_Aldn 0 rfl 49 dX10_ring_48 rfl ?_
  refine s_get 10 4 52 clX10 (by decide) tw_353 dX10_ring_49 rfl ?_
  exact s_pick (sBX10_ring_52)
def BX10_ring_16 : KT (Int32 × HP) :=
  oCal 2 (some 10) EX10_goesByLot fZ (oIfeq (oAld 0 (oGet 10 4 (oAld 0 (oGet 10 7 (oIld 1 (oAld 0 (oGet 10 10 (oAld 0 (oGet 10 11 (oPick [0] (BX10_ring_45))))))))))) (oAld 0 (oConst (.int 5) (oCal 2 (some 10) EX10_refuse fIH (oIretH)))))
set_option maxRecDepth 20000 in
theorem sBX10_ring_16 : Snd XX10_ring fIH 16 (BX10_ring_16) (0) (0) := by
  unfold BX10_ring_16
  refine s_cal0 19 (run_V (X := XX10_ring) rfl clX10 yoX10_goesByLot rfl tw_894 tw_896 tw_p33 (by decide) dX10_ring_16) cmX10_goesByLot (fun _ _ _ => rfl) rfl ?_
  refine s_ifeq 28 22 dX10_ring_19 (by decide) rfl ?_ ?_
  · refine s_Aldn 0 rfl 29 dX10_ring_28 rfl ?_
    refine s_get 10 4 32 clX10 (by decide) tw_353 dX10_ring_29 rfl ?_
    refine s_Aldn 0 rfl 33 dX10_ring_32 rfl ?_
    refine s_get 10 7 36 clX10 (by decide) tw_356 dX10_ring_33 rfl ?_
    refine s_Ildn 1 rfl 37 dX10_ring_36 rfl ?_
    refine s_Aldn 0 rfl 38 dX10_ring_37 rfl ?_
    refine s_get 10 10 41 clX10 (by decide) tw_359 dX10_ring_38 rfl ?_
    refine s_Aldn 0 rfl 42 dX10_ring_41 rfl ?_
    refine s_get 10 11 45 clX10 (by decide) tw_360 dX10_ring_42 rfl ?_
    exact s_pick (sBX10_ring_45)
  · refine s_Aldn 0 rfl 23 dX10_ring_22 rfl ?_
    refine s_iconst 24 5 (by decide) dX10_ring_23 rfl ?_
    refine s_cal0 27 (run_V (X := XX10_ring) rfl clX10 yoX10_refuse rfl tw_415 tw_417 tw_p0 (by decide) dX10_ring_24) cmX10_refuse (fun _ _ _ => rfl) rfl ?_
    exact s_iretH rfl dX10_ring_27
def BX10_ring_2 : KT (Int32 × HP) :=
  oCal 2 (some 10) EX10_isWalker fZ (oIfne (oAld 0 (oIld 1 (oPick [0, 1] (BX10_ring_16)))) (oAld 0 (oConst (.int 1) (oCal 2 (some 10) EX10_refuse fIH (oIretH)))))
set_option maxRecDepth 20000 in
theorem sBX10_ring_2 : Snd XX10_ring fIH 2 (BX10_ring_2) (0) (0) := by
  unfold BX10_ring_2
  refine s_cal0 5 (run_V (X := XX10_ring) rfl clX10 yoX10_isWalker rfl tw_813 tw_815 tw_p23 (by decide) dX10_ring_2) cmX10_isWalker (fun _ _ _ => rfl) rfl ?_
  refine s_ifne 14 8 dX10_ring_5 (by decide) rfl ?_ ?_
  · refine s_Aldn 0 rfl 15 dX10_ring_14 rfl ?_
    refine s_Ildn 1 rfl 16 dX10_ring_15 rfl ?_
    exact s_pick (sBX10_ring_16)
  · refine s_Aldn 0 rfl 9 dX10_ring_8 rfl ?_
    refine s_iconst 10 1 (by decide) dX10_ring_9 rfl ?_
    refine s_cal0 13 (run_V (X := XX10_ring) rfl clX10 yoX10_refuse rfl tw_415 tw_417 tw_p0 (by decide) dX10_ring_10) cmX10_refuse (fun _ _ _ => rfl) rfl ?_
    exact s_iretH rfl dX10_ring_13
def BX10_ring_0 : KT (Int32 × HP) :=
  oAld 0 (oIld 1 (oPick [0, 1] (BX10_ring_2)))
set_option maxRecDepth 20000 in
theorem sBX10_ring_0 : Snd XX10_ring fIH 0 (BX10_ring_0) (0) (0) := by
  unfold BX10_ring_0
  refine s_Aldn 0 rfl 1 dX10_ring_0 rfl ?_
  refine s_Ildn 1 rfl 2 dX10_ring_1 rfl ?_
  exact s_pick (sBX10_ring_2)
def EX10_ring : List Value → HP → Option (Int32 × HP) := en 2 BX10_ring_0
theorem cmX10_ring : CM XX10_ring EX10_ring fIH 0 0 := CM.of rfl (by decide) rfl rfl sBX10_ring_0
theorem yoX10_ring : YO XX10_ring 1 0 0 := ⟨tw_907, rfl, tw_1, (by decide +kernel), rfl, rfl⟩
abbrev XX10_meets : MX := (yX10_meets, cX10_meets, 5, (Option.some .int), Cond.code yX10_meets cX10_meets 5 (Option.some .int) :: WS, { frames := 5, cells := 0, slots := 0, locals := 119 })
def BX10_meets_102 (k69 : KT (Int32 × HP)) : KT (Int32 × HP) :=
  oCal 2 (some 8) EX8_cellIn fI (oCmpne (oInc 3 1 (oPick [0, 3] k69)) (oAld 0 (oIld 3 (oCal 2 (some 10) EX10_answer fIH (oIretH)))))
set_option maxRecDepth 20000 in
theorem sBX10_meets_102 {k69 : KT (Int32 × HP)} (hk69 : Snd XX10_meets fIH 69 k69 0 0) : Snd XX10_meets fIH 102 (BX10_meets_102 k69) (0) (0) := by
  unfold BX10_meets_102
  refine s_cal0 105 (run_V (X := XX10_meets) rfl clX8 yoX8_cellIn rfl tw_878 tw_879 tw_880 (by decide) dX10_meets_102) cmX8_cellIn (fun _ _ _ => rfl) rfl ?_
  refine s_cmpne 114 108 dX10_meets_105 (by decide) rfl ?_ ?_
  · refine s_inc 3 1 117 (by decide) (by decide) dX10_meets_114 rfl ?_
    refine s_goto 69 dX10_meets_117 (by decide) ?_
    exact s_pick hk69
  · refine s_Aldn 0 rfl 109 dX10_meets_108 rfl ?_
    refine s_Ildn 3 rfl 110 dX10_meets_109 rfl ?_
    refine s_cal0 113 (run_V (X := XX10_meets) rfl clX10 yoX10_answer rfl tw_702 tw_704 tw_p18 (by decide) dX10_meets_110) cmX10_answer (fun _ _ _ => rfl) rfl ?_
    exact s_iretH rfl dX10_meets_113
def BX10_meets_85 (k69 : KT (Int32 × HP)) : KT (Int32 × HP) :=
  oCal 2 (some 8) EX8_cellIn fI (oIst 4 (oIld 4 (oIflt (oInc 3 1 (oPick [0, 3] k69)) (oIld 4 (oAld 0 (oGet 10 5 (oIld 3 (oPick [0, 3] (BX10_meets_102 k69)))))))))
set_option maxRecDepth 20000 in
theorem sBX10_meets_85 {k69 : KT (Int32 × HP)} (hk69 : Snd XX10_meets fIH 69 k69 0 0) : Snd XX10_meets fIH 85 (BX10_meets_85 k69) (0) (0) := by
  unfold BX10_meets_85
  refine s_cal0 88 (run_V (X := XX10_meets) rfl clX8 yoX8_cellIn rfl tw_878 tw_879 tw_880 (by decide) dX10_meets_85) cmX8_cellIn (fun _ _ _ => rfl) rfl ?_
  refine s_Ist 4 90 (by decide) dX10_meets_88 rfl ?_
  refine s_Ild 4 92 dX10_meets_90 rfl ?_
  refine s_iflt 114 95 dX10_meets_92 (by decide) rfl ?_ ?_
  · refine s_inc 3 1 117 (by decide) (by decide) dX10_meets_114 rfl ?_
    refine s_goto 69 dX10_meets_117 (by decide) ?_
    exact s_pick hk69
  · refine s_Ild 4 97 dX10_meets_95 rfl ?_
    refine s_Aldn 0 rfl 98 dX10_meets_97 rfl ?_
    refine s_get 10 5 101 clX10 (by decide) tw_354 dX10_meets_98 rfl ?_
    refine s_Ildn 3 rfl 102 dX10_meets_101 rfl ?_
    exact s_pick (sBX10_meets_102 hk69)
def BX10_meets_69 (k69 : KT (Int32 × HP)) : KT (Int32 × HP) :=
  oIld 3 (oAld 0 (oGet 10 7 (oGet 3 8 (oCmpgt (oAld 0 (oConst (.int (-2)) (oCal 2 (some 10) EX10_answer fIH (oIretH)))) (oAld 0 (oGet 10 4 (oIld 3 (oPick [0, 3] (BX10_meets_85 k69)))))))))
set_option maxRecDepth 20000 in
theorem sBX10_meets_69 {k69 : KT (Int32 × HP)} (hk69 : Snd XX10_meets fIH 69 k69 0 0) : Snd XX10_meets fIH 69 (BX10_meets_69 k69) (0) (0) := by
  unfold BX10_meets_69
  refine s_Ildn 3 rfl 70 dX10_meets_69 rfl ?_
  refine s_Aldn 0 rfl 71 dX10_meets_70 rfl ?_
  refine s_get 10 7 74 clX10 (by decide) tw_356 dX10_meets_71 rfl ?_
  refine s_getN 3 8 77 clX3 (by decide) nw_31 dX10_meets_74 rfl ?_
  refine s_cmpgt 120 80 dX10_meets_77 (by decide) rfl ?_ ?_
  · refine s_Aldn 0 rfl 121 dX10_meets_120 rfl ?_
    refine s_bipush 123 (-2) (by decide) dX10_meets_121 rfl ?_
    refine s_cal0 126 (run_V (X := XX10_meets) rfl clX10 yoX10_answer rfl tw_702 tw_704 tw_p18 (by decide) dX10_meets_123) cmX10_answer (fun _ _ _ => rfl) rfl ?_
    exact s_iretH rfl dX10_meets_126
  · refine s_Aldn 0 rfl 81 dX10_meets_80 rfl ?_
    refine s_get 10 4 84 clX10 (by decide) tw_353 dX10_meets_81 rfl ?_
    refine s_Ildn 3 rfl 85 dX10_meets_84 rfl ?_
    exact s_pick (sBX10_meets_85 hk69)
def BX10_meets_64 : KT (Int32 × HP) :=
  oCal 5 (some 8) EX8_goTillDusk fVH (oConst (.int 0) (oIst 3 (oPick [0, 3] (lp (BX10_meets_69) FU))))
set_option maxRecDepth 20000 in
theorem sBX10_meets_64 : Snd XX10_meets fIH 64 (BX10_meets_64) (0) (0) := by
  unfold BX10_meets_64
  refine s_cal0 67 (run_V (X := XX10_meets) rfl clX8 yoX8_goTillDusk rfl tw_821 tw_822 tw_823 (by decide) dX10_meets_64) cmX8_goTillDusk (fun _ _ _ => rfl) rfl ?_
  refine s_iconst 68 0 (by decide) dX10_meets_67 rfl ?_
  refine s_Istn 3 rfl 69 (by decide) dX10_meets_68 rfl ?_
  exact s_pick (s_lp (fun k hk => sBX10_meets_69  hk) FU)
def BX10_meets_44 : KT (Int32 × HP) :=
  oCal 5 (some 8) EX8_goTillDusk fVH (oAld 0 (oGet 10 5 (oAld 0 (oGet 10 7 (oIld 2 (oAld 0 (oGet 10 10 (oAld 0 (oGet 10 11 (oPick [0] (BX10_meets_64)))))))))))
set_option maxRecDepth 20000 in
theorem sBX10_meets_44 : Snd XX10_meets fIH 44 (BX10_meets_44) (0) (0) := by
  unfold BX10_meets_44
  refine s_cal0 47 (run_V (X := XX10_meets) rfl clX8 yoX8_goTillDusk rfl tw_821 tw_822 tw_823 (by decide) dX10_meets_44) cmX8_goTillDusk (fun _ _ _ => rfl) rfl ?_
  refine s_Aldn 0 rfl 48 dX10_meets_47 rfl ?_
  refine s_get 10 5 51 clX10 (by decide) tw_354 dX10_meets_48 rfl ?_
  refine s_Aldn 0 rfl 52 dX10_meets_51 rfl ?_
  refine s_get 10 7 55 clX10 (by decide) tw_356 dX10_meets_52 rfl ?_
  refine s_Ildn 2 rfl 56 dX10_meets_55 rfl ?_
  refine s_Aldn 0 rfl 57 dX10_meets_56 rfl ?_
  refine s_get 10 10 60 clX10 (by decide) tw_359 dX10_meets_57 rfl ?_
  refine s_Aldn 0 rfl 61 dX10_meets_60 rfl ?_
  refine s_get 10 11 64 clX10 (by decide) tw_360 dX10_meets_61 rfl ?_
  exact s_pick (sBX10_meets_64)
def BX10_meets_10 : KT (Int32 × HP) :=
  oCal 2 (some 10) EX10_isWalker fZ (oIfeq (oAld 0 (oConst (.int 1) (oCal 2 (some 10) EX10_refuse fIH (oIretH)))) (oIld 1 (oIld 2 (oCmpne (oAld 0 (oGet 10 4 (oAld 0 (oGet 10 7 (oIld 1 (oAld 0 (oGet 10 10 (oAld 0 (oGet 10 11 (oPick [0, 2] (BX10_meets_44))))))))))) (oAld 0 (oConst (.int 1) (oCal 2 (some 10) EX10_refuse fIH (oIretH))))))))
set_option maxRecDepth 20000 in
theorem sBX10_meets_10 : Snd XX10_meets fIH 10 (BX10_meets_10) (0) (0) := by
  unfold BX10_meets_10
  refine s_cal0 13 (run_V (X := XX10_meets) rfl clX10 yoX10_isWalker rfl tw_813 tw_815 tw_p23 (by decide) dX10_meets_10) cmX10_isWalker (fun _ _ _ => rfl) rfl ?_
  refine s_ifeq 21 16 dX10_meets_13 (by decide) rfl ?_ ?_
  · refine s_Aldn 0 rfl 22 dX10_meets_21 rfl ?_
    refine s_iconst 23 1 (by decide) dX10_meets_22 rfl ?_
    refine s_cal0 26 (run_V (X := XX10_meets) rfl clX10 yoX10_refuse rfl tw_415 tw_417 tw_p0 (by decide) dX10_meets_23) cmX10_refuse (fun _ _ _ => rfl) rfl ?_
    exact s_iretH rfl dX10_meets_26
  · refine s_Ildn 1 rfl 17 dX10_meets_16 rfl ?_
    refine s_Ildn 2 rfl 18 dX10_meets_17 rfl ?_
    refine s_cmpne 27 21 dX10_meets_18 (by decide) rfl ?_ ?_
    · refine s_Aldn 0 rfl 28 dX10_meets_27 rfl ?_
      refine s_get 10 4 31 clX10 (by decide) tw_353 dX10_meets_28 rfl ?_
      refine s_Aldn 0 rfl 32 dX10_meets_31 rfl ?_
      refine s_get 10 7 35 clX10 (by decide) tw_356 dX10_meets_32 rfl ?_
      refine s_Ildn 1 rfl 36 dX10_meets_35 rfl ?_
      refine s_Aldn 0 rfl 37 dX10_meets_36 rfl ?_
      refine s_get 10 10 40 clX10 (by decide) tw_359 dX10_meets_37 rfl ?_
      refine s_Aldn 0 rfl 41 dX10_meets_40 rfl ?_
      refine s_get 10 11 44 clX10 (by decide) tw_360 dX10_meets_41 rfl ?_
      exact s_pick (sBX10_meets_44)
    · refine s_Aldn 0 rfl 22 dX10_meets_21 rfl ?_
      refine s_iconst 23 1 (by decide) dX10_meets_22 rfl ?_
      refine s_cal0 26 (run_V (X := XX10_meets) rfl clX10 yoX10_refuse rfl tw_415 tw_417 tw_p0 (by decide) dX10_meets_23) cmX10_refuse (fun _ _ _ => rfl) rfl ?_
      exact s_iretH rfl dX10_meets_26
def BX10_meets_2 : KT (Int32 × HP) :=
  oCal 2 (some 10) EX10_isWalker fZ (oIfeq (oAld 0 (oConst (.int 1) (oCal 2 (some 10) EX10_refuse fIH (oIretH)))) (oAld 0 (oIld 2 (oPick [0, 1, 2] (BX10_meets_10)))))
set_option maxRecDepth 20000 in
theorem sBX10_meets_2 : Snd XX10_meets fIH 2 (BX10_meets_2) (0) (0) := by
  unfold BX10_meets_2
  refine s_cal0 5 (run_V (X := XX10_meets) rfl clX10 yoX10_isWalker rfl tw_813 tw_815 tw_p23 (by decide) dX10_meets_2) cmX10_isWalker (fun _ _ _ => rfl) rfl ?_
  refine s_ifeq 21 8 dX10_meets_5 (by decide) rfl ?_ ?_
  · refine s_Aldn 0 rfl 22 dX10_meets_21 rfl ?_
    refine s_iconst 23 1 (by decide) dX10_meets_22 rfl ?_
    refine s_cal0 26 (run_V (X := XX10_meets) rfl clX10 yoX10_refuse rfl tw_415 tw_417 tw_p0 (by decide) dX10_meets_23) cmX10_refuse (fun _ _ _ => rfl) rfl ?_
    exact s_iretH rfl dX10_meets_26
  · refine s_Aldn 0 rfl 9 dX10_meets_8 rfl ?_
    refine s_Ildn 2 rfl 10 dX10_meets_9 rfl ?_
    exact s_pick (sBX10_meets_10)
def BX10_meets_0 : KT (Int32 × HP) :=
  oAld 0 (oIld 1 (oPick [0, 1, 2] (BX10_meets_2)))
set_option maxRecDepth 20000 in
theorem sBX10_meets_0 : Snd XX10_meets fIH 0 (BX10_meets_0) (0) (0) := by
  unfold BX10_meets_0
  refine s_Aldn 0 rfl 1 dX10_meets_0 rfl ?_
  refine s_Ildn 1 rfl 2 dX10_meets_1 rfl ?_
  exact s_pick (sBX10_meets_2)
def EX10_meets : List Value → HP → Option (Int32 × HP) := en 5 BX10_meets_0
theorem cmX10_meets : CM XX10_meets EX10_meets fIH 0 0 := CM.of rfl (by decide) rfl rfl sBX10_meets_0
theorem yoX10_meets : YO XX10_meets 2 0 0 := ⟨tw_915, rfl, tw_1, (by decide +kernel), rfl, rfl⟩
abbrev XX10_shouts : MX := (yX10_shouts, cX10_shouts, 2, (Option.some .int), Cond.code yX10_shouts cX10_shouts 2 (Option.some .int) :: WS, { frames := 5, cells := 0, slots := 0, locals := 119 })
def BX10_shouts_39 : KT (Int32 × HP) :=
  oCal 1 (some 8) EX8_countShouts fI (oCal 2 (some 10) EX10_answer fIH (oIretH))
set_option maxRecDepth 20000 in
theorem sBX10_shouts_39 : Snd XX10_shouts fIH 39 (BX10_shouts_39) (0) (0) := by
  unfold BX10_shouts_39
  refine s_cal0 42 (run_V (X := XX10_shouts) rfl clX8 yoX8_countShouts rfl tw_920 tw_921 tw_922 (by decide) dX10_shouts_39) cmX8_countShouts (fun _ _ _ => rfl) rfl ?_
  refine s_cal0 45 (run_V (X := XX10_shouts) rfl clX10 yoX10_answer rfl tw_702 tw_704 tw_p18 (by decide) dX10_shouts_42) cmX10_answer (fun _ _ _ => rfl) rfl ?_
  exact s_iretH rfl dX10_shouts_45
def BX10_shouts_31 : KT (Int32 × HP) :=
  oCal 5 (some 8) EX8_goTillDusk fVH (oAld 0 (oAld 0 (oGet 10 4 (oPick [] (BX10_shouts_39)))))
set_option maxRecDepth 20000 in
theorem sBX10_shouts_31 : Snd XX10_shouts fIH 31 (BX10_shouts_31) (0) (0) := by
  unfold BX10_shouts_31
  refine s_cal0 34 (run_V (X := XX10_shouts) rfl clX8 yoX8_goTillDusk rfl tw_821 tw_822 tw_823 (by decide) dX10_shouts_31) cmX8_goTillDusk (fun _ _ _ => rfl) rfl ?_
  refine s_Aldn 0 rfl 35 dX10_shouts_34 rfl ?_
  refine s_Aldn 0 rfl 36 dX10_shouts_35 rfl ?_
  refine s_get 10 4 39 clX10 (by decide) tw_353 dX10_shouts_36 rfl ?_
  exact s_pick (sBX10_shouts_39)
def BX10_shouts_2 : KT (Int32 × HP) :=
  oCal 2 (some 10) EX10_isWalker fZ (oIfne (oAld 0 (oGet 10 4 (oAld 0 (oGet 10 7 (oIld 1 (oAld 0 (oGet 10 10 (oAld 0 (oGet 10 11 (oPick [0] (BX10_shouts_31))))))))))) (oAld 0 (oConst (.int 1) (oCal 2 (some 10) EX10_refuse fIH (oIretH)))))
set_option maxRecDepth 20000 in
theorem sBX10_shouts_2 : Snd XX10_shouts fIH 2 (BX10_shouts_2) (0) (0) := by
  unfold BX10_shouts_2
  refine s_cal0 5 (run_V (X := XX10_shouts) rfl clX10 yoX10_isWalker rfl tw_813 tw_815 tw_p23 (by decide) dX10_shouts_2) cmX10_isWalker (fun _ _ _ => rfl) rfl ?_
  refine s_ifne 14 8 dX10_shouts_5 (by decide) rfl ?_ ?_
  · refine s_Aldn 0 rfl 15 dX10_shouts_14 rfl ?_
    refine s_get 10 4 18 clX10 (by decide) tw_353 dX10_shouts_15 rfl ?_
    refine s_Aldn 0 rfl 19 dX10_shouts_18 rfl ?_
    refine s_get 10 7 22 clX10 (by decide) tw_356 dX10_shouts_19 rfl ?_
    refine s_Ildn 1 rfl 23 dX10_shouts_22 rfl ?_
    refine s_Aldn 0 rfl 24 dX10_shouts_23 rfl ?_
    refine s_get 10 10 27 clX10 (by decide) tw_359 dX10_shouts_24 rfl ?_
    refine s_Aldn 0 rfl 28 dX10_shouts_27 rfl ?_
    refine s_get 10 11 31 clX10 (by decide) tw_360 dX10_shouts_28 rfl ?_
    exact s_pick (sBX10_shouts_31)
  · refine s_Aldn 0 rfl 9 dX10_shouts_8 rfl ?_
    refine s_iconst 10 1 (by decide) dX10_shouts_9 rfl ?_
    refine s_cal0 13 (run_V (X := XX10_shouts) rfl clX10 yoX10_refuse rfl tw_415 tw_417 tw_p0 (by decide) dX10_shouts_10) cmX10_refuse (fun _ _ _ => rfl) rfl ?_
    exact s_iretH rfl dX10_shouts_13
def BX10_shouts_0 : KT (Int32 × HP) :=
  oAld 0 (oIld 1 (oPick [0, 1] (BX10_shouts_2)))
set_option maxRecDepth 20000 in
theorem sBX10_shouts_0 : Snd XX10_shouts fIH 0 (BX10_shouts_0) (0) (0) := by
  unfold BX10_shouts_0
  refine s_Aldn 0 rfl 1 dX10_shouts_0 rfl ?_
  refine s_Ildn 1 rfl 2 dX10_shouts_1 rfl ?_
  exact s_pick (sBX10_shouts_2)
def EX10_shouts : List Value → HP → Option (Int32 × HP) := en 2 BX10_shouts_0
theorem cmX10_shouts : CM XX10_shouts EX10_shouts fIH 0 0 := CM.of rfl (by decide) rfl rfl sBX10_shouts_0
theorem yoX10_shouts : YO XX10_shouts 1 0 0 := ⟨tw_919, rfl, tw_1, (by decide +kernel), rfl, rfl⟩
abbrev XX10_visits : MX := (yX10_visits, cX10_visits, 2, (Option.some .int), Cond.code yX10_visits cX10_visits 2 (Option.some .int) :: WS, { frames := 5, cells := 0, slots := 0, locals := 119 })
def BX10_visits_39 : KT (Int32 × HP) :=
  oCal 1 (some 8) EX8_countCells fI (oCal 2 (some 10) EX10_answer fIH (oIretH))
set_option maxRecDepth 20000 in
theorem sBX10_visits_39 : Snd XX10_visits fIH 39 (BX10_visits_39) (0) (0) := by
  unfold BX10_visits_39
  refine s_cal0 42 (run_V (X := XX10_visits) rfl clX8 yoX8_countCells rfl tw_929 tw_930 tw_931 (by decide) dX10_visits_39) cmX8_countCells (fun _ _ _ => rfl) rfl ?_
  refine s_cal0 45 (run_V (X := XX10_visits) rfl clX10 yoX10_answer rfl tw_702 tw_704 tw_p18 (by decide) dX10_visits_42) cmX10_answer (fun _ _ _ => rfl) rfl ?_
  exact s_iretH rfl dX10_visits_45
def BX10_visits_31 : KT (Int32 × HP) :=
  oCal 5 (some 8) EX8_goTillDusk fVH (oAld 0 (oAld 0 (oGet 10 4 (oPick [] (BX10_visits_39)))))
set_option maxRecDepth 20000 in
theorem sBX10_visits_31 : Snd XX10_visits fIH 31 (BX10_visits_31) (0) (0) := by
  unfold BX10_visits_31
  refine s_cal0 34 (run_V (X := XX10_visits) rfl clX8 yoX8_goTillDusk rfl tw_821 tw_822 tw_823 (by decide) dX10_visits_31) cmX8_goTillDusk (fun _ _ _ => rfl) rfl ?_
  refine s_Aldn 0 rfl 35 dX10_visits_34 rfl ?_
  refine s_Aldn 0 rfl 36 dX10_visits_35 rfl ?_
  refine s_get 10 4 39 clX10 (by decide) tw_353 dX10_visits_36 rfl ?_
  exact s_pick (sBX10_visits_39)
def BX10_visits_2 : KT (Int32 × HP) :=
  oCal 2 (some 10) EX10_isWalker fZ (oIfne (oAld 0 (oGet 10 4 (oAld 0 (oGet 10 7 (oIld 1 (oAld 0 (oGet 10 10 (oAld 0 (oGet 10 11 (oPick [0] (BX10_visits_31))))))))))) (oAld 0 (oConst (.int 1) (oCal 2 (some 10) EX10_refuse fIH (oIretH)))))
set_option maxRecDepth 20000 in
theorem sBX10_visits_2 : Snd XX10_visits fIH 2 (BX10_visits_2) (0) (0) := by
  unfold BX10_visits_2
  refine s_cal0 5 (run_V (X := XX10_visits) rfl clX10 yoX10_isWalker rfl tw_813 tw_815 tw_p23 (by decide) dX10_visits_2) cmX10_isWalker (fun _ _ _ => rfl) rfl ?_
  refine s_ifne 14 8 dX10_visits_5 (by decide) rfl ?_ ?_
  · refine s_Aldn 0 rfl 15 dX10_visits_14 rfl ?_
    refine s_get 10 4 18 clX10 (by decide) tw_353 dX10_visits_15 rfl ?_
    refine s_Aldn 0 rfl 19 dX10_visits_18 rfl ?_
    refine s_get 10 7 22 clX10 (by decide) tw_356 dX10_visits_19 rfl ?_
    refine s_Ildn 1 rfl 23 dX10_visits_22 rfl ?_
    refine s_Aldn 0 rfl 24 dX10_visits_23 rfl ?_
    refine s_get 10 10 27 clX10 (by decide) tw_359 dX10_visits_24 rfl ?_
    refine s_Aldn 0 rfl 28 dX10_visits_27 rfl ?_
    refine s_get 10 11 31 clX10 (by decide) tw_360 dX10_visits_28 rfl ?_
    exact s_pick (sBX10_visits_31)
  · refine s_Aldn 0 rfl 9 dX10_visits_8 rfl ?_
    refine s_iconst 10 1 (by decide) dX10_visits_9 rfl ?_
    refine s_cal0 13 (run_V (X := XX10_visits) rfl clX10 yoX10_refuse rfl tw_415 tw_417 tw_p0 (by decide) dX10_visits_10) cmX10_refuse (fun _ _ _ => rfl) rfl ?_
    exact s_iretH rfl dX10_visits_13
def BX10_visits_0 : KT (Int32 × HP) :=
  oAld 0 (oIld 1 (oPick [0, 1] (BX10_visits_2)))
set_option maxRecDepth 20000 in
theorem sBX10_visits_0 : Snd XX10_visits fIH 0 (BX10_visits_0) (0) (0) := by
  unfold BX10_visits_0
  refine s_Aldn 0 rfl 1 dX10_visits_0 rfl ?_
  refine s_Ildn 1 rfl 2 dX10_visits_1 rfl ?_
  exact s_pick (sBX10_visits_2)
def EX10_visits : List Value → HP → Option (Int32 × HP) := en 2 BX10_visits_0
theorem cmX10_visits : CM XX10_visits EX10_visits fIH 0 0 := CM.of rfl (by decide) rfl rfl sBX10_visits_0
theorem yoX10_visits : YO XX10_visits 1 0 0 := ⟨tw_928, rfl, tw_1, (by decide +kernel), rfl, rfl⟩
abbrev XX10_crowd : MX := (yX10_crowd, cX10_crowd, 4, (Option.some .int), Cond.code yX10_crowd cX10_crowd 4 (Option.some .int) :: WS, { frames := 5, cells := 0, slots := 0, locals := 119 })
def BX10_crowd_67 (k31 : KT (Int32 × HP)) : KT (Int32 × HP) :=
  oCal 2 (some 8) EX8_cellIn fI (oIflt (oInc 3 1 (oPick [0, 1, 2, 3] k31)) (oInc 2 1 (oInc 3 1 (oPick [0, 1, 2, 3] k31))))
set_option maxRecDepth 20000 in
theorem sBX10_crowd_67 {k31 : KT (Int32 × HP)} (hk31 : Snd XX10_crowd fIH 31 k31 0 0) : Snd XX10_crowd fIH 67 (BX10_crowd_67 k31) (0) (0) := by
  unfold BX10_crowd_67
  refine s_cal0 70 (run_V (X := XX10_crowd) rfl clX8 yoX8_cellIn rfl tw_878 tw_879 tw_880 (by decide) dX10_crowd_67) cmX8_cellIn (fun _ _ _ => rfl) rfl ?_
  refine s_iflt 76 73 dX10_crowd_70 (by decide) rfl ?_ ?_
  · refine s_inc 3 1 79 (by decide) (by decide) dX10_crowd_76 rfl ?_
    refine s_goto 31 dX10_crowd_79 (by decide) ?_
    exact s_pick hk31
  · refine s_inc 2 1 76 (by decide) (by decide) dX10_crowd_73 rfl ?_
    refine s_inc 3 1 79 (by decide) (by decide) dX10_crowd_76 rfl ?_
    refine s_goto 31 dX10_crowd_79 (by decide) ?_
    exact s_pick hk31
def BX10_crowd_59 (k31 : KT (Int32 × HP)) : KT (Int32 × HP) :=
  oCal 5 (some 8) EX8_goTillDusk fVH (oAld 0 (oGet 10 4 (oIld 1 (oPick [0, 1, 2, 3] (BX10_crowd_67 k31)))))
set_option maxRecDepth 20000 in
theorem sBX10_crowd_59 {k31 : KT (Int32 × HP)} (hk31 : Snd XX10_crowd fIH 31 k31 0 0) : Snd XX10_crowd fIH 59 (BX10_crowd_59 k31) (0) (0) := by
  unfold BX10_crowd_59
  refine s_cal0 62 (run_V (X := XX10_crowd) rfl clX8 yoX8_goTillDusk rfl tw_821 tw_822 tw_823 (by decide) dX10_crowd_59) cmX8_goTillDusk (fun _ _ _ => rfl) rfl ?_
  refine s_Aldn 0 rfl 63 dX10_crowd_62 rfl ?_
  refine s_get 10 4 66 clX10 (by decide) tw_353 dX10_crowd_63 rfl ?_
  refine s_Ildn 1 rfl 67 dX10_crowd_66 rfl ?_
  exact s_pick (sBX10_crowd_67 hk31)
def BX10_crowd_31 (k31 : KT (Int32 × HP)) : KT (Int32 × HP) :=
  oIld 3 (oAld 0 (oGet 10 7 (oGet 3 15 (oCmpge (oAld 0 (oIld 2 (oCal 2 (some 10) EX10_answer fIH (oIretH)))) (oAld 0 (oGet 10 4 (oAld 0 (oGet 10 7 (oIld 3 (oAld 0 (oGet 10 10 (oAld 0 (oGet 10 11 (oPick [0, 1, 2, 3] (BX10_crowd_59 k31)))))))))))))))
set_option maxRecDepth 20000 in
theorem sBX10_crowd_31 {k31 : KT (Int32 × HP)} (hk31 : Snd XX10_crowd fIH 31 k31 0 0) : Snd XX10_crowd fIH 31 (BX10_crowd_31 k31) (0) (0) := by
  unfold BX10_crowd_31
  refine s_Ildn 3 rfl 32 dX10_crowd_31 rfl ?_
  refine s_Aldn 0 rfl 33 dX10_crowd_32 rfl ?_
  refine s_get 10 7 36 clX10 (by decide) tw_356 dX10_crowd_33 rfl ?_
  refine s_getN 3 15 39 clX3 (by decide) nw_41 dX10_crowd_36 rfl ?_
  refine s_cmpge 82 42 dX10_crowd_39 (by decide) rfl ?_ ?_
  · refine s_Aldn 0 rfl 83 dX10_crowd_82 rfl ?_
    refine s_Ildn 2 rfl 84 dX10_crowd_83 rfl ?_
    refine s_cal0 87 (run_V (X := XX10_crowd) rfl clX10 yoX10_answer rfl tw_702 tw_704 tw_p18 (by decide) dX10_crowd_84) cmX10_answer (fun _ _ _ => rfl) rfl ?_
    exact s_iretH rfl dX10_crowd_87
  · refine s_Aldn 0 rfl 43 dX10_crowd_42 rfl ?_
    refine s_get 10 4 46 clX10 (by decide) tw_353 dX10_crowd_43 rfl ?_
    refine s_Aldn 0 rfl 47 dX10_crowd_46 rfl ?_
    refine s_get 10 7 50 clX10 (by decide) tw_356 dX10_crowd_47 rfl ?_
    refine s_Ildn 3 rfl 51 dX10_crowd_50 rfl ?_
    refine s_Aldn 0 rfl 52 dX10_crowd_51 rfl ?_
    refine s_get 10 10 55 clX10 (by decide) tw_359 dX10_crowd_52 rfl ?_
    refine s_Aldn 0 rfl 56 dX10_crowd_55 rfl ?_
    refine s_get 10 11 59 clX10 (by decide) tw_360 dX10_crowd_56 rfl ?_
    exact s_pick (sBX10_crowd_59 hk31)
def BX10_crowd_15 : KT (Int32 × HP) :=
  oCal 2 (some 10) EX10_isMinute fZ (oIfne (oConst (.int 0) (oIst 2 (oConst (.int 0) (oIst 3 (oPick [0, 1, 2, 3] (lp (BX10_crowd_31) FU)))))) (oAld 0 (oConst (.int 2) (oCal 2 (some 10) EX10_refuse fIH (oIretH)))))
set_option maxRecDepth 20000 in
theorem sBX10_crowd_15 : Snd XX10_crowd fIH 15 (BX10_crowd_15) (0) (0) := by
  unfold BX10_crowd_15
  refine s_cal0 18 (run_V (X := XX10_crowd) rfl clX10 yoX10_isMinute rfl tw_817 tw_819 tw_p24 (by decide) dX10_crowd_15) cmX10_isMinute (fun _ _ _ => rfl) rfl ?_
  refine s_ifne 27 21 dX10_crowd_18 (by decide) rfl ?_ ?_
  · refine s_iconst 28 0 (by decide) dX10_crowd_27 rfl ?_
    refine s_Istn 2 rfl 29 (by decide) dX10_crowd_28 rfl ?_
    refine s_iconst 30 0 (by decide) dX10_crowd_29 rfl ?_
    refine s_Istn 3 rfl 31 (by decide) dX10_crowd_30 rfl ?_
    exact s_pick (s_lp (fun k hk => sBX10_crowd_31  hk) FU)
  · refine s_Aldn 0 rfl 22 dX10_crowd_21 rfl ?_
    refine s_iconst 23 2 (by decide) dX10_crowd_22 rfl ?_
    refine s_cal0 26 (run_V (X := XX10_crowd) rfl clX10 yoX10_refuse rfl tw_415 tw_417 tw_p0 (by decide) dX10_crowd_23) cmX10_refuse (fun _ _ _ => rfl) rfl ?_
    exact s_iretH rfl dX10_crowd_26
def BX10_crowd_0 : KT (Int32 × HP) :=
  oAld 0 (oGet 10 9 (oIfne (oAld 0 (oIld 1 (oPick [0, 1] (BX10_crowd_15)))) (oAld 0 (oConst (.int 1) (oCal 2 (some 10) EX10_refuse fIH (oIretH))))))
set_option maxRecDepth 20000 in
theorem sBX10_crowd_0 : Snd XX10_crowd fIH 0 (BX10_crowd_0) (0) (0) := by
  unfold BX10_crowd_0
  refine s_Aldn 0 rfl 1 dX10_crowd_0 rfl ?_
  refine s_get 10 9 4 clX10 (by decide) tw_358 dX10_crowd_1 rfl ?_
  refine s_ifne 13 7 dX10_crowd_4 (by decide) rfl ?_ ?_
  · refine s_Aldn 0 rfl 14 dX10_crowd_13 rfl ?_
    refine s_Ildn 1 rfl 15 dX10_crowd_14 rfl ?_
    exact s_pick (sBX10_crowd_15)
  · refine s_Aldn 0 rfl 8 dX10_crowd_7 rfl ?_
    refine s_iconst 9 1 (by decide) dX10_crowd_8 rfl ?_
    refine s_cal0 12 (run_V (X := XX10_crowd) rfl clX10 yoX10_refuse rfl tw_415 tw_417 tw_p0 (by decide) dX10_crowd_9) cmX10_refuse (fun _ _ _ => rfl) rfl ?_
    exact s_iretH rfl dX10_crowd_12
def EX10_crowd : List Value → HP → Option (Int32 × HP) := en 4 BX10_crowd_0
theorem cmX10_crowd : CM XX10_crowd EX10_crowd fIH 0 0 := CM.of rfl (by decide) rfl rfl sBX10_crowd_0
theorem yoX10_crowd : YO XX10_crowd 1 0 0 := ⟨tw_937, rfl, tw_1, (by decide +kernel), rfl, rfl⟩
abbrev XX10_paid : MX := (yX10_paid, cX10_paid, 3, (Option.some .int), Cond.code yX10_paid cX10_paid 3 (Option.some .int) :: WS, { frames := 5, cells := 0, slots := 0, locals := 119 })
def BX10_paid_53 (k17 : KT (Int32 × HP)) : KT (Int32 × HP) :=
  oCal 1 (some 8) EX8_countShouts fI (oiadd (oIst 1 (oInc 2 1 (oPick [0, 1, 2] k17))))
set_option maxRecDepth 20000 in
theorem sBX10_paid_53 {k17 : KT (Int32 × HP)} (hk17 : Snd XX10_paid fIH 17 k17 0 0) : Snd XX10_paid fIH 53 (BX10_paid_53 k17) (0) (0) := by
  unfold BX10_paid_53
  refine s_cal0 56 (run_V (X := XX10_paid) rfl clX8 yoX8_countShouts rfl tw_920 tw_921 tw_922 (by decide) dX10_paid_53) cmX8_countShouts (fun _ _ _ => rfl) rfl ?_
  refine s_iadd 57 dX10_paid_56 rfl ?_
  refine s_Istn 1 rfl 58 (by decide) dX10_paid_57 rfl ?_
  refine s_inc 2 1 61 (by decide) (by decide) dX10_paid_58 rfl ?_
  refine s_goto 17 dX10_paid_61 (by decide) ?_
  exact s_pick hk17
def BX10_paid_45 (k17 : KT (Int32 × HP)) : KT (Int32 × HP) :=
  oCal 5 (some 8) EX8_goTillDusk fVH (oIld 1 (oAld 0 (oGet 10 4 (oPick [0, 2] (BX10_paid_53 k17)))))
set_option maxRecDepth 20000 in
theorem sBX10_paid_45 {k17 : KT (Int32 × HP)} (hk17 : Snd XX10_paid fIH 17 k17 0 0) : Snd XX10_paid fIH 45 (BX10_paid_45 k17) (0) (0) := by
  unfold BX10_paid_45
  refine s_cal0 48 (run_V (X := XX10_paid) rfl clX8 yoX8_goTillDusk rfl tw_821 tw_822 tw_823 (by decide) dX10_paid_45) cmX8_goTillDusk (fun _ _ _ => rfl) rfl ?_
  refine s_Ildn 1 rfl 49 dX10_paid_48 rfl ?_
  refine s_Aldn 0 rfl 50 dX10_paid_49 rfl ?_
  refine s_get 10 4 53 clX10 (by decide) tw_353 dX10_paid_50 rfl ?_
  exact s_pick (sBX10_paid_53 hk17)
def BX10_paid_17 (k17 : KT (Int32 × HP)) : KT (Int32 × HP) :=
  oIld 2 (oAld 0 (oGet 10 7 (oGet 3 15 (oCmpge (oAld 0 (oAld 0 (oGet 10 7 (oGet 3 9 (oIld 1 (oimul (oCal 2 (some 10) EX10_answer fIH (oIretH)))))))) (oAld 0 (oGet 10 4 (oAld 0 (oGet 10 7 (oIld 2 (oAld 0 (oGet 10 10 (oAld 0 (oGet 10 11 (oPick [0, 1, 2] (BX10_paid_45 k17)))))))))))))))
set_option maxRecDepth 20000 in
theorem sBX10_paid_17 {k17 : KT (Int32 × HP)} (hk17 : Snd XX10_paid fIH 17 k17 0 0) : Snd XX10_paid fIH 17 (BX10_paid_17 k17) (0) (0) := by
  unfold BX10_paid_17
  refine s_Ildn 2 rfl 18 dX10_paid_17 rfl ?_
  refine s_Aldn 0 rfl 19 dX10_paid_18 rfl ?_
  refine s_get 10 7 22 clX10 (by decide) tw_356 dX10_paid_19 rfl ?_
  refine s_getN 3 15 25 clX3 (by decide) nw_41 dX10_paid_22 rfl ?_
  refine s_cmpge 64 28 dX10_paid_25 (by decide) rfl ?_ ?_
  · refine s_Aldn 0 rfl 65 dX10_paid_64 rfl ?_
    refine s_Aldn 0 rfl 66 dX10_paid_65 rfl ?_
    refine s_get 10 7 69 clX10 (by decide) tw_356 dX10_paid_66 rfl ?_
    refine s_getN 3 9 72 clX3 (by decide) nw_32 dX10_paid_69 rfl ?_
    refine s_Ildn 1 rfl 73 dX10_paid_72 rfl ?_
    refine s_imul 74 dX10_paid_73 rfl ?_
    refine s_cal0 77 (run_V (X := XX10_paid) rfl clX10 yoX10_answer rfl tw_702 tw_704 tw_p18 (by decide) dX10_paid_74) cmX10_answer (fun _ _ _ => rfl) rfl ?_
    exact s_iretH rfl dX10_paid_77
  · refine s_Aldn 0 rfl 29 dX10_paid_28 rfl ?_
    refine s_get 10 4 32 clX10 (by decide) tw_353 dX10_paid_29 rfl ?_
    refine s_Aldn 0 rfl 33 dX10_paid_32 rfl ?_
    refine s_get 10 7 36 clX10 (by decide) tw_356 dX10_paid_33 rfl ?_
    refine s_Ildn 2 rfl 37 dX10_paid_36 rfl ?_
    refine s_Aldn 0 rfl 38 dX10_paid_37 rfl ?_
    refine s_get 10 10 41 clX10 (by decide) tw_359 dX10_paid_38 rfl ?_
    refine s_Aldn 0 rfl 42 dX10_paid_41 rfl ?_
    refine s_get 10 11 45 clX10 (by decide) tw_360 dX10_paid_42 rfl ?_
    exact s_pick (sBX10_paid_45 hk17)
def BX10_paid_0 : KT (Int32 × HP) :=
  oAld 0 (oGet 10 9 (oIfne (oConst (.int 0) (oIst 1 (oConst (.int 0) (oIst 2 (oPick [0, 1, 2] (lp (BX10_paid_17) FU)))))) (oAld 0 (oConst (.int 1) (oCal 2 (some 10) EX10_refuse fIH (oIretH))))))
set_option maxRecDepth 20000 in
theorem sBX10_paid_0 : Snd XX10_paid fIH 0 (BX10_paid_0) (0) (0) := by
  unfold BX10_paid_0
  refine s_Aldn 0 rfl 1 dX10_paid_0 rfl ?_
  refine s_get 10 9 4 clX10 (by decide) tw_358 dX10_paid_1 rfl ?_
  refine s_ifne 13 7 dX10_paid_4 (by decide) rfl ?_ ?_
  · refine s_iconst 14 0 (by decide) dX10_paid_13 rfl ?_
    refine s_Istn 1 rfl 15 (by decide) dX10_paid_14 rfl ?_
    refine s_iconst 16 0 (by decide) dX10_paid_15 rfl ?_
    refine s_Istn 2 rfl 17 (by decide) dX10_paid_16 rfl ?_
    exact s_pick (s_lp (fun k hk => sBX10_paid_17  hk) FU)
  · refine s_Aldn 0 rfl 8 dX10_paid_7 rfl ?_
    refine s_iconst 9 1 (by decide) dX10_paid_8 rfl ?_
    refine s_cal0 12 (run_V (X := XX10_paid) rfl clX10 yoX10_refuse rfl tw_415 tw_417 tw_p0 (by decide) dX10_paid_9) cmX10_refuse (fun _ _ _ => rfl) rfl ?_
    exact s_iretH rfl dX10_paid_12
def EX10_paid : List Value → HP → Option (Int32 × HP) := en 3 BX10_paid_0
theorem cmX10_paid : CM XX10_paid EX10_paid fIH 0 0 := CM.of rfl (by decide) rfl rfl sBX10_paid_0
theorem yoX10_paid : YO XX10_paid 0 0 0 := ⟨tw_941, rfl, tw_1, (by decide +kernel), rfl, rfl⟩
abbrev XX10_stuck : MX := (yX10_stuck, cX10_stuck, 3, (Option.some .int), Cond.code yX10_stuck cX10_stuck 3 (Option.some .int) :: WS, { frames := 5, cells := 0, slots := 0, locals := 119 })
def BX10_stuck_45 (k17 : KT (Int32 × HP)) : KT (Int32 × HP) :=
  oCal 5 (some 8) EX8_goTillDusk fVH (oAld 0 (oGet 10 4 (oCal 1 (some 8) EX8_outIn fI (oConst (.int (-2)) (oCmpne (oInc 2 1 (oPick [0, 1, 2] k17)) (oIld 1 (oConst (.int 1) (oIld 2 (oishl (oior (oIst 1 (oInc 2 1 (oPick [0, 1, 2] k17)))))))))))))
set_option maxRecDepth 20000 in
theorem sBX10_stuck_45 {k17 : KT (Int32 × HP)} (hk17 : Snd XX10_stuck fIH 17 k17 0 0) : Snd XX10_stuck fIH 45 (BX10_stuck_45 k17) (0) (0) := by
  unfold BX10_stuck_45
  refine s_cal0 48 (run_V (X := XX10_stuck) rfl clX8 yoX8_goTillDusk rfl tw_821 tw_822 tw_823 (by decide) dX10_stuck_45) cmX8_goTillDusk (fun _ _ _ => rfl) rfl ?_
  refine s_Aldn 0 rfl 49 dX10_stuck_48 rfl ?_
  refine s_get 10 4 52 clX10 (by decide) tw_353 dX10_stuck_49 rfl ?_
  refine s_cal0 55 (run_V (X := XX10_stuck) rfl clX8 yoX8_outIn rfl tw_886 tw_887 tw_888 (by decide) dX10_stuck_52) cmX8_outIn (fun _ _ _ => rfl) rfl ?_
  refine s_bipush 57 (-2) (by decide) dX10_stuck_55 rfl ?_
  refine s_cmpne 66 60 dX10_stuck_57 (by decide) rfl ?_ ?_
  · refine s_inc 2 1 69 (by decide) (by decide) dX10_stuck_66 rfl ?_
    refine s_goto 17 dX10_stuck_69 (by decide) ?_
    exact s_pick hk17
  · refine s_Ildn 1 rfl 61 dX10_stuck_60 rfl ?_
    refine s_iconst 62 1 (by decide) dX10_stuck_61 rfl ?_
    refine s_Ildn 2 rfl 63 dX10_stuck_62 rfl ?_
    refine s_ishl 64 dX10_stuck_63 rfl ?_
    refine s_ior 65 dX10_stuck_64 rfl ?_
    refine s_Istn 1 rfl 66 (by decide) dX10_stuck_65 rfl ?_
    refine s_inc 2 1 69 (by decide) (by decide) dX10_stuck_66 rfl ?_
    refine s_goto 17 dX10_stuck_69 (by decide) ?_
    exact s_pick hk17
def BX10_stuck_17 (k17 : KT (Int32 × HP)) : KT (Int32 × HP) :=
  oIld 2 (oAld 0 (oGet 10 7 (oGet 3 15 (oCmpge (oAld 0 (oIld 1 (oCal 2 (some 10) EX10_answer fIH (oIretH)))) (oAld 0 (oGet 10 4 (oAld 0 (oGet 10 7 (oIld 2 (oAld 0 (oGet 10 10 (oAld 0 (oGet 10 11 (oPick [0, 1, 2] (BX10_stuck_45 k17)))))))))))))))
set_option maxRecDepth 20000 in
theorem sBX10_stuck_17 {k17 : KT (Int32 × HP)} (hk17 : Snd XX10_stuck fIH 17 k17 0 0) : Snd XX10_stuck fIH 17 (BX10_stuck_17 k17) (0) (0) := by
  unfold BX10_stuck_17
  refine s_Ildn 2 rfl 18 dX10_stuck_17 rfl ?_
  refine s_Aldn 0 rfl 19 dX10_stuck_18 rfl ?_
  refine s_get 10 7 22 clX10 (by decide) tw_356 dX10_stuck_19 rfl ?_
  refine s_getN 3 15 25 clX3 (by decide) nw_41 dX10_stuck_22 rfl ?_
  refine s_cmpge 72 28 dX10_stuck_25 (by decide) rfl ?_ ?_
  · refine s_Aldn 0 rfl 73 dX10_stuck_72 rfl ?_
    refine s_Ildn 1 rfl 74 dX10_stuck_73 rfl ?_
    refine s_cal0 77 (run_V (X := XX10_stuck) rfl clX10 yoX10_answer rfl tw_702 tw_704 tw_p18 (by decide) dX10_stuck_74) cmX10_answer (fun _ _ _ => rfl) rfl ?_
    exact s_iretH rfl dX10_stuck_77
  · refine s_Aldn 0 rfl 29 dX10_stuck_28 rfl ?_
    refine s_get 10 4 32 clX10 (by decide) tw_353 dX10_stuck_29 rfl ?_
    refine s_Aldn 0 rfl 33 dX10_stuck_32 rfl ?_
    refine s_get 10 7 36 clX10 (by decide) tw_356 dX10_stuck_33 rfl ?_
    refine s_Ildn 2 rfl 37 dX10_stuck_36 rfl ?_
    refine s_Aldn 0 rfl 38 dX10_stuck_37 rfl ?_
    refine s_get 10 10 41 clX10 (by decide) tw_359 dX10_stuck_38 rfl ?_
    refine s_Aldn 0 rfl 42 dX10_stuck_41 rfl ?_
    refine s_get 10 11 45 clX10 (by decide) tw_360 dX10_stuck_42 rfl ?_
    exact s_pick (sBX10_stuck_45 hk17)
def BX10_stuck_0 : KT (Int32 × HP) :=
  oAld 0 (oGet 10 9 (oIfne (oConst (.int 0) (oIst 1 (oConst (.int 0) (oIst 2 (oPick [0, 1, 2] (lp (BX10_stuck_17) FU)))))) (oAld 0 (oConst (.int 1) (oCal 2 (some 10) EX10_refuse fIH (oIretH))))))
set_option maxRecDepth 20000 in
theorem sBX10_stuck_0 : Snd XX10_stuck fIH 0 (BX10_stuck_0) (0) (0) := by
  unfold BX10_stuck_0
  refine s_Aldn 0 rfl 1 dX10_stuck_0 rfl ?_
  refine s_get 10 9 4 clX10 (by decide) tw_358 dX10_stuck_1 rfl ?_
  refine s_ifne 13 7 dX10_stuck_4 (by decide) rfl ?_ ?_
  · refine s_iconst 14 0 (by decide) dX10_stuck_13 rfl ?_
    refine s_Istn 1 rfl 15 (by decide) dX10_stuck_14 rfl ?_
    refine s_iconst 16 0 (by decide) dX10_stuck_15 rfl ?_
    refine s_Istn 2 rfl 17 (by decide) dX10_stuck_16 rfl ?_
    exact s_pick (s_lp (fun k hk => sBX10_stuck_17  hk) FU)
  · refine s_Aldn 0 rfl 8 dX10_stuck_7 rfl ?_
    refine s_iconst 9 1 (by decide) dX10_stuck_8 rfl ?_
    refine s_cal0 12 (run_V (X := XX10_stuck) rfl clX10 yoX10_refuse rfl tw_415 tw_417 tw_p0 (by decide) dX10_stuck_9) cmX10_refuse (fun _ _ _ => rfl) rfl ?_
    exact s_iretH rfl dX10_stuck_12
def EX10_stuck : List Value → HP → Option (Int32 × HP) := en 3 BX10_stuck_0
theorem cmX10_stuck : CM XX10_stuck EX10_stuck fIH 0 0 := CM.of rfl (by decide) rfl rfl sBX10_stuck_0
theorem yoX10_stuck : YO XX10_stuck 0 0 0 := ⟨tw_945, rfl, tw_1, (by decide +kernel), rfl, rfl⟩
abbrev XX10_caught : MX := (yX10_caught, cX10_caught, 6, (Option.some .int), Cond.code yX10_caught cX10_caught 6 (Option.some .int) :: WS, { frames := 5, cells := 0, slots := 0, locals := 119 })
def BX10_caught_109 (k91 : KT (Int32 × HP)) : KT (Int32 × HP) :=
  oCal 2 (some 8) EX8_cellIn fI (oIst 5 (oIld 5 (oIflt (oInc 4 1 (oPick [0, 4] k91)) (oIld 5 (oAld 0 (oGet 10 6 (oLen (oCmpge (oInc 4 1 (oPick [0, 4] k91)) (oAld 0 (oGet 10 6 (oIld 5 (oIa (oIflt (oInc 4 1 (oPick [0, 4] k91)) (oAld 0 (oGet 10 6 (oIld 5 (oIa (oIld 4 (oCmpgt (oInc 4 1 (oPick [0, 4] k91)) (oAld 0 (oIld 4 (oCal 2 (some 10) EX10_answer fIH (oIretH)))))))))))))))))))))))
set_option maxRecDepth 20000 in
theorem sBX10_caught_109 {k91 : KT (Int32 × HP)} (hk91 : Snd XX10_caught fIH 91 k91 0 0) : Snd XX10_caught fIH 109 (BX10_caught_109 k91) (0) (0) := by
  unfold BX10_caught_109
  refine s_cal0 112 (run_V (X := XX10_caught) rfl clX8 yoX8_cellIn rfl tw_878 tw_879 tw_880 (by decide) dX10_caught_109) cmX8_cellIn (fun _ _ _ => rfl) rfl ?_
  refine s_Ist 5 114 (by decide) dX10_caught_112 rfl ?_
  refine s_Ild 5 116 dX10_caught_114 rfl ?_
  refine s_iflt 158 119 dX10_caught_116 (by decide) rfl ?_ ?_
  · refine s_inc 4 1 161 (by decide) (by decide) dX10_caught_158 rfl ?_
    refine s_goto 91 dX10_caught_161 (by decide) ?_
    exact s_pick hk91
  · refine s_Ild 5 121 dX10_caught_119 rfl ?_
    refine s_Aldn 0 rfl 122 dX10_caught_121 rfl ?_
    refine s_get 10 6 125 clX10 (by decide) tw_355 dX10_caught_122 rfl ?_
    refine s_len 126 dX10_caught_125 rfl ?_
    refine s_cmpge 158 129 dX10_caught_126 (by decide) rfl ?_ ?_
    · refine s_inc 4 1 161 (by decide) (by decide) dX10_caught_158 rfl ?_
      refine s_goto 91 dX10_caught_161 (by decide) ?_
      exact s_pick hk91
    · refine s_Aldn 0 rfl 130 dX10_caught_129 rfl ?_
      refine s_get 10 6 133 clX10 (by decide) tw_355 dX10_caught_130 rfl ?_
      refine s_Ild 5 135 dX10_caught_133 rfl ?_
      refine s_Ia 136 dX10_caught_135 rfl ?_
      refine s_iflt 158 139 dX10_caught_136 (by decide) rfl ?_ ?_
      · refine s_inc 4 1 161 (by decide) (by decide) dX10_caught_158 rfl ?_
        refine s_goto 91 dX10_caught_161 (by decide) ?_
        exact s_pick hk91
      · refine s_Aldn 0 rfl 140 dX10_caught_139 rfl ?_
        refine s_get 10 6 143 clX10 (by decide) tw_355 dX10_caught_140 rfl ?_
        refine s_Ild 5 145 dX10_caught_143 rfl ?_
        refine s_Ia 146 dX10_caught_145 rfl ?_
        refine s_Ild 4 148 dX10_caught_146 rfl ?_
        refine s_cmpgt 158 151 dX10_caught_148 (by decide) rfl ?_ ?_
        · refine s_inc 4 1 161 (by decide) (by decide) dX10_caught_158 rfl ?_
          refine s_goto 91 dX10_caught_161 (by decide) ?_
          exact s_pick hk91
        · refine s_Aldn 0 rfl 152 dX10_caught_151 rfl ?_
          refine s_Ild 4 154 dX10_caught_152 rfl ?_
          refine s_cal0 157 (run_V (X := XX10_caught) rfl clX10 yoX10_answer rfl tw_702 tw_704 tw_p18 (by decide) dX10_caught_154) cmX10_answer (fun _ _ _ => rfl) rfl ?_
          exact s_iretH rfl dX10_caught_157
def BX10_caught_91 (k91 : KT (Int32 × HP)) : KT (Int32 × HP) :=
  oIld 4 (oAld 0 (oGet 10 7 (oGet 3 8 (oCmpgt (oAld 0 (oConst (.int (-2)) (oCal 2 (some 10) EX10_answer fIH (oIretH)))) (oAld 0 (oGet 10 4 (oIld 4 (oPick [0, 4] (BX10_caught_109 k91)))))))))
set_option maxRecDepth 20000 in
theorem sBX10_caught_91 {k91 : KT (Int32 × HP)} (hk91 : Snd XX10_caught fIH 91 k91 0 0) : Snd XX10_caught fIH 91 (BX10_caught_91 k91) (0) (0) := by
  unfold BX10_caught_91
  refine s_Ild 4 93 dX10_caught_91 rfl ?_
  refine s_Aldn 0 rfl 94 dX10_caught_93 rfl ?_
  refine s_get 10 7 97 clX10 (by decide) tw_356 dX10_caught_94 rfl ?_
  refine s_getN 3 8 100 clX3 (by decide) nw_31 dX10_caught_97 rfl ?_
  refine s_cmpgt 164 103 dX10_caught_100 (by decide) rfl ?_ ?_
  · refine s_Aldn 0 rfl 165 dX10_caught_164 rfl ?_
    refine s_bipush 167 (-2) (by decide) dX10_caught_165 rfl ?_
    refine s_cal0 170 (run_V (X := XX10_caught) rfl clX10 yoX10_answer rfl tw_702 tw_704 tw_p18 (by decide) dX10_caught_167) cmX10_answer (fun _ _ _ => rfl) rfl ?_
    exact s_iretH rfl dX10_caught_170
  · refine s_Aldn 0 rfl 104 dX10_caught_103 rfl ?_
    refine s_get 10 4 107 clX10 (by decide) tw_353 dX10_caught_104 rfl ?_
    refine s_Ild 4 109 dX10_caught_107 rfl ?_
    exact s_pick (sBX10_caught_109 hk91)
def BX10_caught_85 : KT (Int32 × HP) :=
  oCal 4 (some 0) EX0_measure fVH (oConst (.int 0) (oIst 4 (oPick [0, 4] (lp (BX10_caught_91) FU))))
set_option maxRecDepth 20000 in
theorem sBX10_caught_85 : Snd XX10_caught fIH 85 (BX10_caught_85) (0) (0) := by
  unfold BX10_caught_85
  refine s_cal0 88 (run_V (X := XX10_caught) rfl clX0 yoX0_measure rfl tw_950 tw_838 tw_839 (by decide) dX10_caught_85) cmX0_measure (fun _ _ _ => rfl) rfl ?_
  refine s_iconst 89 0 (by decide) dX10_caught_88 rfl ?_
  refine s_Ist 4 91 (by decide) dX10_caught_89 rfl ?_
  exact s_pick (s_lp (fun k hk => sBX10_caught_91  hk) FU)
def BX10_caught_55 : KT (Int32 × HP) :=
  oCal 5 (some 8) EX8_goTillDusk fVH (oAld 0 (oGet 10 7 (oGet 3 0 (oAld 0 (oGet 10 10 (oAld 0 (oGet 10 7 (oGet 3 0 (oIld 2 (oIld 3 (oCal 3 (some 0) EX0_number fI (oAld 0 (oGet 10 6 (oPick [0] (BX10_caught_85)))))))))))))))
set_option maxRecDepth 20000 in
theorem sBX10_caught_55 : Snd XX10_caught fIH 55 (BX10_caught_55) (0) (0) := by
  unfold BX10_caught_55
  refine s_cal0 58 (run_V (X := XX10_caught) rfl clX8 yoX8_goTillDusk rfl tw_821 tw_822 tw_823 (by decide) dX10_caught_55) cmX8_goTillDusk (fun _ _ _ => rfl) rfl ?_
  refine s_Aldn 0 rfl 59 dX10_caught_58 rfl ?_
  refine s_get 10 7 62 clX10 (by decide) tw_356 dX10_caught_59 rfl ?_
  refine s_getN 3 0 65 clX3 (by decide) nw_23 dX10_caught_62 rfl ?_
  refine s_Aldn 0 rfl 66 dX10_caught_65 rfl ?_
  refine s_get 10 10 69 clX10 (by decide) tw_359 dX10_caught_66 rfl ?_
  refine s_Aldn 0 rfl 70 dX10_caught_69 rfl ?_
  refine s_get 10 7 73 clX10 (by decide) tw_356 dX10_caught_70 rfl ?_
  refine s_getN 3 0 76 clX3 (by decide) nw_23 dX10_caught_73 rfl ?_
  refine s_Ildn 2 rfl 77 dX10_caught_76 rfl ?_
  refine s_Ildn 3 rfl 78 dX10_caught_77 rfl ?_
  refine s_cal0 81 (run_V (X := XX10_caught) rfl clX0 yoX0_number rfl tw_727 tw_435 tw_436 (by decide) dX10_caught_78) cmX0_number (fun _ _ _ => rfl) rfl ?_
  refine s_Aldn 0 rfl 82 dX10_caught_81 rfl ?_
  refine s_get 10 6 85 clX10 (by decide) tw_355 dX10_caught_82 rfl ?_
  exact s_pick (sBX10_caught_85)
def BX10_caught_26 : KT (Int32 × HP) :=
  oCal 3 (some 10) EX10_isMown fZ (oIfne (oAld 0 (oGet 10 4 (oAld 0 (oGet 10 7 (oIld 1 (oAld 0 (oGet 10 10 (oAld 0 (oGet 10 11 (oPick [0, 2, 3] (BX10_caught_55))))))))))) (oAld 0 (oConst (.int 5) (oCal 2 (some 10) EX10_refuse fIH (oIretH)))))
set_option maxRecDepth 20000 in
theorem sBX10_caught_26 : Snd XX10_caught fIH 26 (BX10_caught_26) (0) (0) := by
  unfold BX10_caught_26
  refine s_cal0 29 (run_V (X := XX10_caught) rfl clX10 yoX10_isMown rfl tw_723 tw_725 tw_p20 (by decide) dX10_caught_26) cmX10_isMown (fun _ _ _ => rfl) rfl ?_
  refine s_ifne 38 32 dX10_caught_29 (by decide) rfl ?_ ?_
  · refine s_Aldn 0 rfl 39 dX10_caught_38 rfl ?_
    refine s_get 10 4 42 clX10 (by decide) tw_353 dX10_caught_39 rfl ?_
    refine s_Aldn 0 rfl 43 dX10_caught_42 rfl ?_
    refine s_get 10 7 46 clX10 (by decide) tw_356 dX10_caught_43 rfl ?_
    refine s_Ildn 1 rfl 47 dX10_caught_46 rfl ?_
    refine s_Aldn 0 rfl 48 dX10_caught_47 rfl ?_
    refine s_get 10 10 51 clX10 (by decide) tw_359 dX10_caught_48 rfl ?_
    refine s_Aldn 0 rfl 52 dX10_caught_51 rfl ?_
    refine s_get 10 11 55 clX10 (by decide) tw_360 dX10_caught_52 rfl ?_
    exact s_pick (sBX10_caught_55)
  · refine s_Aldn 0 rfl 33 dX10_caught_32 rfl ?_
    refine s_iconst 34 5 (by decide) dX10_caught_33 rfl ?_
    refine s_cal0 37 (run_V (X := XX10_caught) rfl clX10 yoX10_refuse rfl tw_415 tw_417 tw_p0 (by decide) dX10_caught_34) cmX10_refuse (fun _ _ _ => rfl) rfl ?_
    exact s_iretH rfl dX10_caught_37
def BX10_caught_11 : KT (Int32 × HP) :=
  oCal 3 (some 10) EX10_isCell fZ (oIfne (oAld 0 (oIld 2 (oIld 3 (oPick [0, 1, 2, 3] (BX10_caught_26))))) (oAld 0 (oConst (.int 1) (oCal 2 (some 10) EX10_refuse fIH (oIretH)))))
set_option maxRecDepth 20000 in
theorem sBX10_caught_11 : Snd XX10_caught fIH 11 (BX10_caught_11) (0) (0) := by
  unfold BX10_caught_11
  refine s_cal0 14 (run_V (X := XX10_caught) rfl clX10 yoX10_isCell rfl tw_718 tw_720 tw_p19 (by decide) dX10_caught_11) cmX10_isCell (fun _ _ _ => rfl) rfl ?_
  refine s_ifne 23 17 dX10_caught_14 (by decide) rfl ?_ ?_
  · refine s_Aldn 0 rfl 24 dX10_caught_23 rfl ?_
    refine s_Ildn 2 rfl 25 dX10_caught_24 rfl ?_
    refine s_Ildn 3 rfl 26 dX10_caught_25 rfl ?_
    exact s_pick (sBX10_caught_26)
  · refine s_Aldn 0 rfl 18 dX10_caught_17 rfl ?_
    refine s_iconst 19 1 (by decide) dX10_caught_18 rfl ?_
    refine s_cal0 22 (run_V (X := XX10_caught) rfl clX10 yoX10_refuse rfl tw_415 tw_417 tw_p0 (by decide) dX10_caught_19) cmX10_refuse (fun _ _ _ => rfl) rfl ?_
    exact s_iretH rfl dX10_caught_22
def BX10_caught_2 : KT (Int32 × HP) :=
  oCal 2 (some 10) EX10_isWalker fZ (oIfeq (oAld 0 (oConst (.int 1) (oCal 2 (some 10) EX10_refuse fIH (oIretH)))) (oAld 0 (oIld 2 (oIld 3 (oPick [0, 1, 2, 3] (BX10_caught_11))))))
set_option maxRecDepth 20000 in
theorem sBX10_caught_2 : Snd XX10_caught fIH 2 (BX10_caught_2) (0) (0) := by
  unfold BX10_caught_2
  refine s_cal0 5 (run_V (X := XX10_caught) rfl clX10 yoX10_isWalker rfl tw_813 tw_815 tw_p23 (by decide) dX10_caught_2) cmX10_isWalker (fun _ _ _ => rfl) rfl ?_
  refine s_ifeq 17 8 dX10_caught_5 (by decide) rfl ?_ ?_
  · refine s_Aldn 0 rfl 18 dX10_caught_17 rfl ?_
    refine s_iconst 19 1 (by decide) dX10_caught_18 rfl ?_
    refine s_cal0 22 (run_V (X := XX10_caught) rfl clX10 yoX10_refuse rfl tw_415 tw_417 tw_p0 (by decide) dX10_caught_19) cmX10_refuse (fun _ _ _ => rfl) rfl ?_
    exact s_iretH rfl dX10_caught_22
  · refine s_Aldn 0 rfl 9 dX10_caught_8 rfl ?_
    refine s_Ildn 2 rfl 10 dX10_caught_9 rfl ?_
    refine s_Ildn 3 rfl 11 dX10_caught_10 rfl ?_
    exact s_pick (sBX10_caught_11)
def BX10_caught_0 : KT (Int32 × HP) :=
  oAld 0 (oIld 1 (oPick [0, 1, 2, 3] (BX10_caught_2)))
set_option maxRecDepth 20000 in
theorem sBX10_caught_0 : Snd XX10_caught fIH 0 (BX10_caught_0) (0) (0) := by
  unfold BX10_caught_0
  refine s_Aldn 0 rfl 1 dX10_caught_0 rfl ?_
  refine s_Ildn 1 rfl 2 dX10_caught_1 rfl ?_
  exact s_pick (sBX10_caught_2)
def EX10_caught : List Value → HP → Option (Int32 × HP) := en 6 BX10_caught_0
theorem cmX10_caught : CM XX10_caught EX10_caught fIH 0 0 := CM.of rfl (by decide) rfl rfl sBX10_caught_0
theorem yoX10_caught : YO XX10_caught 3 0 0 := ⟨tw_949, rfl, tw_1, (by decide +kernel), rfl, rfl⟩
abbrev XX10_unlikeCells : MX := (yX10_unlikeCells, cX10_unlikeCells, 2, (Option.some .long), Cond.code yX10_unlikeCells cX10_unlikeCells 2 (Option.some .long) :: WS, { frames := 1, cells := 0, slots := 0, locals := 22 })
def BX10_unlikeCells_0 : KT Int64 :=
  oIld 1 (oIfeq (oAld 0 (oGet 10 7 (oGet 3 2 (oAld 0 (oGet 10 10 (oCal 2 (some 2) EX2_cellsUnlike fL (oLretP))))))) (oAld 0 (oGet 10 7 (oGet 3 3 (oAld 0 (oGet 10 10 (oCal 2 (some 2) EX2_cellsUnlike fL (oLretP))))))))
set_option maxRecDepth 20000 in
theorem sBX10_unlikeCells_0 : Snd XX10_unlikeCells fL 0 (BX10_unlikeCells_0) (0) (0) := by
  unfold BX10_unlikeCells_0
  refine s_Ildn 1 rfl 1 dX10_unlikeCells_0 rfl ?_
  refine s_ifeq 14 4 dX10_unlikeCells_1 (by decide) rfl ?_ ?_
  · refine s_Aldn 0 rfl 15 dX10_unlikeCells_14 rfl ?_
    refine s_get 10 7 18 clX10 (by decide) tw_356 dX10_unlikeCells_15 rfl ?_
    refine s_getN 3 2 21 clX3 (by decide) nw_27 dX10_unlikeCells_18 rfl ?_
    refine s_Aldn 0 rfl 22 dX10_unlikeCells_21 rfl ?_
    refine s_get 10 10 25 clX10 (by decide) tw_359 dX10_unlikeCells_22 rfl ?_
    refine s_cal0 28 (run_V (X := XX10_unlikeCells) rfl clX2 yoX2_cellsUnlike rfl tw_959 tw_960 tw_961 (by decide) dX10_unlikeCells_25) cmX2_cellsUnlike (fun _ _ _ => rfl) rfl ?_
    exact s_lretP rfl dX10_unlikeCells_28
  · refine s_Aldn 0 rfl 5 dX10_unlikeCells_4 rfl ?_
    refine s_get 10 7 8 clX10 (by decide) tw_356 dX10_unlikeCells_5 rfl ?_
    refine s_getN 3 3 11 clX3 (by decide) nw_29 dX10_unlikeCells_8 rfl ?_
    refine s_goto 21 dX10_unlikeCells_11 (by decide) ?_
    refine s_Aldn 0 rfl 22 dX10_unlikeCells_21 rfl ?_
    refine s_get 10 10 25 clX10 (by decide) tw_359 dX10_unlikeCells_22 rfl ?_
    refine s_cal0 28 (run_V (X := XX10_unlikeCells) rfl clX2 yoX2_cellsUnlike rfl tw_959 tw_960 tw_961 (by decide) dX10_unlikeCells_25) cmX2_cellsUnlike (fun _ _ _ => rfl) rfl ?_
    exact s_lretP rfl dX10_unlikeCells_28
def EX10_unlikeCells : List Value → HP → Option Int64 := en 2 BX10_unlikeCells_0
theorem cmX10_unlikeCells : CM XX10_unlikeCells EX10_unlikeCells fL 0 0 := CM.of rfl (by decide) rfl rfl sBX10_unlikeCells_0
theorem yoX10_unlikeCells : YO XX10_unlikeCells 1 0 0 := ⟨tw_958, rfl, tw_1, (by decide +kernel), rfl, rfl⟩
abbrev XX10_unlike : MX := (yX10_unlike, cX10_unlike, 2, (Option.some .int), Cond.code yX10_unlike cX10_unlike 2 (Option.some .int) :: WS, { frames := 2, cells := 0, slots := 0, locals := 43 })
def BX10_unlike_10 : KT (Int32 × HP) :=
  oCal 2 (some 10) EX10_unlikeCells fL (oCal 1 none EJ13_bitCount_95d88 fI (oCal 2 (some 10) EX10_answer fIH (oIretH)))
set_option maxRecDepth 20000 in
theorem sBX10_unlike_10 : Snd XX10_unlike fIH 10 (BX10_unlike_10) (0) (0) := by
  unfold BX10_unlike_10
  refine s_cal0 13 (run_V (X := XX10_unlike) rfl clX10 yoX10_unlikeCells rfl tw_955 tw_957 tw_p34 (by decide) dX10_unlike_10) cmX10_unlikeCells (fun _ _ _ => rfl) rfl ?_
  refine s_cal0 16 (run_S (X := XX10_unlike) yoJ13_bitCount_95d88 tw_696 tw_697 (by decide) dX10_unlike_13) cmJ13_bitCount_95d88 (fun _ _ _ => rfl) rfl ?_
  refine s_cal0 19 (run_V (X := XX10_unlike) rfl clX10 yoX10_answer rfl tw_702 tw_704 tw_p18 (by decide) dX10_unlike_16) cmX10_answer (fun _ _ _ => rfl) rfl ?_
  refine s_goto 27 dX10_unlike_19 (by decide) ?_
  exact s_iretH rfl dX10_unlike_27
def BX10_unlike_0 : KT (Int32 × HP) :=
  oAld 0 (oGet 10 9 (oIfeq (oAld 0 (oConst (.int 1) (oCal 2 (some 10) EX10_refuse fIH (oIretH)))) (oAld 0 (oAld 0 (oIld 1 (oPick [] (BX10_unlike_10)))))))
set_option maxRecDepth 20000 in
theorem sBX10_unlike_0 : Snd XX10_unlike fIH 0 (BX10_unlike_0) (0) (0) := by
  unfold BX10_unlike_0
  refine s_Aldn 0 rfl 1 dX10_unlike_0 rfl ?_
  refine s_get 10 9 4 clX10 (by decide) tw_358 dX10_unlike_1 rfl ?_
  refine s_ifeq 22 7 dX10_unlike_4 (by decide) rfl ?_ ?_
  · refine s_Aldn 0 rfl 23 dX10_unlike_22 rfl ?_
    refine s_iconst 24 1 (by decide) dX10_unlike_23 rfl ?_
    refine s_cal0 27 (run_V (X := XX10_unlike) rfl clX10 yoX10_refuse rfl tw_415 tw_417 tw_p0 (by decide) dX10_unlike_24) cmX10_refuse (fun _ _ _ => rfl) rfl ?_
    exact s_iretH rfl dX10_unlike_27
  · refine s_Aldn 0 rfl 8 dX10_unlike_7 rfl ?_
    refine s_Aldn 0 rfl 9 dX10_unlike_8 rfl ?_
    refine s_Ildn 1 rfl 10 dX10_unlike_9 rfl ?_
    exact s_pick (sBX10_unlike_10)
def EX10_unlike : List Value → HP → Option (Int32 × HP) := en 2 BX10_unlike_0
theorem cmX10_unlike : CM XX10_unlike EX10_unlike fIH 0 0 := CM.of rfl (by decide) rfl rfl sBX10_unlike_0
theorem yoX10_unlike : YO XX10_unlike 1 0 0 := ⟨tw_954, rfl, tw_1, (by decide +kernel), rfl, rfl⟩
abbrev XX10_firstUnlike : MX := (yX10_firstUnlike, cX10_firstUnlike, 2, (Option.some .int), Cond.code yX10_firstUnlike cX10_firstUnlike 2 (Option.some .int) :: WS, { frames := 2, cells := 0, slots := 0, locals := 46 })
def BX10_firstUnlike_14 : KT (Int32 × HP) :=
  oCal 2 none EX10_nthCell fI (oCal 2 (some 10) EX10_answer fIH (oIretH))
set_option maxRecDepth 20000 in
theorem sBX10_firstUnlike_14 : Snd XX10_firstUnlike fIH 14 (BX10_firstUnlike_14) (0) (0) := by
  unfold BX10_firstUnlike_14
  refine s_cal0 17 (run_S (X := XX10_firstUnlike) yoX10_nthCell tw_968 tw_969 (by decide) dX10_firstUnlike_14) cmX10_nthCell (fun _ _ _ => rfl) rfl ?_
  refine s_cal0 20 (run_V (X := XX10_firstUnlike) rfl clX10 yoX10_answer rfl tw_702 tw_704 tw_p18 (by decide) dX10_firstUnlike_17) cmX10_answer (fun _ _ _ => rfl) rfl ?_
  refine s_goto 28 dX10_firstUnlike_20 (by decide) ?_
  exact s_iretH rfl dX10_firstUnlike_28
def BX10_firstUnlike_10 : KT (Int32 × HP) :=
  oCal 2 (some 10) EX10_unlikeCells fL (oConst (.int 0) (oPick [] (BX10_firstUnlike_14)))
set_option maxRecDepth 20000 in
theorem sBX10_firstUnlike_10 : Snd XX10_firstUnlike fIH 10 (BX10_firstUnlike_10) (0) (0) := by
  unfold BX10_firstUnlike_10
  refine s_cal0 13 (run_V (X := XX10_firstUnlike) rfl clX10 yoX10_unlikeCells rfl tw_955 tw_957 tw_p34 (by decide) dX10_firstUnlike_10) cmX10_unlikeCells (fun _ _ _ => rfl) rfl ?_
  refine s_iconst 14 0 (by decide) dX10_firstUnlike_13 rfl ?_
  exact s_pick (sBX10_firstUnlike_14)
def BX10_firstUnlike_0 : KT (Int32 × HP) :=
  oAld 0 (oGet 10 9 (oIfeq (oAld 0 (oConst (.int 1) (oCal 2 (some 10) EX10_refuse fIH (oIretH)))) (oAld 0 (oAld 0 (oIld 1 (oPick [] (BX10_firstUnlike_10)))))))
set_option maxRecDepth 20000 in
theorem sBX10_firstUnlike_0 : Snd XX10_firstUnlike fIH 0 (BX10_firstUnlike_0) (0) (0) := by
  unfold BX10_firstUnlike_0
  refine s_Aldn 0 rfl 1 dX10_firstUnlike_0 rfl ?_
  refine s_get 10 9 4 clX10 (by decide) tw_358 dX10_firstUnlike_1 rfl ?_
  refine s_ifeq 23 7 dX10_firstUnlike_4 (by decide) rfl ?_ ?_
  · refine s_Aldn 0 rfl 24 dX10_firstUnlike_23 rfl ?_
    refine s_iconst 25 1 (by decide) dX10_firstUnlike_24 rfl ?_
    refine s_cal0 28 (run_V (X := XX10_firstUnlike) rfl clX10 yoX10_refuse rfl tw_415 tw_417 tw_p0 (by decide) dX10_firstUnlike_25) cmX10_refuse (fun _ _ _ => rfl) rfl ?_
    exact s_iretH rfl dX10_firstUnlike_28
  · refine s_Aldn 0 rfl 8 dX10_firstUnlike_7 rfl ?_
    refine s_Aldn 0 rfl 9 dX10_firstUnlike_8 rfl ?_
    refine s_Ildn 1 rfl 10 dX10_firstUnlike_9 rfl ?_
    exact s_pick (sBX10_firstUnlike_10)
def EX10_firstUnlike : List Value → HP → Option (Int32 × HP) := en 2 BX10_firstUnlike_0
theorem cmX10_firstUnlike : CM XX10_firstUnlike EX10_firstUnlike fIH 0 0 := CM.of rfl (by decide) rfl rfl sBX10_firstUnlike_0
theorem yoX10_firstUnlike : YO XX10_firstUnlike 1 0 0 := ⟨tw_967, rfl, tw_1, (by decide +kernel), rfl, rfl⟩
abbrev XX10_clashingCells : MX := (yX10_clashingCells, cX10_clashingCells, 1, (Option.some .long), Cond.code yX10_clashingCells cX10_clashingCells 1 (Option.some .long) :: WS, { frames := 0, cells := 0, slots := 0, locals := 0 })
def BX10_clashingCells_0 : KT Int64 :=
  oAld 0 (oGet 10 7 (oGet 3 2 (oGet 2 0 (oAld 0 (oGet 10 7 (oGet 3 3 (oGet 2 1 (oland (oAld 0 (oGet 10 7 (oGet 3 2 (oGet 2 1 (oAld 0 (oGet 10 7 (oGet 3 3 (oGet 2 0 (oland (olor (oLretP)))))))))))))))))))
set_option maxRecDepth 20000 in
theorem sBX10_clashingCells_0 : Snd XX10_clashingCells fL 0 (BX10_clashingCells_0) (0) (0) := by
  unfold BX10_clashingCells_0
  refine s_Aldn 0 rfl 1 dX10_clashingCells_0 rfl ?_
  refine s_get 10 7 4 clX10 (by decide) tw_356 dX10_clashingCells_1 rfl ?_
  refine s_getN 3 2 7 clX3 (by decide) nw_27 dX10_clashingCells_4 rfl ?_
  refine s_getN 2 0 10 clX2 (by decide) nw_7 dX10_clashingCells_7 rfl ?_
  refine s_Aldn 0 rfl 11 dX10_clashingCells_10 rfl ?_
  refine s_get 10 7 14 clX10 (by decide) tw_356 dX10_clashingCells_11 rfl ?_
  refine s_getN 3 3 17 clX3 (by decide) nw_29 dX10_clashingCells_14 rfl ?_
  refine s_getN 2 1 20 clX2 (by decide) nw_8 dX10_clashingCells_17 rfl ?_
  refine s_land 21 dX10_clashingCells_20 rfl ?_
  refine s_Aldn 0 rfl 22 dX10_clashingCells_21 rfl ?_
  refine s_get 10 7 25 clX10 (by decide) tw_356 dX10_clashingCells_22 rfl ?_
  refine s_getN 3 2 28 clX3 (by decide) nw_27 dX10_clashingCells_25 rfl ?_
  refine s_getN 2 1 31 clX2 (by decide) nw_8 dX10_clashingCells_28 rfl ?_
  refine s_Aldn 0 rfl 32 dX10_clashingCells_31 rfl ?_
  refine s_get 10 7 35 clX10 (by decide) tw_356 dX10_clashingCells_32 rfl ?_
  refine s_getN 3 3 38 clX3 (by decide) nw_29 dX10_clashingCells_35 rfl ?_
  refine s_getN 2 0 41 clX2 (by decide) nw_7 dX10_clashingCells_38 rfl ?_
  refine s_land 42 dX10_clashingCells_41 rfl ?_
  refine s_lor 43 dX10_clashingCells_42 rfl ?_
  exact s_lretP rfl dX10_clashingCells_43
def EX10_clashingCells : List Value → HP → Option Int64 := en 1 BX10_clashingCells_0
theorem cmX10_clashingCells : CM XX10_clashingCells EX10_clashingCells fL 0 0 := CM.of rfl (by decide) rfl rfl sBX10_clashingCells_0
theorem yoX10_clashingCells : YO XX10_clashingCells 0 0 0 := ⟨tw_978, rfl, tw_1, (by decide +kernel), rfl, rfl⟩
abbrev XX10_clash : MX := (yX10_clash, cX10_clash, 1, (Option.some .int), Cond.code yX10_clash cX10_clash 1 (Option.some .int) :: WS, { frames := 1, cells := 0, slots := 0, locals := 21 })
def BX10_clash_0 : KT (Int32 × HP) :=
  oAld 0 (oGet 10 9 (oIfeq (oAld 0 (oConst (.int 1) (oCal 2 (some 10) EX10_refuse fIH (oIretH)))) (oAld 0 (oAld 0 (oCal 1 (some 10) EX10_clashingCells fL (oCal 1 none EJ13_bitCount_95d88 fI (oCal 2 (some 10) EX10_answer fIH (oIretH))))))))
set_option maxRecDepth 20000 in
theorem sBX10_clash_0 : Snd XX10_clash fIH 0 (BX10_clash_0) (0) (0) := by
  unfold BX10_clash_0
  refine s_Aldn 0 rfl 1 dX10_clash_0 rfl ?_
  refine s_get 10 9 4 clX10 (by decide) tw_358 dX10_clash_1 rfl ?_
  refine s_ifeq 21 7 dX10_clash_4 (by decide) rfl ?_ ?_
  · refine s_Aldn 0 rfl 22 dX10_clash_21 rfl ?_
    refine s_iconst 23 1 (by decide) dX10_clash_22 rfl ?_
    refine s_cal0 26 (run_V (X := XX10_clash) rfl clX10 yoX10_refuse rfl tw_415 tw_417 tw_p0 (by decide) dX10_clash_23) cmX10_refuse (fun _ _ _ => rfl) rfl ?_
    exact s_iretH rfl dX10_clash_26
  · refine s_Aldn 0 rfl 8 dX10_clash_7 rfl ?_
    refine s_Aldn 0 rfl 9 dX10_clash_8 rfl ?_
    refine s_cal0 12 (run_V (X := XX10_clash) rfl clX10 yoX10_clashingCells rfl tw_975 tw_977 tw_p35 (by decide) dX10_clash_9) cmX10_clashingCells (fun _ _ _ => rfl) rfl ?_
    refine s_cal0 15 (run_S (X := XX10_clash) yoJ13_bitCount_95d88 tw_696 tw_697 (by decide) dX10_clash_12) cmJ13_bitCount_95d88 (fun _ _ _ => rfl) rfl ?_
    refine s_cal0 18 (run_V (X := XX10_clash) rfl clX10 yoX10_answer rfl tw_702 tw_704 tw_p18 (by decide) dX10_clash_15) cmX10_answer (fun _ _ _ => rfl) rfl ?_
    refine s_goto 26 dX10_clash_18 (by decide) ?_
    exact s_iretH rfl dX10_clash_26
def EX10_clash : List Value → HP → Option (Int32 × HP) := en 1 BX10_clash_0
theorem cmX10_clash : CM XX10_clash EX10_clash fIH 0 0 := CM.of rfl (by decide) rfl rfl sBX10_clash_0
theorem yoX10_clash : YO XX10_clash 0 0 0 := ⟨tw_974, rfl, tw_1, (by decide +kernel), rfl, rfl⟩
abbrev XX10_changes : MX := (yX10_changes, cX10_changes, 3, (Option.some .int), Cond.code yX10_changes cX10_changes 3 (Option.some .int) :: WS, { frames := 2, cells := 0, slots := 0, locals := 43 })
def BX10_changes_20 : KT (Int32 × HP) :=
  oCal 2 (some 10) EX10_unlikeCells fL (olor (oLst 1 (oAld 0 (oLld 1 (oAld 0 (oCal 1 (some 10) EX10_clashingCells fL (oConst (.long (-1)) (olxor (oland (oCal 1 none EJ13_bitCount_95d88 fI (oCal 2 (some 10) EX10_answer fIH (oIretH))))))))))))
set_option maxRecDepth 20000 in
theorem sBX10_changes_20 : Snd XX10_changes fIH 20 (BX10_changes_20) (0) (0) := by
  unfold BX10_changes_20
  refine s_cal0 23 (run_V (X := XX10_changes) rfl clX10 yoX10_unlikeCells rfl tw_955 tw_957 tw_p34 (by decide) dX10_changes_20) cmX10_unlikeCells (fun _ _ _ => rfl) rfl ?_
  refine s_lor 24 dX10_changes_23 rfl ?_
  refine s_Lstn 1 rfl 25 (by decide) dX10_changes_24 rfl ?_
  refine s_Aldn 0 rfl 26 dX10_changes_25 rfl ?_
  refine s_Lldn 1 rfl 27 dX10_changes_26 rfl ?_
  refine s_Aldn 0 rfl 28 dX10_changes_27 rfl ?_
  refine s_cal0 31 (run_V (X := XX10_changes) rfl clX10 yoX10_clashingCells rfl tw_975 tw_977 tw_p35 (by decide) dX10_changes_28) cmX10_clashingCells (fun _ _ _ => rfl) rfl ?_
  refine s_ldc2 34 (-1) tw_983 dX10_changes_31 rfl ?_
  refine s_lxor 35 dX10_changes_34 rfl ?_
  refine s_land 36 dX10_changes_35 rfl ?_
  refine s_cal0 39 (run_S (X := XX10_changes) yoJ13_bitCount_95d88 tw_696 tw_697 (by decide) dX10_changes_36) cmJ13_bitCount_95d88 (fun _ _ _ => rfl) rfl ?_
  refine s_cal0 42 (run_V (X := XX10_changes) rfl clX10 yoX10_answer rfl tw_702 tw_704 tw_p18 (by decide) dX10_changes_39) cmX10_answer (fun _ _ _ => rfl) rfl ?_
  exact s_iretH rfl dX10_changes_42
def BX10_changes_15 : KT (Int32 × HP) :=
  oCal 2 (some 10) EX10_unlikeCells fL (oAld 0 (oConst (.int 1) (oPick [0] (BX10_changes_20))))
set_option maxRecDepth 20000 in
theorem sBX10_changes_15 : Snd XX10_changes fIH 15 (BX10_changes_15) (0) (0) := by
  unfold BX10_changes_15
  refine s_cal0 18 (run_V (X := XX10_changes) rfl clX10 yoX10_unlikeCells rfl tw_955 tw_957 tw_p34 (by decide) dX10_changes_15) cmX10_unlikeCells (fun _ _ _ => rfl) rfl ?_
  refine s_Aldn 0 rfl 19 dX10_changes_18 rfl ?_
  refine s_iconst 20 1 (by decide) dX10_changes_19 rfl ?_
  exact s_pick (sBX10_changes_20)
def BX10_changes_0 : KT (Int32 × HP) :=
  oAld 0 (oGet 10 9 (oIfne (oAld 0 (oConst (.int 0) (oPick [0] (BX10_changes_15)))) (oAld 0 (oConst (.int 1) (oCal 2 (some 10) EX10_refuse fIH (oIretH))))))
set_option maxRecDepth 20000 in
theorem sBX10_changes_0 : Snd XX10_changes fIH 0 (BX10_changes_0) (0) (0) := by
  unfold BX10_changes_0
  refine s_Aldn 0 rfl 1 dX10_changes_0 rfl ?_
  refine s_get 10 9 4 clX10 (by decide) tw_358 dX10_changes_1 rfl ?_
  refine s_ifne 13 7 dX10_changes_4 (by decide) rfl ?_ ?_
  · refine s_Aldn 0 rfl 14 dX10_changes_13 rfl ?_
    refine s_iconst 15 0 (by decide) dX10_changes_14 rfl ?_
    exact s_pick (sBX10_changes_15)
  · refine s_Aldn 0 rfl 8 dX10_changes_7 rfl ?_
    refine s_iconst 9 1 (by decide) dX10_changes_8 rfl ?_
    refine s_cal0 12 (run_V (X := XX10_changes) rfl clX10 yoX10_refuse rfl tw_415 tw_417 tw_p0 (by decide) dX10_changes_9) cmX10_refuse (fun _ _ _ => rfl) rfl ?_
    exact s_iretH rfl dX10_changes_12
def EX10_changes : List Value → HP → Option (Int32 × HP) := en 3 BX10_changes_0
theorem cmX10_changes : CM XX10_changes EX10_changes fIH 0 0 := CM.of rfl (by decide) rfl rfl sBX10_changes_0
theorem yoX10_changes : YO XX10_changes 0 0 0 := ⟨tw_982, rfl, tw_1, (by decide +kernel), rfl, rfl⟩
abbrev XX10_cellsToMow : MX := (yX10_cellsToMow, cX10_cellsToMow, 1, (Option.some .long), Cond.code yX10_cellsToMow cX10_cellsToMow 1 (Option.some .long) :: WS, { frames := 0, cells := 0, slots := 0, locals := 0 })
def BX10_cellsToMow_0 : KT Int64 :=
  oAld 0 (oGet 10 7 (oGet 3 2 (oGet 2 0 (oAld 0 (oGet 10 10 (oConst (.long (-1)) (olxor (oland (oLretP)))))))))
set_option maxRecDepth 20000 in
theorem sBX10_cellsToMow_0 : Snd XX10_cellsToMow fL 0 (BX10_cellsToMow_0) (0) (0) := by
  unfold BX10_cellsToMow_0
  refine s_Aldn 0 rfl 1 dX10_cellsToMow_0 rfl ?_
  refine s_get 10 7 4 clX10 (by decide) tw_356 dX10_cellsToMow_1 rfl ?_
  refine s_getN 3 2 7 clX3 (by decide) nw_27 dX10_cellsToMow_4 rfl ?_
  refine s_getN 2 0 10 clX2 (by decide) nw_7 dX10_cellsToMow_7 rfl ?_
  refine s_Aldn 0 rfl 11 dX10_cellsToMow_10 rfl ?_
  refine s_get 10 10 14 clX10 (by decide) tw_359 dX10_cellsToMow_11 rfl ?_
  refine s_ldc2 17 (-1) tw_983 dX10_cellsToMow_14 rfl ?_
  refine s_lxor 18 dX10_cellsToMow_17 rfl ?_
  refine s_land 19 dX10_cellsToMow_18 rfl ?_
  exact s_lretP rfl dX10_cellsToMow_19
def EX10_cellsToMow : List Value → HP → Option Int64 := en 1 BX10_cellsToMow_0
theorem cmX10_cellsToMow : CM XX10_cellsToMow EX10_cellsToMow fL 0 0 := CM.of rfl (by decide) rfl rfl sBX10_cellsToMow_0
theorem yoX10_cellsToMow : YO XX10_cellsToMow 0 0 0 := ⟨tw_991, rfl, tw_1, (by decide +kernel), rfl, rfl⟩
abbrev XX10_toMow : MX := (yX10_toMow, cX10_toMow, 1, (Option.some .int), Cond.code yX10_toMow cX10_toMow 1 (Option.some .int) :: WS, { frames := 1, cells := 0, slots := 0, locals := 21 })
def BX10_toMow_0 : KT (Int32 × HP) :=
  oAld 0 (oGet 10 9 (oIfeq (oAld 0 (oConst (.int 1) (oCal 2 (some 10) EX10_refuse fIH (oIretH)))) (oAld 0 (oAld 0 (oCal 1 (some 10) EX10_cellsToMow fL (oCal 1 none EJ13_bitCount_95d88 fI (oCal 2 (some 10) EX10_answer fIH (oIretH))))))))
set_option maxRecDepth 20000 in
theorem sBX10_toMow_0 : Snd XX10_toMow fIH 0 (BX10_toMow_0) (0) (0) := by
  unfold BX10_toMow_0
  refine s_Aldn 0 rfl 1 dX10_toMow_0 rfl ?_
  refine s_get 10 9 4 clX10 (by decide) tw_358 dX10_toMow_1 rfl ?_
  refine s_ifeq 21 7 dX10_toMow_4 (by decide) rfl ?_ ?_
  · refine s_Aldn 0 rfl 22 dX10_toMow_21 rfl ?_
    refine s_iconst 23 1 (by decide) dX10_toMow_22 rfl ?_
    refine s_cal0 26 (run_V (X := XX10_toMow) rfl clX10 yoX10_refuse rfl tw_415 tw_417 tw_p0 (by decide) dX10_toMow_23) cmX10_refuse (fun _ _ _ => rfl) rfl ?_
    exact s_iretH rfl dX10_toMow_26
  · refine s_Aldn 0 rfl 8 dX10_toMow_7 rfl ?_
    refine s_Aldn 0 rfl 9 dX10_toMow_8 rfl ?_
    refine s_cal0 12 (run_V (X := XX10_toMow) rfl clX10 yoX10_cellsToMow rfl tw_988 tw_990 tw_p36 (by decide) dX10_toMow_9) cmX10_cellsToMow (fun _ _ _ => rfl) rfl ?_
    refine s_cal0 15 (run_S (X := XX10_toMow) yoJ13_bitCount_95d88 tw_696 tw_697 (by decide) dX10_toMow_12) cmJ13_bitCount_95d88 (fun _ _ _ => rfl) rfl ?_
    refine s_cal0 18 (run_V (X := XX10_toMow) rfl clX10 yoX10_answer rfl tw_702 tw_704 tw_p18 (by decide) dX10_toMow_15) cmX10_answer (fun _ _ _ => rfl) rfl ?_
    refine s_goto 26 dX10_toMow_18 (by decide) ?_
    exact s_iretH rfl dX10_toMow_26
def EX10_toMow : List Value → HP → Option (Int32 × HP) := en 1 BX10_toMow_0
theorem cmX10_toMow : CM XX10_toMow EX10_toMow fIH 0 0 := CM.of rfl (by decide) rfl rfl sBX10_toMow_0
theorem yoX10_toMow : YO XX10_toMow 0 0 0 := ⟨tw_987, rfl, tw_1, (by decide +kernel), rfl, rfl⟩
abbrev XX10_strokes : MX := (yX10_strokes, cX10_strokes, 1, (Option.some .int), Cond.code yX10_strokes cX10_strokes 1 (Option.some .int) :: WS, { frames := 4, cells := 0, slots := 0, locals := 100 })
def BX10_strokes_47 : KT (Int32 × HP) :=
  oCal 3 (some 5) EX5_fewestStrokes fIH (oCal 2 (some 10) EX10_answer fIH (oIretH))
set_option maxRecDepth 20000 in
theorem sBX10_strokes_47 : Snd XX10_strokes fIH 47 (BX10_strokes_47) (0) (0) := by
  unfold BX10_strokes_47
  refine s_cal0 50 (run_V (X := XX10_strokes) rfl clX5 yoX5_fewestStrokes rfl tw_996 tw_997 tw_998 (by decide) dX10_strokes_47) cmX5_fewestStrokes (fun _ _ _ => rfl) rfl ?_
  refine s_cal0 53 (run_V (X := XX10_strokes) rfl clX10 yoX10_answer rfl tw_702 tw_704 tw_p18 (by decide) dX10_strokes_50) cmX10_answer (fun _ _ _ => rfl) rfl ?_
  exact s_iretH rfl dX10_strokes_53
def BX10_strokes_0 : KT (Int32 × HP) :=
  oAld 0 (oGet 10 9 (oIfne (oAld 0 (oCal 1 (some 10) EX10_cellsToMow fL (oCal 1 none EJ13_bitCount_95d88 fI (oConst (.int 12) (oCmple (oAld 0 (oAld 0 (oGet 10 3 (oAld 0 (oGet 10 7 (oGet 3 0 (oAld 0 (oCal 1 (some 10) EX10_cellsToMow fL (oPick [] (BX10_strokes_47)))))))))) (oAld 0 (oConst (.int 3) (oCal 2 (some 10) EX10_refuse fIH (oIretH))))))))) (oAld 0 (oConst (.int 1) (oCal 2 (some 10) EX10_refuse fIH (oIretH))))))
set_option maxRecDepth 20000 in
theorem sBX10_strokes_0 : Snd XX10_strokes fIH 0 (BX10_strokes_0) (0) (0) := by
  unfold BX10_strokes_0
  refine s_Aldn 0 rfl 1 dX10_strokes_0 rfl ?_
  refine s_get 10 9 4 clX10 (by decide) tw_358 dX10_strokes_1 rfl ?_
  refine s_ifne 13 7 dX10_strokes_4 (by decide) rfl ?_ ?_
  · refine s_Aldn 0 rfl 14 dX10_strokes_13 rfl ?_
    refine s_cal0 17 (run_V (X := XX10_strokes) rfl clX10 yoX10_cellsToMow rfl tw_988 tw_990 tw_p36 (by decide) dX10_strokes_14) cmX10_cellsToMow (fun _ _ _ => rfl) rfl ?_
    refine s_cal0 20 (run_S (X := XX10_strokes) yoJ13_bitCount_95d88 tw_696 tw_697 (by decide) dX10_strokes_17) cmJ13_bitCount_95d88 (fun _ _ _ => rfl) rfl ?_
    refine s_bipush 22 12 (by decide) dX10_strokes_20 rfl ?_
    refine s_cmple 31 25 dX10_strokes_22 (by decide) rfl ?_ ?_
    · refine s_Aldn 0 rfl 32 dX10_strokes_31 rfl ?_
      refine s_Aldn 0 rfl 33 dX10_strokes_32 rfl ?_
      refine s_get 10 3 36 clX10 (by decide) tw_352 dX10_strokes_33 rfl ?_
      refine s_Aldn 0 rfl 37 dX10_strokes_36 rfl ?_
      refine s_get 10 7 40 clX10 (by decide) tw_356 dX10_strokes_37 rfl ?_
      refine s_getN 3 0 43 clX3 (by decide) nw_23 dX10_strokes_40 rfl ?_
      refine s_Aldn 0 rfl 44 dX10_strokes_43 rfl ?_
      refine s_cal0 47 (run_V (X := XX10_strokes) rfl clX10 yoX10_cellsToMow rfl tw_988 tw_990 tw_p36 (by decide) dX10_strokes_44) cmX10_cellsToMow (fun _ _ _ => rfl) rfl ?_
      exact s_pick (sBX10_strokes_47)
    · refine s_Aldn 0 rfl 26 dX10_strokes_25 rfl ?_
      refine s_iconst 27 3 (by decide) dX10_strokes_26 rfl ?_
      refine s_cal0 30 (run_V (X := XX10_strokes) rfl clX10 yoX10_refuse rfl tw_415 tw_417 tw_p0 (by decide) dX10_strokes_27) cmX10_refuse (fun _ _ _ => rfl) rfl ?_
      exact s_iretH rfl dX10_strokes_30
  · refine s_Aldn 0 rfl 8 dX10_strokes_7 rfl ?_
    refine s_iconst 9 1 (by decide) dX10_strokes_8 rfl ?_
    refine s_cal0 12 (run_V (X := XX10_strokes) rfl clX10 yoX10_refuse rfl tw_415 tw_417 tw_p0 (by decide) dX10_strokes_9) cmX10_refuse (fun _ _ _ => rfl) rfl ?_
    exact s_iretH rfl dX10_strokes_12
def EX10_strokes : List Value → HP → Option (Int32 × HP) := en 1 BX10_strokes_0
theorem cmX10_strokes : CM XX10_strokes EX10_strokes fIH 0 0 := CM.of rfl (by decide) rfl rfl sBX10_strokes_0
theorem yoX10_strokes : YO XX10_strokes 0 0 0 := ⟨tw_995, rfl, tw_1, (by decide +kernel), rfl, rfl⟩
abbrev XX10_weekLater : MX := (yX10_weekLater, cX10_weekLater, 3, (Option.some .long), Cond.code yX10_weekLater cX10_weekLater 3 (Option.some .long) :: WS, { frames := 3, cells := 0, slots := 0, locals := 77 })
def BX10_weekLater_22 : KT Int64 :=
  oCal 4 (some 0) EX0_weekLater fL (oLretP)
set_option maxRecDepth 20000 in
theorem sBX10_weekLater_22 : Snd XX10_weekLater fL 22 (BX10_weekLater_22) (0) (0) := by
  unfold BX10_weekLater_22
  refine s_cal0 25 (run_V (X := XX10_weekLater) rfl clX0 yoX0_weekLater rfl tw_1023 tw_1024 tw_1025 (by decide) dX10_weekLater_22) cmX0_weekLater (fun _ _ _ => rfl) rfl ?_
  exact s_lretP rfl dX10_weekLater_25
def BX10_weekLater_0 : KT Int64 :=
  oAld 0 (oGet 10 7 (oGet 3 0 (oLld 1 (oAld 0 (oGet 10 7 (oGet 3 12 (oAld 0 (oGet 10 7 (oGet 3 10 (oPick [] (BX10_weekLater_22)))))))))))
set_option maxRecDepth 20000 in
theorem sBX10_weekLater_0 : Snd XX10_weekLater fL 0 (BX10_weekLater_0) (0) (0) := by
  unfold BX10_weekLater_0
  refine s_Aldn 0 rfl 1 dX10_weekLater_0 rfl ?_
  refine s_get 10 7 4 clX10 (by decide) tw_356 dX10_weekLater_1 rfl ?_
  refine s_getN 3 0 7 clX3 (by decide) nw_23 dX10_weekLater_4 rfl ?_
  refine s_Lldn 1 rfl 8 dX10_weekLater_7 rfl ?_
  refine s_Aldn 0 rfl 9 dX10_weekLater_8 rfl ?_
  refine s_get 10 7 12 clX10 (by decide) tw_356 dX10_weekLater_9 rfl ?_
  refine s_getN 3 12 15 clX3 (by decide) nw_37 dX10_weekLater_12 rfl ?_
  refine s_Aldn 0 rfl 16 dX10_weekLater_15 rfl ?_
  refine s_get 10 7 19 clX10 (by decide) tw_356 dX10_weekLater_16 rfl ?_
  refine s_getN 3 10 22 clX3 (by decide) nw_33 dX10_weekLater_19 rfl ?_
  exact s_pick (sBX10_weekLater_22)
def EX10_weekLater : List Value → HP → Option Int64 := en 3 BX10_weekLater_0
theorem cmX10_weekLater : CM XX10_weekLater EX10_weekLater fL 0 0 := CM.of rfl (by decide) rfl rfl sBX10_weekLater_0
theorem yoX10_weekLater : YO XX10_weekLater 1 0 0 := ⟨tw_1022, rfl, tw_1, (by decide +kernel), rfl, rfl⟩
abbrev XX10_shut : MX := (yX10_shut, cX10_shut, 8, (Option.some .int), Cond.code yX10_shut cX10_shut 8 (Option.some .int) :: WS, { frames := 4, cells := 0, slots := 0, locals := 99 })
def BX10_shut_65 (k55 : KT (Int32 × HP)) : KT (Int32 × HP) :=
  oCal 2 (some 10) EX10_weekLater fL (oLst 5 (oLld 5 (oLld 3 (oland (oConst (.long 0) (olcmp (oIfne (oInc 7 1 (oPick [0, 3, 5, 7] k55)) (oAld 0 (oIld 7 (oCal 2 (some 10) EX10_answer fIH (oIretH)))))))))))
set_option maxRecDepth 20000 in
theorem sBX10_shut_65 {k55 : KT (Int32 × HP)} (hk55 : Snd XX10_shut fIH 55 k55 0 0) : Snd XX10_shut fIH 65 (BX10_shut_65 k55) (0) (0) := by
  unfold BX10_shut_65
  refine s_cal0 68 (run_V (X := XX10_shut) rfl clX10 yoX10_weekLater rfl tw_1019 tw_1021 tw_p39 (by decide) dX10_shut_65) cmX10_weekLater (fun _ _ _ => rfl) rfl ?_
  refine s_Lst 5 70 (by decide) dX10_shut_68 rfl ?_
  refine s_Lld 5 72 dX10_shut_70 rfl ?_
  refine s_Lldn 3 rfl 73 dX10_shut_72 rfl ?_
  refine s_land 74 dX10_shut_73 rfl ?_
  refine s_lconst 75 0 (by decide) dX10_shut_74 rfl ?_
  refine s_lcmp 76 dX10_shut_75 rfl ?_
  refine s_ifne 86 79 dX10_shut_76 (by decide) rfl ?_ ?_
  · refine s_inc 7 1 89 (by decide) (by decide) dX10_shut_86 rfl ?_
    refine s_goto 55 dX10_shut_89 (by decide) ?_
    exact s_pick hk55
  · refine s_Aldn 0 rfl 80 dX10_shut_79 rfl ?_
    refine s_Ild 7 82 dX10_shut_80 rfl ?_
    refine s_cal0 85 (run_V (X := XX10_shut) rfl clX10 yoX10_answer rfl tw_702 tw_704 tw_p18 (by decide) dX10_shut_82) cmX10_answer (fun _ _ _ => rfl) rfl ?_
    exact s_iretH rfl dX10_shut_85
def BX10_shut_55 (k55 : KT (Int32 × HP)) : KT (Int32 × HP) :=
  oIld 7 (oConst (.int 60) (oCmpgt (oAld 0 (oConst (.int (-2)) (oCal 2 (some 10) EX10_answer fIH (oIretH)))) (oAld 0 (oLld 5 (oPick [0, 3, 7] (BX10_shut_65 k55))))))
set_option maxRecDepth 20000 in
theorem sBX10_shut_55 {k55 : KT (Int32 × HP)} (hk55 : Snd XX10_shut fIH 55 k55 0 0) : Snd XX10_shut fIH 55 (BX10_shut_55 k55) (0) (0) := by
  unfold BX10_shut_55
  refine s_Ild 7 57 dX10_shut_55 rfl ?_
  refine s_bipush 59 60 (by decide) dX10_shut_57 rfl ?_
  refine s_cmpgt 92 62 dX10_shut_59 (by decide) rfl ?_ ?_
  · refine s_Aldn 0 rfl 93 dX10_shut_92 rfl ?_
    refine s_bipush 95 (-2) (by decide) dX10_shut_93 rfl ?_
    refine s_cal0 98 (run_V (X := XX10_shut) rfl clX10 yoX10_answer rfl tw_702 tw_704 tw_p18 (by decide) dX10_shut_95) cmX10_answer (fun _ _ _ => rfl) rfl ?_
    exact s_iretH rfl dX10_shut_98
  · refine s_Aldn 0 rfl 63 dX10_shut_62 rfl ?_
    refine s_Lld 5 65 dX10_shut_63 rfl ?_
    exact s_pick (sBX10_shut_65 hk55)
def BX10_shut_18 : KT (Int32 × HP) :=
  oCal 3 (some 10) EX10_isMown fZ (oIfne (oAld 0 (oGet 10 7 (oGet 3 0 (oIld 1 (oIld 2 (oCal 3 (some 0) EX0_number fI (oCal 1 none EX10_bit fL (oLst 3 (oAld 0 (oGet 10 10 (oLst 5 (oConst (.int 1) (oIst 7 (oPick [0, 3, 5, 7] (lp (BX10_shut_55) FU))))))))))))))) (oAld 0 (oConst (.int 5) (oCal 2 (some 10) EX10_refuse fIH (oIretH)))))
set_option maxRecDepth 20000 in
theorem sBX10_shut_18 : Snd XX10_shut fIH 18 (BX10_shut_18) (0) (0) := by
  unfold BX10_shut_18
  refine s_cal0 21 (run_V (X := XX10_shut) rfl clX10 yoX10_isMown rfl tw_723 tw_725 tw_p20 (by decide) dX10_shut_18) cmX10_isMown (fun _ _ _ => rfl) rfl ?_
  refine s_ifne 30 24 dX10_shut_21 (by decide) rfl ?_ ?_
  · refine s_Aldn 0 rfl 31 dX10_shut_30 rfl ?_
    refine s_get 10 7 34 clX10 (by decide) tw_356 dX10_shut_31 rfl ?_
    refine s_getN 3 0 37 clX3 (by decide) nw_23 dX10_shut_34 rfl ?_
    refine s_Ildn 1 rfl 38 dX10_shut_37 rfl ?_
    refine s_Ildn 2 rfl 39 dX10_shut_38 rfl ?_
    refine s_cal0 42 (run_V (X := XX10_shut) rfl clX0 yoX0_number rfl tw_727 tw_435 tw_436 (by decide) dX10_shut_39) cmX0_number (fun _ _ _ => rfl) rfl ?_
    refine s_cal0 45 (run_S (X := XX10_shut) yoX10_bit tw_1018 tw_432 (by decide) dX10_shut_42) cmX10_bit (fun _ _ _ => rfl) rfl ?_
    refine s_Lstn 3 rfl 46 (by decide) dX10_shut_45 rfl ?_
    refine s_Aldn 0 rfl 47 dX10_shut_46 rfl ?_
    refine s_get 10 10 50 clX10 (by decide) tw_359 dX10_shut_47 rfl ?_
    refine s_Lst 5 52 (by decide) dX10_shut_50 rfl ?_
    refine s_iconst 53 1 (by decide) dX10_shut_52 rfl ?_
    refine s_Ist 7 55 (by decide) dX10_shut_53 rfl ?_
    exact s_pick (s_lp (fun k hk => sBX10_shut_55  hk) FU)
  · refine s_Aldn 0 rfl 25 dX10_shut_24 rfl ?_
    refine s_iconst 26 5 (by decide) dX10_shut_25 rfl ?_
    refine s_cal0 29 (run_V (X := XX10_shut) rfl clX10 yoX10_refuse rfl tw_415 tw_417 tw_p0 (by decide) dX10_shut_26) cmX10_refuse (fun _ _ _ => rfl) rfl ?_
    exact s_iretH rfl dX10_shut_29
def BX10_shut_3 : KT (Int32 × HP) :=
  oCal 3 (some 10) EX10_isCell fZ (oIfne (oAld 0 (oIld 1 (oIld 2 (oPick [0, 1, 2] (BX10_shut_18))))) (oAld 0 (oConst (.int 1) (oCal 2 (some 10) EX10_refuse fIH (oIretH)))))
set_option maxRecDepth 20000 in
theorem sBX10_shut_3 : Snd XX10_shut fIH 3 (BX10_shut_3) (0) (0) := by
  unfold BX10_shut_3
  refine s_cal0 6 (run_V (X := XX10_shut) rfl clX10 yoX10_isCell rfl tw_718 tw_720 tw_p19 (by decide) dX10_shut_3) cmX10_isCell (fun _ _ _ => rfl) rfl ?_
  refine s_ifne 15 9 dX10_shut_6 (by decide) rfl ?_ ?_
  · refine s_Aldn 0 rfl 16 dX10_shut_15 rfl ?_
    refine s_Ildn 1 rfl 17 dX10_shut_16 rfl ?_
    refine s_Ildn 2 rfl 18 dX10_shut_17 rfl ?_
    exact s_pick (sBX10_shut_18)
  · refine s_Aldn 0 rfl 10 dX10_shut_9 rfl ?_
    refine s_iconst 11 1 (by decide) dX10_shut_10 rfl ?_
    refine s_cal0 14 (run_V (X := XX10_shut) rfl clX10 yoX10_refuse rfl tw_415 tw_417 tw_p0 (by decide) dX10_shut_11) cmX10_refuse (fun _ _ _ => rfl) rfl ?_
    exact s_iretH rfl dX10_shut_14
def BX10_shut_0 : KT (Int32 × HP) :=
  oAld 0 (oIld 1 (oIld 2 (oPick [0, 1, 2] (BX10_shut_3))))
set_option maxRecDepth 20000 in
theorem sBX10_shut_0 : Snd XX10_shut fIH 0 (BX10_shut_0) (0) (0) := by
  unfold BX10_shut_0
  refine s_Aldn 0 rfl 1 dX10_shut_0 rfl ?_
  refine s_Ildn 1 rfl 2 dX10_shut_1 rfl ?_
  refine s_Ildn 2 rfl 3 dX10_shut_2 rfl ?_
  exact s_pick (sBX10_shut_3)
def EX10_shut : List Value → HP → Option (Int32 × HP) := en 8 BX10_shut_0
theorem cmX10_shut : CM XX10_shut EX10_shut fIH 0 0 := CM.of rfl (by decide) rfl rfl sBX10_shut_0
theorem yoX10_shut : YO XX10_shut 2 0 0 := ⟨tw_1017, rfl, tw_1, (by decide +kernel), rfl, rfl⟩
abbrev XX10_shutWays : MX := (yX10_shutWays, cX10_shutWays, 8, (Option.some .int), Cond.code yX10_shutWays cX10_shutWays 8 (Option.some .int) :: WS, { frames := 4, cells := 0, slots := 0, locals := 99 })
def BX10_shutWays_93 (k46 : KT (Int32 × HP)) : KT (Int32 × HP) :=
  oCal 2 (some 10) EX10_weekLater fL (oLst 3 (oInc 5 1 (oPick [0, 1, 3, 5] k46)))
set_option maxRecDepth 20000 in
theorem sBX10_shutWays_93 {k46 : KT (Int32 × HP)} (hk46 : Snd XX10_shutWays fIH 46 k46 0 0) : Snd XX10_shutWays fIH 93 (BX10_shutWays_93 k46) (0) (0) := by
  unfold BX10_shutWays_93
  refine s_cal0 96 (run_V (X := XX10_shutWays) rfl clX10 yoX10_weekLater rfl tw_1019 tw_1021 tw_p39 (by decide) dX10_shutWays_93) cmX10_weekLater (fun _ _ _ => rfl) rfl ?_
  refine s_Lstn 3 rfl 97 (by decide) dX10_shutWays_96 rfl ?_
  refine s_inc 5 1 100 (by decide) (by decide) dX10_shutWays_97 rfl ?_
  refine s_goto 46 dX10_shutWays_100 (by decide) ?_
  exact s_pick hk46
def BX10_shutWays_70 (k46 : KT (Int32 × HP)) : KT (Int32 × HP) :=
  oCal 3 (some 0) EX0_flood fL (oLst 6 (oLld 6 (oLld 1 (oland (oConst (.long 0) (olcmp (oIfne (oAld 0 (oLld 3 (oPick [0, 1, 5] (BX10_shutWays_93 k46)))) (oAld 0 (oIld 5 (oCal 2 (some 10) EX10_answer fIH (oIretH)))))))))))
set_option maxRecDepth 20000 in
theorem sBX10_shutWays_70 {k46 : KT (Int32 × HP)} (hk46 : Snd XX10_shutWays fIH 46 k46 0 0) : Snd XX10_shutWays fIH 70 (BX10_shutWays_70 k46) (0) (0) := by
  unfold BX10_shutWays_70
  refine s_cal0 73 (run_V (X := XX10_shutWays) rfl clX0 yoX0_flood rfl tw_1035 tw_752 tw_753 (by decide) dX10_shutWays_70) cmX0_flood (fun _ _ _ => rfl) rfl ?_
  refine s_Lst 6 75 (by decide) dX10_shutWays_73 rfl ?_
  refine s_Lld 6 77 dX10_shutWays_75 rfl ?_
  refine s_Lldn 1 rfl 78 dX10_shutWays_77 rfl ?_
  refine s_land 79 dX10_shutWays_78 rfl ?_
  refine s_lconst 80 0 (by decide) dX10_shutWays_79 rfl ?_
  refine s_lcmp 81 dX10_shutWays_80 rfl ?_
  refine s_ifne 91 84 dX10_shutWays_81 (by decide) rfl ?_ ?_
  · refine s_Aldn 0 rfl 92 dX10_shutWays_91 rfl ?_
    refine s_Lldn 3 rfl 93 dX10_shutWays_92 rfl ?_
    exact s_pick (sBX10_shutWays_93 hk46)
  · refine s_Aldn 0 rfl 85 dX10_shutWays_84 rfl ?_
    refine s_Ild 5 87 dX10_shutWays_85 rfl ?_
    refine s_cal0 90 (run_V (X := XX10_shutWays) rfl clX10 yoX10_answer rfl tw_702 tw_704 tw_p18 (by decide) dX10_shutWays_87) cmX10_answer (fun _ _ _ => rfl) rfl ?_
    exact s_iretH rfl dX10_shutWays_90
def BX10_shutWays_46 (k46 : KT (Int32 × HP)) : KT (Int32 × HP) :=
  oIld 5 (oConst (.int 60) (oCmpgt (oAld 0 (oConst (.int (-2)) (oCal 2 (some 10) EX10_answer fIH (oIretH)))) (oAld 0 (oGet 10 7 (oGet 3 0 (oLld 3 (oAld 0 (oGet 10 7 (oGet 3 12 (oLld 3 (oland (oPick [0, 1, 3, 5] (BX10_shutWays_70 k46)))))))))))))
set_option maxRecDepth 20000 in
theorem sBX10_shutWays_46 {k46 : KT (Int32 × HP)} (hk46 : Snd XX10_shutWays fIH 46 k46 0 0) : Snd XX10_shutWays fIH 46 (BX10_shutWays_46 k46) (0) (0) := by
  unfold BX10_shutWays_46
  refine s_Ild 5 48 dX10_shutWays_46 rfl ?_
  refine s_bipush 50 60 (by decide) dX10_shutWays_48 rfl ?_
  refine s_cmpgt 103 53 dX10_shutWays_50 (by decide) rfl ?_ ?_
  · refine s_Aldn 0 rfl 104 dX10_shutWays_103 rfl ?_
    refine s_bipush 106 (-2) (by decide) dX10_shutWays_104 rfl ?_
    refine s_cal0 109 (run_V (X := XX10_shutWays) rfl clX10 yoX10_answer rfl tw_702 tw_704 tw_p18 (by decide) dX10_shutWays_106) cmX10_answer (fun _ _ _ => rfl) rfl ?_
    exact s_iretH rfl dX10_shutWays_109
  · refine s_Aldn 0 rfl 54 dX10_shutWays_53 rfl ?_
    refine s_get 10 7 57 clX10 (by decide) tw_356 dX10_shutWays_54 rfl ?_
    refine s_getN 3 0 60 clX3 (by decide) nw_23 dX10_shutWays_57 rfl ?_
    refine s_Lldn 3 rfl 61 dX10_shutWays_60 rfl ?_
    refine s_Aldn 0 rfl 62 dX10_shutWays_61 rfl ?_
    refine s_get 10 7 65 clX10 (by decide) tw_356 dX10_shutWays_62 rfl ?_
    refine s_getN 3 12 68 clX3 (by decide) nw_37 dX10_shutWays_65 rfl ?_
    refine s_Lldn 3 rfl 69 dX10_shutWays_68 rfl ?_
    refine s_land 70 dX10_shutWays_69 rfl ?_
    exact s_pick (sBX10_shutWays_70 hk46)
def BX10_shutWays_34 : KT (Int32 × HP) :=
  oCal 1 (some 3) EX3_walkerCells fL (oLst 1 (oAld 0 (oGet 10 10 (oLst 3 (oConst (.int 0) (oIst 5 (oPick [0, 1, 3, 5] (lp (BX10_shutWays_46) FU))))))))
set_option maxRecDepth 20000 in
theorem sBX10_shutWays_34 : Snd XX10_shutWays fIH 34 (BX10_shutWays_34) (0) (0) := by
  unfold BX10_shutWays_34
  refine s_cal0 37 (run_V (X := XX10_shutWays) rfl clX3 yoX3_walkerCells rfl tw_1031 tw_1032 tw_1033 (by decide) dX10_shutWays_34) cmX3_walkerCells (fun _ _ _ => rfl) rfl ?_
  refine s_Lstn 1 rfl 38 (by decide) dX10_shutWays_37 rfl ?_
  refine s_Aldn 0 rfl 39 dX10_shutWays_38 rfl ?_
  refine s_get 10 10 42 clX10 (by decide) tw_359 dX10_shutWays_39 rfl ?_
  refine s_Lstn 3 rfl 43 (by decide) dX10_shutWays_42 rfl ?_
  refine s_iconst 44 0 (by decide) dX10_shutWays_43 rfl ?_
  refine s_Ist 5 46 (by decide) dX10_shutWays_44 rfl ?_
  exact s_pick (s_lp (fun k hk => sBX10_shutWays_46  hk) FU)
def BX10_shutWays_0 : KT (Int32 × HP) :=
  oAld 0 (oGet 10 9 (oIfne (oAld 0 (oGet 10 7 (oGet 3 15 (oIfne (oAld 0 (oGet 10 7 (oPick [0] (BX10_shutWays_34)))) (oAld 0 (oConst (.int 6) (oCal 2 (some 10) EX10_refuse fIH (oIretH)))))))) (oAld 0 (oConst (.int 1) (oCal 2 (some 10) EX10_refuse fIH (oIretH))))))
set_option maxRecDepth 20000 in
theorem sBX10_shutWays_0 : Snd XX10_shutWays fIH 0 (BX10_shutWays_0) (0) (0) := by
  unfold BX10_shutWays_0
  refine s_Aldn 0 rfl 1 dX10_shutWays_0 rfl ?_
  refine s_get 10 9 4 clX10 (by decide) tw_358 dX10_shutWays_1 rfl ?_
  refine s_ifne 13 7 dX10_shutWays_4 (by decide) rfl ?_ ?_
  · refine s_Aldn 0 rfl 14 dX10_shutWays_13 rfl ?_
    refine s_get 10 7 17 clX10 (by decide) tw_356 dX10_shutWays_14 rfl ?_
    refine s_getN 3 15 20 clX3 (by decide) nw_41 dX10_shutWays_17 rfl ?_
    refine s_ifne 30 23 dX10_shutWays_20 (by decide) rfl ?_ ?_
    · refine s_Aldn 0 rfl 31 dX10_shutWays_30 rfl ?_
      refine s_get 10 7 34 clX10 (by decide) tw_356 dX10_shutWays_31 rfl ?_
      exact s_pick (sBX10_shutWays_34)
    · refine s_Aldn 0 rfl 24 dX10_shutWays_23 rfl ?_
      refine s_bipush 26 6 (by decide) dX10_shutWays_24 rfl ?_
      refine s_cal0 29 (run_V (X := XX10_shutWays) rfl clX10 yoX10_refuse rfl tw_415 tw_417 tw_p0 (by decide) dX10_shutWays_26) cmX10_refuse (fun _ _ _ => rfl) rfl ?_
      exact s_iretH rfl dX10_shutWays_29
  · refine s_Aldn 0 rfl 8 dX10_shutWays_7 rfl ?_
    refine s_iconst 9 1 (by decide) dX10_shutWays_8 rfl ?_
    refine s_cal0 12 (run_V (X := XX10_shutWays) rfl clX10 yoX10_refuse rfl tw_415 tw_417 tw_p0 (by decide) dX10_shutWays_9) cmX10_refuse (fun _ _ _ => rfl) rfl ?_
    exact s_iretH rfl dX10_shutWays_12
def EX10_shutWays : List Value → HP → Option (Int32 × HP) := en 8 BX10_shutWays_0
theorem cmX10_shutWays : CM XX10_shutWays EX10_shutWays fIH 0 0 := CM.of rfl (by decide) rfl rfl sBX10_shutWays_0
theorem yoX10_shutWays : YO XX10_shutWays 0 0 0 := ⟨tw_1030, rfl, tw_1, (by decide +kernel), rfl, rfl⟩
abbrev XX10_seen : MX := (yX10_seen, cX10_seen, 3, (Option.some .int), Cond.code yX10_seen cX10_seen 3 (Option.some .int) :: WS, { frames := 3, cells := 0, slots := 0, locals := 74 })
def BX10_seen_39 : KT (Int32 × HP) :=
  oCal 3 (some 0) EX0_seenFromWall fI (oCal 2 (some 10) EX10_answer fIH (oIretH))
set_option maxRecDepth 20000 in
theorem sBX10_seen_39 : Snd XX10_seen fIH 39 (BX10_seen_39) (0) (0) := by
  unfold BX10_seen_39
  refine s_cal0 42 (run_V (X := XX10_seen) rfl clX0 yoX0_seenFromWall rfl tw_1040 tw_1041 tw_1042 (by decide) dX10_seen_39) cmX0_seenFromWall (fun _ _ _ => rfl) rfl ?_
  refine s_cal0 45 (run_V (X := XX10_seen) rfl clX10 yoX10_answer rfl tw_702 tw_704 tw_p18 (by decide) dX10_seen_42) cmX10_answer (fun _ _ _ => rfl) rfl ?_
  exact s_iretH rfl dX10_seen_45
def BX10_seen_3 : KT (Int32 × HP) :=
  oCal 3 (some 10) EX10_isCell fZ (oIfne (oAld 0 (oAld 0 (oGet 10 7 (oGet 3 0 (oAld 0 (oGet 10 10 (oAld 0 (oGet 10 7 (oGet 3 0 (oIld 1 (oIld 2 (oCal 3 (some 0) EX0_number fI (oPick [] (BX10_seen_39)))))))))))))) (oAld 0 (oConst (.int 1) (oCal 2 (some 10) EX10_refuse fIH (oIretH)))))
set_option maxRecDepth 20000 in
theorem sBX10_seen_3 : Snd XX10_seen fIH 3 (BX10_seen_3) (0) (0) := by
  unfold BX10_seen_3
  refine s_cal0 6 (run_V (X := XX10_seen) rfl clX10 yoX10_isCell rfl tw_718 tw_720 tw_p19 (by decide) dX10_seen_3) cmX10_isCell (fun _ _ _ => rfl) rfl ?_
  refine s_ifne 15 9 dX10_seen_6 (by decide) rfl ?_ ?_
  · refine s_Aldn 0 rfl 16 dX10_seen_15 rfl ?_
    refine s_Aldn 0 rfl 17 dX10_seen_16 rfl ?_
    refine s_get 10 7 20 clX10 (by decide) tw_356 dX10_seen_17 rfl ?_
    refine s_getN 3 0 23 clX3 (by decide) nw_23 dX10_seen_20 rfl ?_
    refine s_Aldn 0 rfl 24 dX10_seen_23 rfl ?_
    refine s_get 10 10 27 clX10 (by decide) tw_359 dX10_seen_24 rfl ?_
    refine s_Aldn 0 rfl 28 dX10_seen_27 rfl ?_
    refine s_get 10 7 31 clX10 (by decide) tw_356 dX10_seen_28 rfl ?_
    refine s_getN 3 0 34 clX3 (by decide) nw_23 dX10_seen_31 rfl ?_
    refine s_Ildn 1 rfl 35 dX10_seen_34 rfl ?_
    refine s_Ildn 2 rfl 36 dX10_seen_35 rfl ?_
    refine s_cal0 39 (run_V (X := XX10_seen) rfl clX0 yoX0_number rfl tw_727 tw_435 tw_436 (by decide) dX10_seen_36) cmX0_number (fun _ _ _ => rfl) rfl ?_
    exact s_pick (sBX10_seen_39)
  · refine s_Aldn 0 rfl 10 dX10_seen_9 rfl ?_
    refine s_iconst 11 1 (by decide) dX10_seen_10 rfl ?_
    refine s_cal0 14 (run_V (X := XX10_seen) rfl clX10 yoX10_refuse rfl tw_415 tw_417 tw_p0 (by decide) dX10_seen_11) cmX10_refuse (fun _ _ _ => rfl) rfl ?_
    exact s_iretH rfl dX10_seen_14
def BX10_seen_0 : KT (Int32 × HP) :=
  oAld 0 (oIld 1 (oIld 2 (oPick [0, 1, 2] (BX10_seen_3))))
set_option maxRecDepth 20000 in
theorem sBX10_seen_0 : Snd XX10_seen fIH 0 (BX10_seen_0) (0) (0) := by
  unfold BX10_seen_0
  refine s_Aldn 0 rfl 1 dX10_seen_0 rfl ?_
  refine s_Ildn 1 rfl 2 dX10_seen_1 rfl ?_
  refine s_Ildn 2 rfl 3 dX10_seen_2 rfl ?_
  exact s_pick (sBX10_seen_3)
def EX10_seen : List Value → HP → Option (Int32 × HP) := en 3 BX10_seen_0
theorem cmX10_seen : CM XX10_seen EX10_seen fIH 0 0 := CM.of rfl (by decide) rfl rfl sBX10_seen_0
theorem yoX10_seen : YO XX10_seen 2 0 0 := ⟨tw_1039, rfl, tw_1, (by decide +kernel), rfl, rfl⟩
abbrev XX10_isGateSeen : MX := (yX10_isGateSeen, cX10_isGateSeen, 2, (Option.some .boolean), Cond.code yX10_isGateSeen cX10_isGateSeen 2 (Option.some .boolean) :: WS, { frames := 3, cells := 0, slots := 0, locals := 74 })
def BX10_isGateSeen_19 : KT Bool :=
  oCal 3 (some 0) EX0_seenFromWall fI (oIfeq (oConst (.int 0) (oZretP)) (oConst (.int 1) (oZretP)))
set_option maxRecDepth 20000 in
theorem sBX10_isGateSeen_19 : Snd XX10_isGateSeen fZ 19 (BX10_isGateSeen_19) (0) (0) := by
  unfold BX10_isGateSeen_19
  refine s_cal0 22 (run_V (X := XX10_isGateSeen) rfl clX0 yoX0_seenFromWall rfl tw_1040 tw_1041 tw_1042 (by decide) dX10_isGateSeen_19) cmX0_seenFromWall (fun _ _ _ => rfl) rfl ?_
  refine s_ifeq 29 25 dX10_isGateSeen_22 (by decide) rfl ?_ ?_
  · refine s_iconst 30 0 (by decide) dX10_isGateSeen_29 rfl ?_
    exact s_zretP rfl dX10_isGateSeen_30
  · refine s_iconst 26 1 (by decide) dX10_isGateSeen_25 rfl ?_
    refine s_goto 30 dX10_isGateSeen_26 (by decide) ?_
    exact s_zretP rfl dX10_isGateSeen_30
def BX10_isGateSeen_16 : KT Bool :=
  oCal 2 (some 3) EX3_gateCell fI (oPick [] (BX10_isGateSeen_19))
set_option maxRecDepth 20000 in
theorem sBX10_isGateSeen_16 : Snd XX10_isGateSeen fZ 16 (BX10_isGateSeen_16) (0) (0) := by
  unfold BX10_isGateSeen_16
  refine s_cal0 19 (run_V (X := XX10_isGateSeen) rfl clX3 yoX3_gateCell rfl tw_1056 tw_1057 tw_1058 (by decide) dX10_isGateSeen_16) cmX3_gateCell (fun _ _ _ => rfl) rfl ?_
  exact s_pick (sBX10_isGateSeen_19)
def BX10_isGateSeen_0 : KT Bool :=
  oAld 0 (oGet 10 7 (oGet 3 0 (oAld 0 (oGet 10 10 (oAld 0 (oGet 10 7 (oIld 1 (oPick [] (BX10_isGateSeen_16)))))))))
set_option maxRecDepth 20000 in
theorem sBX10_isGateSeen_0 : Snd XX10_isGateSeen fZ 0 (BX10_isGateSeen_0) (0) (0) := by
  unfold BX10_isGateSeen_0
  refine s_Aldn 0 rfl 1 dX10_isGateSeen_0 rfl ?_
  refine s_get 10 7 4 clX10 (by decide) tw_356 dX10_isGateSeen_1 rfl ?_
  refine s_getN 3 0 7 clX3 (by decide) nw_23 dX10_isGateSeen_4 rfl ?_
  refine s_Aldn 0 rfl 8 dX10_isGateSeen_7 rfl ?_
  refine s_get 10 10 11 clX10 (by decide) tw_359 dX10_isGateSeen_8 rfl ?_
  refine s_Aldn 0 rfl 12 dX10_isGateSeen_11 rfl ?_
  refine s_get 10 7 15 clX10 (by decide) tw_356 dX10_isGateSeen_12 rfl ?_
  refine s_Ildn 1 rfl 16 dX10_isGateSeen_15 rfl ?_
  exact s_pick (sBX10_isGateSeen_16)
def EX10_isGateSeen : List Value → HP → Option Bool := en 2 BX10_isGateSeen_0
theorem cmX10_isGateSeen : CM XX10_isGateSeen EX10_isGateSeen fZ 0 0 := CM.of rfl (by decide) rfl rfl sBX10_isGateSeen_0
theorem yoX10_isGateSeen : YO XX10_isGateSeen 1 0 0 := ⟨tw_1055, rfl, tw_1, (by decide +kernel), rfl, rfl⟩
abbrev XX10_gatesSeen : MX := (yX10_gatesSeen, cX10_gatesSeen, 3, (Option.some .int), Cond.code yX10_gatesSeen cX10_gatesSeen 3 (Option.some .int) :: WS, { frames := 4, cells := 0, slots := 0, locals := 95 })
def BX10_gatesSeen_30 (k17 : KT (Int32 × HP)) : KT (Int32 × HP) :=
  oCal 2 (some 10) EX10_isGateSeen fZ (oIfeq (oInc 2 1 (oPick [0, 1, 2] k17)) (oIld 1 (oConst (.int 1) (oIld 2 (oishl (oior (oIst 1 (oInc 2 1 (oPick [0, 1, 2] k17)))))))))
set_option maxRecDepth 20000 in
theorem sBX10_gatesSeen_30 {k17 : KT (Int32 × HP)} (hk17 : Snd XX10_gatesSeen fIH 17 k17 0 0) : Snd XX10_gatesSeen fIH 30 (BX10_gatesSeen_30 k17) (0) (0) := by
  unfold BX10_gatesSeen_30
  refine s_cal0 33 (run_V (X := XX10_gatesSeen) rfl clX10 yoX10_isGateSeen rfl tw_1052 tw_1054 tw_p41 (by decide) dX10_gatesSeen_30) cmX10_isGateSeen (fun _ _ _ => rfl) rfl ?_
  refine s_ifeq 42 36 dX10_gatesSeen_33 (by decide) rfl ?_ ?_
  · refine s_inc 2 1 45 (by decide) (by decide) dX10_gatesSeen_42 rfl ?_
    refine s_goto 17 dX10_gatesSeen_45 (by decide) ?_
    exact s_pick hk17
  · refine s_Ildn 1 rfl 37 dX10_gatesSeen_36 rfl ?_
    refine s_iconst 38 1 (by decide) dX10_gatesSeen_37 rfl ?_
    refine s_Ildn 2 rfl 39 dX10_gatesSeen_38 rfl ?_
    refine s_ishl 40 dX10_gatesSeen_39 rfl ?_
    refine s_ior 41 dX10_gatesSeen_40 rfl ?_
    refine s_Istn 1 rfl 42 (by decide) dX10_gatesSeen_41 rfl ?_
    refine s_inc 2 1 45 (by decide) (by decide) dX10_gatesSeen_42 rfl ?_
    refine s_goto 17 dX10_gatesSeen_45 (by decide) ?_
    exact s_pick hk17
def BX10_gatesSeen_17 (k17 : KT (Int32 × HP)) : KT (Int32 × HP) :=
  oIld 2 (oAld 0 (oGet 10 7 (oGet 3 11 (oCmpge (oAld 0 (oIld 1 (oCal 2 (some 10) EX10_answer fIH (oIretH)))) (oAld 0 (oIld 2 (oPick [0, 1, 2] (BX10_gatesSeen_30 k17))))))))
set_option maxRecDepth 20000 in
theorem sBX10_gatesSeen_17 {k17 : KT (Int32 × HP)} (hk17 : Snd XX10_gatesSeen fIH 17 k17 0 0) : Snd XX10_gatesSeen fIH 17 (BX10_gatesSeen_17 k17) (0) (0) := by
  unfold BX10_gatesSeen_17
  refine s_Ildn 2 rfl 18 dX10_gatesSeen_17 rfl ?_
  refine s_Aldn 0 rfl 19 dX10_gatesSeen_18 rfl ?_
  refine s_get 10 7 22 clX10 (by decide) tw_356 dX10_gatesSeen_19 rfl ?_
  refine s_getN 3 11 25 clX3 (by decide) nw_34 dX10_gatesSeen_22 rfl ?_
  refine s_cmpge 48 28 dX10_gatesSeen_25 (by decide) rfl ?_ ?_
  · refine s_Aldn 0 rfl 49 dX10_gatesSeen_48 rfl ?_
    refine s_Ildn 1 rfl 50 dX10_gatesSeen_49 rfl ?_
    refine s_cal0 53 (run_V (X := XX10_gatesSeen) rfl clX10 yoX10_answer rfl tw_702 tw_704 tw_p18 (by decide) dX10_gatesSeen_50) cmX10_answer (fun _ _ _ => rfl) rfl ?_
    exact s_iretH rfl dX10_gatesSeen_53
  · refine s_Aldn 0 rfl 29 dX10_gatesSeen_28 rfl ?_
    refine s_Ildn 2 rfl 30 dX10_gatesSeen_29 rfl ?_
    exact s_pick (sBX10_gatesSeen_30 hk17)
def BX10_gatesSeen_0 : KT (Int32 × HP) :=
  oAld 0 (oGet 10 9 (oIfne (oConst (.int 0) (oIst 1 (oConst (.int 0) (oIst 2 (oPick [0, 1, 2] (lp (BX10_gatesSeen_17) FU)))))) (oAld 0 (oConst (.int 1) (oCal 2 (some 10) EX10_refuse fIH (oIretH))))))
set_option maxRecDepth 20000 in
theorem sBX10_gatesSeen_0 : Snd XX10_gatesSeen fIH 0 (BX10_gatesSeen_0) (0) (0) := by
  unfold BX10_gatesSeen_0
  refine s_Aldn 0 rfl 1 dX10_gatesSeen_0 rfl ?_
  refine s_get 10 9 4 clX10 (by decide) tw_358 dX10_gatesSeen_1 rfl ?_
  refine s_ifne 13 7 dX10_gatesSeen_4 (by decide) rfl ?_ ?_
  · refine s_iconst 14 0 (by decide) dX10_gatesSeen_13 rfl ?_
    refine s_Istn 1 rfl 15 (by decide) dX10_gatesSeen_14 rfl ?_
    refine s_iconst 16 0 (by decide) dX10_gatesSeen_15 rfl ?_
    refine s_Istn 2 rfl 17 (by decide) dX10_gatesSeen_16 rfl ?_
    exact s_pick (s_lp (fun k hk => sBX10_gatesSeen_17  hk) FU)
  · refine s_Aldn 0 rfl 8 dX10_gatesSeen_7 rfl ?_
    refine s_iconst 9 1 (by decide) dX10_gatesSeen_8 rfl ?_
    refine s_cal0 12 (run_V (X := XX10_gatesSeen) rfl clX10 yoX10_refuse rfl tw_415 tw_417 tw_p0 (by decide) dX10_gatesSeen_9) cmX10_refuse (fun _ _ _ => rfl) rfl ?_
    exact s_iretH rfl dX10_gatesSeen_12
def EX10_gatesSeen : List Value → HP → Option (Int32 × HP) := en 3 BX10_gatesSeen_0
theorem cmX10_gatesSeen : CM XX10_gatesSeen EX10_gatesSeen fIH 0 0 := CM.of rfl (by decide) rfl rfl sBX10_gatesSeen_0
theorem yoX10_gatesSeen : YO XX10_gatesSeen 0 0 0 := ⟨tw_1051, rfl, tw_1, (by decide +kernel), rfl, rfl⟩
abbrev XX10_placesByShouts : MX := (yX10_placesByShouts, cX10_placesByShouts, 4, (Option.some .long), Cond.code yX10_placesByShouts cX10_placesByShouts 4 (Option.some .long) :: WS, { frames := 2, cells := 0, slots := 0, locals := 55 })
def BX10_placesByShouts_46 (k7 : KT Int64) : KT Int64 :=
  oCal 4 (some 0) EX0_cellsAtSteps fL (oland (oLst 1 (oInc 3 1 (oPick [0, 1, 3] k7))))
set_option maxRecDepth 20000 in
theorem sBX10_placesByShouts_46 {k7 : KT Int64} (hk7 : Snd XX10_placesByShouts fL 7 k7 0 0) : Snd XX10_placesByShouts fL 46 (BX10_placesByShouts_46 k7) (0) (0) := by
  unfold BX10_placesByShouts_46
  refine s_cal0 49 (run_V (X := XX10_placesByShouts) rfl clX0 yoX0_cellsAtSteps rfl tw_1076 tw_1077 tw_1078 (by decide) dX10_placesByShouts_46) cmX0_cellsAtSteps (fun _ _ _ => rfl) rfl ?_
  refine s_land 50 dX10_placesByShouts_49 rfl ?_
  refine s_Lstn 1 rfl 51 (by decide) dX10_placesByShouts_50 rfl ?_
  refine s_inc 3 1 54 (by decide) (by decide) dX10_placesByShouts_51 rfl ?_
  refine s_goto 7 dX10_placesByShouts_54 (by decide) ?_
  exact s_pick hk7
def BX10_placesByShouts_43 (k7 : KT Int64) : KT Int64 :=
  oCal 2 (some 3) EX3_heardSteps fI (oPick [0, 3] (BX10_placesByShouts_46 k7))
set_option maxRecDepth 20000 in
theorem sBX10_placesByShouts_43 {k7 : KT Int64} (hk7 : Snd XX10_placesByShouts fL 7 k7 0 0) : Snd XX10_placesByShouts fL 43 (BX10_placesByShouts_43 k7) (0) (0) := by
  unfold BX10_placesByShouts_43
  refine s_cal0 46 (run_V (X := XX10_placesByShouts) rfl clX3 yoX3_heardSteps rfl tw_1072 tw_1073 tw_1074 (by decide) dX10_placesByShouts_43) cmX3_heardSteps (fun _ _ _ => rfl) rfl ?_
  exact s_pick (sBX10_placesByShouts_46 hk7)
def BX10_placesByShouts_35 (k7 : KT Int64) : KT Int64 :=
  oCal 2 (some 3) EX3_heardCell fI (oAld 0 (oGet 10 7 (oIld 3 (oPick [0, 3] (BX10_placesByShouts_43 k7)))))
set_option maxRecDepth 20000 in
theorem sBX10_placesByShouts_35 {k7 : KT Int64} (hk7 : Snd XX10_placesByShouts fL 7 k7 0 0) : Snd XX10_placesByShouts fL 35 (BX10_placesByShouts_35 k7) (0) (0) := by
  unfold BX10_placesByShouts_35
  refine s_cal0 38 (run_V (X := XX10_placesByShouts) rfl clX3 yoX3_heardCell rfl tw_1068 tw_1069 tw_1070 (by decide) dX10_placesByShouts_35) cmX3_heardCell (fun _ _ _ => rfl) rfl ?_
  refine s_Aldn 0 rfl 39 dX10_placesByShouts_38 rfl ?_
  refine s_get 10 7 42 clX10 (by decide) tw_356 dX10_placesByShouts_39 rfl ?_
  refine s_Ildn 3 rfl 43 dX10_placesByShouts_42 rfl ?_
  exact s_pick (sBX10_placesByShouts_43 hk7)
def BX10_placesByShouts_7 (k7 : KT Int64) : KT Int64 :=
  oIld 3 (oAld 0 (oGet 10 7 (oGet 3 14 (oCmpge (oLld 1 (oLretP)) (oLld 1 (oAld 0 (oGet 10 7 (oGet 3 0 (oAld 0 (oGet 10 10 (oAld 0 (oGet 10 7 (oIld 3 (oPick [0, 3] (BX10_placesByShouts_35 k7)))))))))))))))
set_option maxRecDepth 20000 in
theorem sBX10_placesByShouts_7 {k7 : KT Int64} (hk7 : Snd XX10_placesByShouts fL 7 k7 0 0) : Snd XX10_placesByShouts fL 7 (BX10_placesByShouts_7 k7) (0) (0) := by
  unfold BX10_placesByShouts_7
  refine s_Ildn 3 rfl 8 dX10_placesByShouts_7 rfl ?_
  refine s_Aldn 0 rfl 9 dX10_placesByShouts_8 rfl ?_
  refine s_get 10 7 12 clX10 (by decide) tw_356 dX10_placesByShouts_9 rfl ?_
  refine s_getN 3 14 15 clX3 (by decide) nw_40 dX10_placesByShouts_12 rfl ?_
  refine s_cmpge 57 18 dX10_placesByShouts_15 (by decide) rfl ?_ ?_
  · refine s_Lldn 1 rfl 58 dX10_placesByShouts_57 rfl ?_
    exact s_lretP rfl dX10_placesByShouts_58
  · refine s_Lldn 1 rfl 19 dX10_placesByShouts_18 rfl ?_
    refine s_Aldn 0 rfl 20 dX10_placesByShouts_19 rfl ?_
    refine s_get 10 7 23 clX10 (by decide) tw_356 dX10_placesByShouts_20 rfl ?_
    refine s_getN 3 0 26 clX3 (by decide) nw_23 dX10_placesByShouts_23 rfl ?_
    refine s_Aldn 0 rfl 27 dX10_placesByShouts_26 rfl ?_
    refine s_get 10 10 30 clX10 (by decide) tw_359 dX10_placesByShouts_27 rfl ?_
    refine s_Aldn 0 rfl 31 dX10_placesByShouts_30 rfl ?_
    refine s_get 10 7 34 clX10 (by decide) tw_356 dX10_placesByShouts_31 rfl ?_
    refine s_Ildn 3 rfl 35 dX10_placesByShouts_34 rfl ?_
    exact s_pick (sBX10_placesByShouts_35 hk7)
def BX10_placesByShouts_0 : KT Int64 :=
  oAld 0 (oGet 10 10 (oLst 1 (oConst (.int 0) (oIst 3 (oPick [0, 1, 3] (lp (BX10_placesByShouts_7) FU))))))
set_option maxRecDepth 20000 in
theorem sBX10_placesByShouts_0 : Snd XX10_placesByShouts fL 0 (BX10_placesByShouts_0) (0) (0) := by
  unfold BX10_placesByShouts_0
  refine s_Aldn 0 rfl 1 dX10_placesByShouts_0 rfl ?_
  refine s_get 10 10 4 clX10 (by decide) tw_359 dX10_placesByShouts_1 rfl ?_
  refine s_Lstn 1 rfl 5 (by decide) dX10_placesByShouts_4 rfl ?_
  refine s_iconst 6 0 (by decide) dX10_placesByShouts_5 rfl ?_
  refine s_Istn 3 rfl 7 (by decide) dX10_placesByShouts_6 rfl ?_
  exact s_pick (s_lp (fun k hk => sBX10_placesByShouts_7  hk) FU)
def EX10_placesByShouts : List Value → HP → Option Int64 := en 4 BX10_placesByShouts_0
theorem cmX10_placesByShouts : CM XX10_placesByShouts EX10_placesByShouts fL 0 0 := CM.of rfl (by decide) rfl rfl sBX10_placesByShouts_0
theorem yoX10_placesByShouts : YO XX10_placesByShouts 0 0 0 := ⟨tw_1067, rfl, tw_1, (by decide +kernel), rfl, rfl⟩
abbrev XX10_places : MX := (yX10_places, cX10_places, 1, (Option.some .int), Cond.code yX10_places cX10_places 1 (Option.some .int) :: WS, { frames := 3, cells := 0, slots := 0, locals := 78 })
def BX10_places_9 : KT (Int32 × HP) :=
  oCal 1 (some 10) EX10_placesByShouts fL (oCal 1 none EJ13_bitCount_95d88 fI (oCal 2 (some 10) EX10_answer fIH (oIretH)))
set_option maxRecDepth 20000 in
theorem sBX10_places_9 : Snd XX10_places fIH 9 (BX10_places_9) (0) (0) := by
  unfold BX10_places_9
  refine s_cal0 12 (run_V (X := XX10_places) rfl clX10 yoX10_placesByShouts rfl tw_1064 tw_1066 tw_p42 (by decide) dX10_places_9) cmX10_placesByShouts (fun _ _ _ => rfl) rfl ?_
  refine s_cal0 15 (run_S (X := XX10_places) yoJ13_bitCount_95d88 tw_696 tw_697 (by decide) dX10_places_12) cmJ13_bitCount_95d88 (fun _ _ _ => rfl) rfl ?_
  refine s_cal0 18 (run_V (X := XX10_places) rfl clX10 yoX10_answer rfl tw_702 tw_704 tw_p18 (by decide) dX10_places_15) cmX10_answer (fun _ _ _ => rfl) rfl ?_
  refine s_goto 26 dX10_places_18 (by decide) ?_
  exact s_iretH rfl dX10_places_26
def BX10_places_0 : KT (Int32 × HP) :=
  oAld 0 (oGet 10 9 (oIfeq (oAld 0 (oConst (.int 1) (oCal 2 (some 10) EX10_refuse fIH (oIretH)))) (oAld 0 (oAld 0 (oPick [] (BX10_places_9))))))
set_option maxRecDepth 20000 in
theorem sBX10_places_0 : Snd XX10_places fIH 0 (BX10_places_0) (0) (0) := by
  unfold BX10_places_0
  refine s_Aldn 0 rfl 1 dX10_places_0 rfl ?_
  refine s_get 10 9 4 clX10 (by decide) tw_358 dX10_places_1 rfl ?_
  refine s_ifeq 21 7 dX10_places_4 (by decide) rfl ?_ ?_
  · refine s_Aldn 0 rfl 22 dX10_places_21 rfl ?_
    refine s_iconst 23 1 (by decide) dX10_places_22 rfl ?_
    refine s_cal0 26 (run_V (X := XX10_places) rfl clX10 yoX10_refuse rfl tw_415 tw_417 tw_p0 (by decide) dX10_places_23) cmX10_refuse (fun _ _ _ => rfl) rfl ?_
    exact s_iretH rfl dX10_places_26
  · refine s_Aldn 0 rfl 8 dX10_places_7 rfl ?_
    refine s_Aldn 0 rfl 9 dX10_places_8 rfl ?_
    exact s_pick (sBX10_places_9)
def EX10_places : List Value → HP → Option (Int32 × HP) := en 1 BX10_places_0
theorem cmX10_places : CM XX10_places EX10_places fIH 0 0 := CM.of rfl (by decide) rfl rfl sBX10_places_0
theorem yoX10_places : YO XX10_places 0 0 0 := ⟨tw_1063, rfl, tw_1, (by decide +kernel), rfl, rfl⟩
abbrev XX10_place : MX := (yX10_place, cX10_place, 3, (Option.some .int), Cond.code yX10_place cX10_place 3 (Option.some .int) :: WS, { frames := 3, cells := 0, slots := 0, locals := 78 })
def BX10_place_20 : KT (Int32 × HP) :=
  oIst 2 (oIld 2 (oConst (.int (-2)) (oCmpne (oAld 0 (oIld 2 (oCal 2 (some 10) EX10_answer fIH (oIretH)))) (oAld 0 (oConst (.int 1) (oCal 2 (some 10) EX10_refuse fIH (oIretH)))))))
set_option maxRecDepth 20000 in
theorem sBX10_place_20 : Snd XX10_place fIH 20 (BX10_place_20) (0) (0) := by
  unfold BX10_place_20
  refine s_Istn 2 rfl 21 (by decide) dX10_place_20 rfl ?_
  refine s_Ildn 2 rfl 22 dX10_place_21 rfl ?_
  refine s_bipush 24 (-2) (by decide) dX10_place_22 rfl ?_
  refine s_cmpne 35 27 dX10_place_24 (by decide) rfl ?_ ?_
  · refine s_Aldn 0 rfl 36 dX10_place_35 rfl ?_
    refine s_Ildn 2 rfl 37 dX10_place_36 rfl ?_
    refine s_cal0 40 (run_V (X := XX10_place) rfl clX10 yoX10_answer rfl tw_702 tw_704 tw_p18 (by decide) dX10_place_37) cmX10_answer (fun _ _ _ => rfl) rfl ?_
    exact s_iretH rfl dX10_place_40
  · refine s_Aldn 0 rfl 28 dX10_place_27 rfl ?_
    refine s_iconst 29 1 (by decide) dX10_place_28 rfl ?_
    refine s_cal0 32 (run_V (X := XX10_place) rfl clX10 yoX10_refuse rfl tw_415 tw_417 tw_p0 (by decide) dX10_place_29) cmX10_refuse (fun _ _ _ => rfl) rfl ?_
    refine s_goto 40 dX10_place_32 (by decide) ?_
    exact s_iretH rfl dX10_place_40
def BX10_place_12 : KT (Int32 × HP) :=
  oCal 2 none EX10_nthCell fI (oPick [0] (BX10_place_20))
set_option maxRecDepth 20000 in
theorem sBX10_place_12 : Snd XX10_place fIH 12 (BX10_place_12) (0) (0) := by
  unfold BX10_place_12
  refine s_cal0 15 (run_S (X := XX10_place) yoX10_nthCell tw_968 tw_969 (by decide) dX10_place_12) cmX10_nthCell (fun _ _ _ => rfl) rfl ?_
  refine s_goto 20 dX10_place_15 (by decide) ?_
  exact s_pick (sBX10_place_20)
def BX10_place_8 : KT (Int32 × HP) :=
  oCal 1 (some 10) EX10_placesByShouts fL (oIld 1 (oPick [0] (BX10_place_12)))
set_option maxRecDepth 20000 in
theorem sBX10_place_8 : Snd XX10_place fIH 8 (BX10_place_8) (0) (0) := by
  unfold BX10_place_8
  refine s_cal0 11 (run_V (X := XX10_place) rfl clX10 yoX10_placesByShouts rfl tw_1064 tw_1066 tw_p42 (by decide) dX10_place_8) cmX10_placesByShouts (fun _ _ _ => rfl) rfl ?_
  refine s_Ildn 1 rfl 12 dX10_place_11 rfl ?_
  exact s_pick (sBX10_place_12)
def BX10_place_0 : KT (Int32 × HP) :=
  oAld 0 (oGet 10 9 (oIfeq (oConst (.int (-2)) (oPick [0] (BX10_place_20))) (oAld 0 (oPick [0, 1] (BX10_place_8)))))
set_option maxRecDepth 20000 in
theorem sBX10_place_0 : Snd XX10_place fIH 0 (BX10_place_0) (0) (0) := by
  unfold BX10_place_0
  refine s_Aldn 0 rfl 1 dX10_place_0 rfl ?_
  refine s_get 10 9 4 clX10 (by decide) tw_358 dX10_place_1 rfl ?_
  refine s_ifeq 18 7 dX10_place_4 (by decide) rfl ?_ ?_
  · refine s_bipush 20 (-2) (by decide) dX10_place_18 rfl ?_
    exact s_pick (sBX10_place_20)
  · refine s_Aldn 0 rfl 8 dX10_place_7 rfl ?_
    exact s_pick (sBX10_place_8)
def EX10_place : List Value → HP → Option (Int32 × HP) := en 3 BX10_place_0
theorem cmX10_place : CM XX10_place EX10_place fIH 0 0 := CM.of rfl (by decide) rfl rfl sBX10_place_0
theorem yoX10_place : YO XX10_place 1 0 0 := ⟨tw_1083, rfl, tw_1, (by decide +kernel), rfl, rfl⟩
abbrev XX10_paidIfAllGetOut : MX := (yX10_paidIfAllGetOut, cX10_paidIfAllGetOut, 5, (Option.some .int), Cond.code yX10_paidIfAllGetOut cX10_paidIfAllGetOut 5 (Option.some .int) :: WS, { frames := 5, cells := 0, slots := 0, locals := 119 })
def BX10_paidIfAllGetOut_55 (k5 : KT (Int32 × HP)) : KT (Int32 × HP) :=
  oCal 1 (some 8) EX8_countShouts fI (oiadd (oIst 3 (oInc 4 1 (oPick [0, 1, 3, 4] k5))))
set_option maxRecDepth 20000 in
theorem sBX10_paidIfAllGetOut_55 {k5 : KT (Int32 × HP)} (hk5 : Snd XX10_paidIfAllGetOut fIH 5 k5 0 0) : Snd XX10_paidIfAllGetOut fIH 55 (BX10_paidIfAllGetOut_55 k5) (0) (0) := by
  unfold BX10_paidIfAllGetOut_55
  refine s_cal0 58 (run_V (X := XX10_paidIfAllGetOut) rfl clX8 yoX8_countShouts rfl tw_920 tw_921 tw_922 (by decide) dX10_paidIfAllGetOut_55) cmX8_countShouts (fun _ _ _ => rfl) rfl ?_
  refine s_iadd 59 dX10_paidIfAllGetOut_58 rfl ?_
  refine s_Istn 3 rfl 60 (by decide) dX10_paidIfAllGetOut_59 rfl ?_
  refine s_inc 4 1 63 (by decide) (by decide) dX10_paidIfAllGetOut_60 rfl ?_
  refine s_goto 5 dX10_paidIfAllGetOut_63 (by decide) ?_
  exact s_pick hk5
def BX10_paidIfAllGetOut_32 (k5 : KT (Int32 × HP)) : KT (Int32 × HP) :=
  oCal 5 (some 8) EX8_goTillDusk fVH (oAld 0 (oGet 10 4 (oCal 1 (some 8) EX8_outIn fI (oConst (.int (-2)) (oCmpne (oIld 3 (oAld 0 (oGet 10 4 (oPick [0, 1, 4] (BX10_paidIfAllGetOut_55 k5))))) (oConst (.int (-2)) (oIretH)))))))
set_option maxRecDepth 20000 in
theorem sBX10_paidIfAllGetOut_32 {k5 : KT (Int32 × HP)} (hk5 : Snd XX10_paidIfAllGetOut fIH 5 k5 0 0) : Snd XX10_paidIfAllGetOut fIH 32 (BX10_paidIfAllGetOut_32 k5) (0) (0) := by
  unfold BX10_paidIfAllGetOut_32
  refine s_cal0 35 (run_V (X := XX10_paidIfAllGetOut) rfl clX8 yoX8_goTillDusk rfl tw_821 tw_822 tw_823 (by decide) dX10_paidIfAllGetOut_32) cmX8_goTillDusk (fun _ _ _ => rfl) rfl ?_
  refine s_Aldn 0 rfl 36 dX10_paidIfAllGetOut_35 rfl ?_
  refine s_get 10 4 39 clX10 (by decide) tw_353 dX10_paidIfAllGetOut_36 rfl ?_
  refine s_cal0 42 (run_V (X := XX10_paidIfAllGetOut) rfl clX8 yoX8_outIn rfl tw_886 tw_887 tw_888 (by decide) dX10_paidIfAllGetOut_39) cmX8_outIn (fun _ _ _ => rfl) rfl ?_
  refine s_bipush 44 (-2) (by decide) dX10_paidIfAllGetOut_42 rfl ?_
  refine s_cmpne 50 47 dX10_paidIfAllGetOut_44 (by decide) rfl ?_ ?_
  · refine s_Ildn 3 rfl 51 dX10_paidIfAllGetOut_50 rfl ?_
    refine s_Aldn 0 rfl 52 dX10_paidIfAllGetOut_51 rfl ?_
    refine s_get 10 4 55 clX10 (by decide) tw_353 dX10_paidIfAllGetOut_52 rfl ?_
    exact s_pick (sBX10_paidIfAllGetOut_55 hk5)
  · refine s_bipush 49 (-2) (by decide) dX10_paidIfAllGetOut_47 rfl ?_
    exact s_iretH rfl dX10_paidIfAllGetOut_49
def BX10_paidIfAllGetOut_5 (k5 : KT (Int32 × HP)) : KT (Int32 × HP) :=
  oIld 4 (oAld 0 (oGet 10 7 (oGet 3 15 (oCmpge (oAld 0 (oGet 10 7 (oGet 3 9 (oIld 3 (oimul (oIretH)))))) (oAld 0 (oGet 10 4 (oAld 0 (oGet 10 7 (oIld 4 (oLld 1 (oAld 0 (oGet 10 11 (oPick [0, 1, 3, 4] (BX10_paidIfAllGetOut_32 k5))))))))))))))
set_option maxRecDepth 20000 in
theorem sBX10_paidIfAllGetOut_5 {k5 : KT (Int32 × HP)} (hk5 : Snd XX10_paidIfAllGetOut fIH 5 k5 0 0) : Snd XX10_paidIfAllGetOut fIH 5 (BX10_paidIfAllGetOut_5 k5) (0) (0) := by
  unfold BX10_paidIfAllGetOut_5
  refine s_Ild 4 7 dX10_paidIfAllGetOut_5 rfl ?_
  refine s_Aldn 0 rfl 8 dX10_paidIfAllGetOut_7 rfl ?_
  refine s_get 10 7 11 clX10 (by decide) tw_356 dX10_paidIfAllGetOut_8 rfl ?_
  refine s_getN 3 15 14 clX3 (by decide) nw_41 dX10_paidIfAllGetOut_11 rfl ?_
  refine s_cmpge 66 17 dX10_paidIfAllGetOut_14 (by decide) rfl ?_ ?_
  · refine s_Aldn 0 rfl 67 dX10_paidIfAllGetOut_66 rfl ?_
    refine s_get 10 7 70 clX10 (by decide) tw_356 dX10_paidIfAllGetOut_67 rfl ?_
    refine s_getN 3 9 73 clX3 (by decide) nw_32 dX10_paidIfAllGetOut_70 rfl ?_
    refine s_Ildn 3 rfl 74 dX10_paidIfAllGetOut_73 rfl ?_
    refine s_imul 75 dX10_paidIfAllGetOut_74 rfl ?_
    exact s_iretH rfl dX10_paidIfAllGetOut_75
  · refine s_Aldn 0 rfl 18 dX10_paidIfAllGetOut_17 rfl ?_
    refine s_get 10 4 21 clX10 (by decide) tw_353 dX10_paidIfAllGetOut_18 rfl ?_
    refine s_Aldn 0 rfl 22 dX10_paidIfAllGetOut_21 rfl ?_
    refine s_get 10 7 25 clX10 (by decide) tw_356 dX10_paidIfAllGetOut_22 rfl ?_
    refine s_Ild 4 27 dX10_paidIfAllGetOut_25 rfl ?_
    refine s_Lldn 1 rfl 28 dX10_paidIfAllGetOut_27 rfl ?_
    refine s_Aldn 0 rfl 29 dX10_paidIfAllGetOut_28 rfl ?_
    refine s_get 10 11 32 clX10 (by decide) tw_360 dX10_paidIfAllGetOut_29 rfl ?_
    exact s_pick (sBX10_paidIfAllGetOut_32 hk5)
def BX10_paidIfAllGetOut_0 : KT (Int32 × HP) :=
  oConst (.int 0) (oIst 3 (oConst (.int 0) (oIst 4 (oPick [0, 1, 3, 4] (lp (BX10_paidIfAllGetOut_5) FU)))))
set_option maxRecDepth 20000 in
theorem sBX10_paidIfAllGetOut_0 : Snd XX10_paidIfAllGetOut fIH 0 (BX10_paidIfAllGetOut_0) (0) (0) := by
  unfold BX10_paidIfAllGetOut_0
  refine s_iconst 1 0 (by decide) dX10_paidIfAllGetOut_0 rfl ?_
  refine s_Istn 3 rfl 2 (by decide) dX10_paidIfAllGetOut_1 rfl ?_
  refine s_iconst 3 0 (by decide) dX10_paidIfAllGetOut_2 rfl ?_
  refine s_Ist 4 5 (by decide) dX10_paidIfAllGetOut_3 rfl ?_
  exact s_pick (s_lp (fun k hk => sBX10_paidIfAllGetOut_5  hk) FU)
def EX10_paidIfAllGetOut : List Value → HP → Option (Int32 × HP) := en 5 BX10_paidIfAllGetOut_0
theorem cmX10_paidIfAllGetOut : CM XX10_paidIfAllGetOut EX10_paidIfAllGetOut fIH 0 0 := CM.of rfl (by decide) rfl rfl sBX10_paidIfAllGetOut_0
theorem yoX10_paidIfAllGetOut : YO XX10_paidIfAllGetOut 1 0 0 := ⟨tw_1095, rfl, tw_1, (by decide +kernel), rfl, rfl⟩
abbrev XX10_bestCell : MX := (yX10_bestCell, cX10_bestCell, 7, (Option.some .int), Cond.code yX10_bestCell cX10_bestCell 7 (Option.some .int) :: WS, { frames := 6, cells := 0, slots := 0, locals := 143 })
def BX10_bestCell_88 (k45 : KT (Int32 × HP)) : KT (Int32 × HP) :=
  oIst 6 (oIld 6 (oIld 4 (oCmple (oInc 5 1 (oPick [0, 1, 3, 4, 5] k45)) (oIld 6 (oIst 4 (oIld 5 (oIst 3 (oInc 5 1 (oPick [0, 1, 3, 4, 5] k45)))))))))
set_option maxRecDepth 20000 in
theorem sBX10_bestCell_88 {k45 : KT (Int32 × HP)} (hk45 : Snd XX10_bestCell fIH 45 k45 0 0) : Snd XX10_bestCell fIH 88 (BX10_bestCell_88 k45) (0) (0) := by
  unfold BX10_bestCell_88
  refine s_Ist 6 90 (by decide) dX10_bestCell_88 rfl ?_
  refine s_Ild 6 92 dX10_bestCell_90 rfl ?_
  refine s_Ild 4 94 dX10_bestCell_92 rfl ?_
  refine s_cmple 104 97 dX10_bestCell_94 (by decide) rfl ?_ ?_
  · refine s_inc 5 1 107 (by decide) (by decide) dX10_bestCell_104 rfl ?_
    refine s_goto 45 dX10_bestCell_107 (by decide) ?_
    exact s_pick hk45
  · refine s_Ild 6 99 dX10_bestCell_97 rfl ?_
    refine s_Ist 4 101 (by decide) dX10_bestCell_99 rfl ?_
    refine s_Ild 5 103 dX10_bestCell_101 rfl ?_
    refine s_Istn 3 rfl 104 (by decide) dX10_bestCell_103 rfl ?_
    refine s_inc 5 1 107 (by decide) (by decide) dX10_bestCell_104 rfl ?_
    refine s_goto 45 dX10_bestCell_107 (by decide) ?_
    exact s_pick hk45
def BX10_bestCell_80 (k45 : KT (Int32 × HP)) : KT (Int32 × HP) :=
  oCal 2 (some 10) EX10_paidIfAllGetOut fIH (oPick [0, 1, 3, 4, 5] (BX10_bestCell_88 k45))
set_option maxRecDepth 20000 in
theorem sBX10_bestCell_80 {k45 : KT (Int32 × HP)} (hk45 : Snd XX10_bestCell fIH 45 k45 0 0) : Snd XX10_bestCell fIH 80 (BX10_bestCell_80 k45) (0) (0) := by
  unfold BX10_bestCell_80
  refine s_cal0 83 (run_V (X := XX10_bestCell) rfl clX10 yoX10_paidIfAllGetOut rfl tw_1092 tw_1094 tw_p44 (by decide) dX10_bestCell_80) cmX10_paidIfAllGetOut (fun _ _ _ => rfl) rfl ?_
  refine s_goto 88 dX10_bestCell_83 (by decide) ?_
  exact s_pick (sBX10_bestCell_88 hk45)
def BX10_bestCell_63 (k45 : KT (Int32 × HP)) : KT (Int32 × HP) :=
  oCal 2 none EX10_isIn fZ (oIfeq (oConst (.int (-2)) (oPick [0, 1, 3, 4, 5] (BX10_bestCell_88 k45))) (oAld 0 (oAld 0 (oGet 10 10 (oIld 5 (oCal 1 none EX10_bit fL (olxor (oPick [0, 1, 3, 4, 5] (BX10_bestCell_80 k45)))))))))
set_option maxRecDepth 20000 in
theorem sBX10_bestCell_63 {k45 : KT (Int32 × HP)} (hk45 : Snd XX10_bestCell fIH 45 k45 0 0) : Snd XX10_bestCell fIH 63 (BX10_bestCell_63 k45) (0) (0) := by
  unfold BX10_bestCell_63
  refine s_cal0 66 (run_S (X := XX10_bestCell) yoX10_isIn tw_728 tw_631 (by decide) dX10_bestCell_63) cmX10_isIn (fun _ _ _ => rfl) rfl ?_
  refine s_ifeq 86 69 dX10_bestCell_66 (by decide) rfl ?_ ?_
  · refine s_bipush 88 (-2) (by decide) dX10_bestCell_86 rfl ?_
    exact s_pick (sBX10_bestCell_88 hk45)
  · refine s_Aldn 0 rfl 70 dX10_bestCell_69 rfl ?_
    refine s_Aldn 0 rfl 71 dX10_bestCell_70 rfl ?_
    refine s_get 10 10 74 clX10 (by decide) tw_359 dX10_bestCell_71 rfl ?_
    refine s_Ild 5 76 dX10_bestCell_74 rfl ?_
    refine s_cal0 79 (run_S (X := XX10_bestCell) yoX10_bit tw_1018 tw_432 (by decide) dX10_bestCell_76) cmX10_bit (fun _ _ _ => rfl) rfl ?_
    refine s_lxor 80 dX10_bestCell_79 rfl ?_
    exact s_pick (sBX10_bestCell_80 hk45)
def BX10_bestCell_45 (k45 : KT (Int32 × HP)) : KT (Int32 × HP) :=
  oIld 5 (oAld 0 (oGet 10 7 (oGet 3 0 (oGet 0 3 (oCmpge (oIld 3 (oIretH)) (oLld 1 (oIld 5 (oPick [0, 1, 3, 4, 5] (BX10_bestCell_63 k45)))))))))
set_option maxRecDepth 20000 in
theorem sBX10_bestCell_45 {k45 : KT (Int32 × HP)} (hk45 : Snd XX10_bestCell fIH 45 k45 0 0) : Snd XX10_bestCell fIH 45 (BX10_bestCell_45 k45) (0) (0) := by
  unfold BX10_bestCell_45
  refine s_Ild 5 47 dX10_bestCell_45 rfl ?_
  refine s_Aldn 0 rfl 48 dX10_bestCell_47 rfl ?_
  refine s_get 10 7 51 clX10 (by decide) tw_356 dX10_bestCell_48 rfl ?_
  refine s_getN 3 0 54 clX3 (by decide) nw_23 dX10_bestCell_51 rfl ?_
  refine s_getN 0 3 57 clX0 (by decide) nw_5 dX10_bestCell_54 rfl ?_
  refine s_cmpge 110 60 dX10_bestCell_57 (by decide) rfl ?_ ?_
  · refine s_Ildn 3 rfl 111 dX10_bestCell_110 rfl ?_
    exact s_iretH rfl dX10_bestCell_111
  · refine s_Lldn 1 rfl 61 dX10_bestCell_60 rfl ?_
    refine s_Ild 5 63 dX10_bestCell_61 rfl ?_
    exact s_pick (sBX10_bestCell_63 hk45)
def BX10_bestCell_26 : KT (Int32 × HP) :=
  oCal 1 (some 3) EX3_walkerCells fL (oConst (.long (-1)) (olxor (oland (oLst 1 (oConst (.int (-2)) (oIst 3 (oConst (.int (-2)) (oIst 4 (oConst (.int 0) (oIst 5 (oPick [0, 1, 3, 4, 5] (lp (BX10_bestCell_45) FU))))))))))))
set_option maxRecDepth 20000 in
theorem sBX10_bestCell_26 : Snd XX10_bestCell fIH 26 (BX10_bestCell_26) (0) (0) := by
  unfold BX10_bestCell_26
  refine s_cal0 29 (run_V (X := XX10_bestCell) rfl clX3 yoX3_walkerCells rfl tw_1031 tw_1032 tw_1033 (by decide) dX10_bestCell_26) cmX3_walkerCells (fun _ _ _ => rfl) rfl ?_
  refine s_ldc2 32 (-1) tw_983 dX10_bestCell_29 rfl ?_
  refine s_lxor 33 dX10_bestCell_32 rfl ?_
  refine s_land 34 dX10_bestCell_33 rfl ?_
  refine s_Lstn 1 rfl 35 (by decide) dX10_bestCell_34 rfl ?_
  refine s_bipush 37 (-2) (by decide) dX10_bestCell_35 rfl ?_
  refine s_Istn 3 rfl 38 (by decide) dX10_bestCell_37 rfl ?_
  refine s_bipush 40 (-2) (by decide) dX10_bestCell_38 rfl ?_
  refine s_Ist 4 42 (by decide) dX10_bestCell_40 rfl ?_
  refine s_iconst 43 0 (by decide) dX10_bestCell_42 rfl ?_
  refine s_Ist 5 45 (by decide) dX10_bestCell_43 rfl ?_
  exact s_pick (s_lp (fun k hk => sBX10_bestCell_45  hk) FU)
def BX10_bestCell_0 : KT (Int32 × HP) :=
  oAld 0 (oGet 10 7 (oGet 3 0 (oGet 0 4 (oAld 0 (oGet 10 7 (oGet 3 12 (oConst (.long (-1)) (olxor (oland (oAld 0 (oGet 10 7 (oPick [0] (BX10_bestCell_26)))))))))))))
set_option maxRecDepth 20000 in
theorem sBX10_bestCell_0 : Snd XX10_bestCell fIH 0 (BX10_bestCell_0) (0) (0) := by
  unfold BX10_bestCell_0
  refine s_Aldn 0 rfl 1 dX10_bestCell_0 rfl ?_
  refine s_get 10 7 4 clX10 (by decide) tw_356 dX10_bestCell_1 rfl ?_
  refine s_getN 3 0 7 clX3 (by decide) nw_23 dX10_bestCell_4 rfl ?_
  refine s_getN 0 4 10 clX0 (by decide) nw_6 dX10_bestCell_7 rfl ?_
  refine s_Aldn 0 rfl 11 dX10_bestCell_10 rfl ?_
  refine s_get 10 7 14 clX10 (by decide) tw_356 dX10_bestCell_11 rfl ?_
  refine s_getN 3 12 17 clX3 (by decide) nw_37 dX10_bestCell_14 rfl ?_
  refine s_ldc2 20 (-1) tw_983 dX10_bestCell_17 rfl ?_
  refine s_lxor 21 dX10_bestCell_20 rfl ?_
  refine s_land 22 dX10_bestCell_21 rfl ?_
  refine s_Aldn 0 rfl 23 dX10_bestCell_22 rfl ?_
  refine s_get 10 7 26 clX10 (by decide) tw_356 dX10_bestCell_23 rfl ?_
  exact s_pick (sBX10_bestCell_26)
def EX10_bestCell : List Value → HP → Option (Int32 × HP) := en 7 BX10_bestCell_0
theorem cmX10_bestCell : CM XX10_bestCell EX10_bestCell fIH 0 0 := CM.of rfl (by decide) rfl rfl sBX10_bestCell_0
theorem yoX10_bestCell : YO XX10_bestCell 0 0 0 := ⟨tw_1091, rfl, tw_1, (by decide +kernel), rfl, rfl⟩
abbrev XX10_best : MX := (yX10_best, cX10_best, 1, (Option.some .int), Cond.code yX10_best cX10_best 1 (Option.some .int) :: WS, { frames := 7, cells := 0, slots := 0, locals := 169 })
def BX10_best_9 : KT (Int32 × HP) :=
  oCal 1 (some 10) EX10_bestCell fIH (oCal 2 (some 10) EX10_answer fIH (oIretH))
set_option maxRecDepth 20000 in
theorem sBX10_best_9 : Snd XX10_best fIH 9 (BX10_best_9) (0) (0) := by
  unfold BX10_best_9
  refine s_cal0 12 (run_V (X := XX10_best) rfl clX10 yoX10_bestCell rfl tw_1088 tw_1090 tw_p43 (by decide) dX10_best_9) cmX10_bestCell (fun _ _ _ => rfl) rfl ?_
  refine s_cal0 15 (run_V (X := XX10_best) rfl clX10 yoX10_answer rfl tw_702 tw_704 tw_p18 (by decide) dX10_best_12) cmX10_answer (fun _ _ _ => rfl) rfl ?_
  refine s_goto 23 dX10_best_15 (by decide) ?_
  exact s_iretH rfl dX10_best_23
def BX10_best_0 : KT (Int32 × HP) :=
  oAld 0 (oGet 10 9 (oIfeq (oAld 0 (oConst (.int 1) (oCal 2 (some 10) EX10_refuse fIH (oIretH)))) (oAld 0 (oAld 0 (oPick [] (BX10_best_9))))))
set_option maxRecDepth 20000 in
theorem sBX10_best_0 : Snd XX10_best fIH 0 (BX10_best_0) (0) (0) := by
  unfold BX10_best_0
  refine s_Aldn 0 rfl 1 dX10_best_0 rfl ?_
  refine s_get 10 9 4 clX10 (by decide) tw_358 dX10_best_1 rfl ?_
  refine s_ifeq 18 7 dX10_best_4 (by decide) rfl ?_ ?_
  · refine s_Aldn 0 rfl 19 dX10_best_18 rfl ?_
    refine s_iconst 20 1 (by decide) dX10_best_19 rfl ?_
    refine s_cal0 23 (run_V (X := XX10_best) rfl clX10 yoX10_refuse rfl tw_415 tw_417 tw_p0 (by decide) dX10_best_20) cmX10_refuse (fun _ _ _ => rfl) rfl ?_
    exact s_iretH rfl dX10_best_23
  · refine s_Aldn 0 rfl 8 dX10_best_7 rfl ?_
    refine s_Aldn 0 rfl 9 dX10_best_8 rfl ?_
    exact s_pick (sBX10_best_9)
def EX10_best : List Value → HP → Option (Int32 × HP) := en 1 BX10_best_0
theorem cmX10_best : CM XX10_best EX10_best fIH 0 0 := CM.of rfl (by decide) rfl rfl sBX10_best_0
theorem yoX10_best : YO XX10_best 0 0 0 := ⟨tw_1087, rfl, tw_1, (by decide +kernel), rfl, rfl⟩
abbrev XX10_bestPaid : MX := (yX10_bestPaid, cX10_bestPaid, 2, (Option.some .int), Cond.code yX10_bestPaid cX10_bestPaid 2 (Option.some .int) :: WS, { frames := 7, cells := 0, slots := 0, locals := 169 })
def BX10_bestPaid_42 : KT (Int32 × HP) :=
  oCal 2 (some 10) EX10_paidIfAllGetOut fIH (oCal 2 (some 10) EX10_answer fIH (oIretH))
set_option maxRecDepth 20000 in
theorem sBX10_bestPaid_42 : Snd XX10_bestPaid fIH 42 (BX10_bestPaid_42) (0) (0) := by
  unfold BX10_bestPaid_42
  refine s_cal0 45 (run_V (X := XX10_bestPaid) rfl clX10 yoX10_paidIfAllGetOut rfl tw_1092 tw_1094 tw_p44 (by decide) dX10_bestPaid_42) cmX10_paidIfAllGetOut (fun _ _ _ => rfl) rfl ?_
  refine s_cal0 48 (run_V (X := XX10_bestPaid) rfl clX10 yoX10_answer rfl tw_702 tw_704 tw_p18 (by decide) dX10_bestPaid_45) cmX10_answer (fun _ _ _ => rfl) rfl ?_
  exact s_iretH rfl dX10_bestPaid_48
def BX10_bestPaid_14 : KT (Int32 × HP) :=
  oCal 1 (some 10) EX10_bestCell fIH (oIst 1 (oIld 1 (oConst (.int (-2)) (oCmpne (oAld 0 (oAld 0 (oAld 0 (oGet 10 10 (oIld 1 (oCal 1 none EX10_bit fL (olxor (oPick [] (BX10_bestPaid_42))))))))) (oAld 0 (oConst (.int 6) (oCal 2 (some 10) EX10_refuse fIH (oIretH))))))))
set_option maxRecDepth 20000 in
theorem sBX10_bestPaid_14 : Snd XX10_bestPaid fIH 14 (BX10_bestPaid_14) (0) (0) := by
  unfold BX10_bestPaid_14
  refine s_cal0 17 (run_V (X := XX10_bestPaid) rfl clX10 yoX10_bestCell rfl tw_1088 tw_1090 tw_p43 (by decide) dX10_bestPaid_14) cmX10_bestCell (fun _ _ _ => rfl) rfl ?_
  refine s_Istn 1 rfl 18 (by decide) dX10_bestPaid_17 rfl ?_
  refine s_Ildn 1 rfl 19 dX10_bestPaid_18 rfl ?_
  refine s_bipush 21 (-2) (by decide) dX10_bestPaid_19 rfl ?_
  refine s_cmpne 31 24 dX10_bestPaid_21 (by decide) rfl ?_ ?_
  · refine s_Aldn 0 rfl 32 dX10_bestPaid_31 rfl ?_
    refine s_Aldn 0 rfl 33 dX10_bestPaid_32 rfl ?_
    refine s_Aldn 0 rfl 34 dX10_bestPaid_33 rfl ?_
    refine s_get 10 10 37 clX10 (by decide) tw_359 dX10_bestPaid_34 rfl ?_
    refine s_Ildn 1 rfl 38 dX10_bestPaid_37 rfl ?_
    refine s_cal0 41 (run_S (X := XX10_bestPaid) yoX10_bit tw_1018 tw_432 (by decide) dX10_bestPaid_38) cmX10_bit (fun _ _ _ => rfl) rfl ?_
    refine s_lxor 42 dX10_bestPaid_41 rfl ?_
    exact s_pick (sBX10_bestPaid_42)
  · refine s_Aldn 0 rfl 25 dX10_bestPaid_24 rfl ?_
    refine s_bipush 27 6 (by decide) dX10_bestPaid_25 rfl ?_
    refine s_cal0 30 (run_V (X := XX10_bestPaid) rfl clX10 yoX10_refuse rfl tw_415 tw_417 tw_p0 (by decide) dX10_bestPaid_27) cmX10_refuse (fun _ _ _ => rfl) rfl ?_
    exact s_iretH rfl dX10_bestPaid_30
def BX10_bestPaid_0 : KT (Int32 × HP) :=
  oAld 0 (oGet 10 9 (oIfne (oAld 0 (oPick [0] (BX10_bestPaid_14))) (oAld 0 (oConst (.int 1) (oCal 2 (some 10) EX10_refuse fIH (oIretH))))))
set_option maxRecDepth 20000 in
theorem sBX10_bestPaid_0 : Snd XX10_bestPaid fIH 0 (BX10_bestPaid_0) (0) (0) := by
  unfold BX10_bestPaid_0
  refine s_Aldn 0 rfl 1 dX10_bestPaid_0 rfl ?_
  refine s_get 10 9 4 clX10 (by decide) tw_358 dX10_bestPaid_1 rfl ?_
  refine s_ifne 13 7 dX10_bestPaid_4 (by decide) rfl ?_ ?_
  · refine s_Aldn 0 rfl 14 dX10_bestPaid_13 rfl ?_
    exact s_pick (sBX10_bestPaid_14)
  · refine s_Aldn 0 rfl 8 dX10_bestPaid_7 rfl ?_
    refine s_iconst 9 1 (by decide) dX10_bestPaid_8 rfl ?_
    refine s_cal0 12 (run_V (X := XX10_bestPaid) rfl clX10 yoX10_refuse rfl tw_415 tw_417 tw_p0 (by decide) dX10_bestPaid_9) cmX10_refuse (fun _ _ _ => rfl) rfl ?_
    exact s_iretH rfl dX10_bestPaid_12
def EX10_bestPaid : List Value → HP → Option (Int32 × HP) := en 2 BX10_bestPaid_0
theorem cmX10_bestPaid : CM XX10_bestPaid EX10_bestPaid fIH 0 0 := CM.of rfl (by decide) rfl rfl sBX10_bestPaid_0
theorem yoX10_bestPaid : YO XX10_bestPaid 0 0 0 := ⟨tw_1099, rfl, tw_1, (by decide +kernel), rfl, rfl⟩
abbrev XX10_rejected : MX := (yX10_rejected, cX10_rejected, 2, (Option.some .boolean), Cond.code yX10_rejected cX10_rejected 2 (Option.some .boolean) :: WS, { frames := 0, cells := 0, slots := 0, locals := 0 })
def BX10_rejected_0 : KT (Bool × HP) :=
  oAld 0 (oIld 1 (oPut 10 12 .int (oConst (.int 0) (oZretH))))
set_option maxRecDepth 20000 in
theorem sBX10_rejected_0 : Snd XX10_rejected fZH 0 (BX10_rejected_0) (0) (0) := by
  unfold BX10_rejected_0
  refine s_Aldn 0 rfl 1 dX10_rejected_0 rfl ?_
  refine s_Ildn 1 rfl 2 dX10_rejected_1 rfl ?_
  refine s_put 10 12 5 clX10 (by decide) rfl rfl pZH tw_361 dX10_rejected_2 rfl ?_
  refine s_iconst 6 0 (by decide) dX10_rejected_5 rfl ?_
  exact s_zretH rfl dX10_rejected_6
def EX10_rejected : List Value → HP → Option (Bool × HP) := en 2 BX10_rejected_0
theorem cmX10_rejected : CM XX10_rejected EX10_rejected fZH 0 0 := CM.of rfl (by decide) rfl rfl sBX10_rejected_0
theorem yoX10_rejected : YO XX10_rejected 1 0 0 := ⟨tw_1107, rfl, tw_1, (by decide +kernel), rfl, rfl⟩
abbrev XX10_act : MX := (yX10_act, cX10_act, 3, none, Cond.code yX10_act cX10_act 3 none :: WS, { frames := 2, cells := 0, slots := 0, locals := 43 })
def BX10_act_12 : KT HP :=
  oCal 3 (some 1) EX1_keepAct fVH (oAld 0 (oLld 1 (oPut 10 10 .long (oVretH))))
set_option maxRecDepth 20000 in
theorem sBX10_act_12 : Snd XX10_act fVH 12 (BX10_act_12) (0) (0) := by
  unfold BX10_act_12
  refine s_cal0 15 (run_V (X := XX10_act) rfl clX1 yoX1_keepAct rfl tw_1112 tw_1113 tw_1114 (by decide) dX10_act_12) cmX1_keepAct (fun _ _ _ => rfl) rfl ?_
  refine s_Aldn 0 rfl 16 dX10_act_15 rfl ?_
  refine s_Lldn 1 rfl 17 dX10_act_16 rfl ?_
  refine s_put 10 10 20 clX10 (by decide) rfl rfl pVH tw_359 dX10_act_17 rfl ?_
  exact s_vretH rfl dX10_act_20
def BX10_act_0 : KT HP :=
  oAld 0 (oGet 10 2 (oAld 0 (oGet 10 10 (oAld 0 (oGet 10 11 (oPick [0, 1] (BX10_act_12)))))))
set_option maxRecDepth 20000 in
theorem sBX10_act_0 : Snd XX10_act fVH 0 (BX10_act_0) (0) (0) := by
  unfold BX10_act_0
  refine s_Aldn 0 rfl 1 dX10_act_0 rfl ?_
  refine s_get 10 2 4 clX10 (by decide) tw_351 dX10_act_1 rfl ?_
  refine s_Aldn 0 rfl 5 dX10_act_4 rfl ?_
  refine s_get 10 10 8 clX10 (by decide) tw_359 dX10_act_5 rfl ?_
  refine s_Aldn 0 rfl 9 dX10_act_8 rfl ?_
  refine s_get 10 11 12 clX10 (by decide) tw_360 dX10_act_9 rfl ?_
  exact s_pick (sBX10_act_12)
def EX10_act : List Value → HP → Option HP := en 3 BX10_act_0
theorem cmX10_act : CM XX10_act EX10_act fVH 0 0 := CM.of rfl (by decide) rfl rfl sBX10_act_0
theorem yoX10_act : YO XX10_act 1 0 0 := ⟨tw_1111, rfl, tw_1, (by decide +kernel), rfl, rfl⟩
abbrev XX10_accepted : MX := (yX10_accepted, cX10_accepted, 1, (Option.some .boolean), Cond.code yX10_accepted cX10_accepted 1 (Option.some .boolean) :: WS, { frames := 0, cells := 0, slots := 0, locals := 0 })
def BX10_accepted_0 : KT (Bool × HP) :=
  oAld 0 (oConst (.int 0) (oPut 10 12 .int (oConst (.int 1) (oZretH))))
set_option maxRecDepth 20000 in
theorem sBX10_accepted_0 : Snd XX10_accepted fZH 0 (BX10_accepted_0) (0) (0) := by
  unfold BX10_accepted_0
  refine s_Aldn 0 rfl 1 dX10_accepted_0 rfl ?_
  refine s_iconst 2 0 (by decide) dX10_accepted_1 rfl ?_
  refine s_put 10 12 5 clX10 (by decide) rfl rfl pZH tw_361 dX10_accepted_2 rfl ?_
  refine s_iconst 6 1 (by decide) dX10_accepted_5 rfl ?_
  exact s_zretH rfl dX10_accepted_6
def EX10_accepted : List Value → HP → Option (Bool × HP) := en 1 BX10_accepted_0
theorem cmX10_accepted : CM XX10_accepted EX10_accepted fZH 0 0 := CM.of rfl (by decide) rfl rfl sBX10_accepted_0
theorem yoX10_accepted : YO XX10_accepted 0 0 0 := ⟨tw_1122, rfl, tw_1, (by decide +kernel), rfl, rfl⟩
abbrev XX10_mow : MX := (yX10_mow, cX10_mow, 3, (Option.some .boolean), Cond.code yX10_mow cX10_mow 3 (Option.some .boolean) :: WS, { frames := 3, cells := 0, slots := 0, locals := 65 })
def BX10_mow_51 : KT (Bool × HP) :=
  oCal 2 (some 10) EX10_act fVH (oAld 0 (oCal 1 (some 10) EX10_accepted fZH (oZretH)))
set_option maxRecDepth 20000 in
theorem sBX10_mow_51 : Snd XX10_mow fZH 51 (BX10_mow_51) (0) (0) := by
  unfold BX10_mow_51
  refine s_cal0 54 (run_V (X := XX10_mow) rfl clX10 yoX10_act rfl tw_1108 tw_1110 tw_p46 (by decide) dX10_mow_51) cmX10_act (fun _ _ _ => rfl) rfl ?_
  refine s_Aldn 0 rfl 55 dX10_mow_54 rfl ?_
  refine s_cal0 58 (run_V (X := XX10_mow) rfl clX10 yoX10_accepted rfl tw_1119 tw_1121 tw_p47 (by decide) dX10_mow_55) cmX10_accepted (fun _ _ _ => rfl) rfl ?_
  exact s_zretH rfl dX10_mow_58
def BX10_mow_18 : KT (Bool × HP) :=
  oCal 3 (some 10) EX10_isMown fZ (oIfeq (oAld 0 (oAld 0 (oGet 10 10 (oAld 0 (oGet 10 7 (oGet 3 0 (oIld 1 (oIld 2 (oCal 3 (some 0) EX0_number fI (oCal 1 none EX10_bit fL (olor (oPick [0] (BX10_mow_51))))))))))))) (oAld 0 (oConst (.int 5) (oCal 2 (some 10) EX10_rejected fZH (oZretH)))))
set_option maxRecDepth 20000 in
theorem sBX10_mow_18 : Snd XX10_mow fZH 18 (BX10_mow_18) (0) (0) := by
  unfold BX10_mow_18
  refine s_cal0 21 (run_V (X := XX10_mow) rfl clX10 yoX10_isMown rfl tw_723 tw_725 tw_p20 (by decide) dX10_mow_18) cmX10_isMown (fun _ _ _ => rfl) rfl ?_
  refine s_ifeq 30 24 dX10_mow_21 (by decide) rfl ?_ ?_
  · refine s_Aldn 0 rfl 31 dX10_mow_30 rfl ?_
    refine s_Aldn 0 rfl 32 dX10_mow_31 rfl ?_
    refine s_get 10 10 35 clX10 (by decide) tw_359 dX10_mow_32 rfl ?_
    refine s_Aldn 0 rfl 36 dX10_mow_35 rfl ?_
    refine s_get 10 7 39 clX10 (by decide) tw_356 dX10_mow_36 rfl ?_
    refine s_getN 3 0 42 clX3 (by decide) nw_23 dX10_mow_39 rfl ?_
    refine s_Ildn 1 rfl 43 dX10_mow_42 rfl ?_
    refine s_Ildn 2 rfl 44 dX10_mow_43 rfl ?_
    refine s_cal0 47 (run_V (X := XX10_mow) rfl clX0 yoX0_number rfl tw_727 tw_435 tw_436 (by decide) dX10_mow_44) cmX0_number (fun _ _ _ => rfl) rfl ?_
    refine s_cal0 50 (run_S (X := XX10_mow) yoX10_bit tw_1018 tw_432 (by decide) dX10_mow_47) cmX10_bit (fun _ _ _ => rfl) rfl ?_
    refine s_lor 51 dX10_mow_50 rfl ?_
    exact s_pick (sBX10_mow_51)
  · refine s_Aldn 0 rfl 25 dX10_mow_24 rfl ?_
    refine s_iconst 26 5 (by decide) dX10_mow_25 rfl ?_
    refine s_cal0 29 (run_V (X := XX10_mow) rfl clX10 yoX10_rejected rfl tw_1104 tw_1106 tw_p45 (by decide) dX10_mow_26) cmX10_rejected (fun _ _ _ => rfl) rfl ?_
    exact s_zretH rfl dX10_mow_29
def BX10_mow_3 : KT (Bool × HP) :=
  oCal 3 (some 10) EX10_isCell fZ (oIfne (oAld 0 (oIld 1 (oIld 2 (oPick [0, 1, 2] (BX10_mow_18))))) (oAld 0 (oConst (.int 1) (oCal 2 (some 10) EX10_rejected fZH (oZretH)))))
set_option maxRecDepth 20000 in
theorem sBX10_mow_3 : Snd XX10_mow fZH 3 (BX10_mow_3) (0) (0) := by
  unfold BX10_mow_3
  refine s_cal0 6 (run_V (X := XX10_mow) rfl clX10 yoX10_isCell rfl tw_718 tw_720 tw_p19 (by decide) dX10_mow_3) cmX10_isCell (fun _ _ _ => rfl) rfl ?_
  refine s_ifne 15 9 dX10_mow_6 (by decide) rfl ?_ ?_
  · refine s_Aldn 0 rfl 16 dX10_mow_15 rfl ?_
    refine s_Ildn 1 rfl 17 dX10_mow_16 rfl ?_
    refine s_Ildn 2 rfl 18 dX10_mow_17 rfl ?_
    exact s_pick (sBX10_mow_18)
  · refine s_Aldn 0 rfl 10 dX10_mow_9 rfl ?_
    refine s_iconst 11 1 (by decide) dX10_mow_10 rfl ?_
    refine s_cal0 14 (run_V (X := XX10_mow) rfl clX10 yoX10_rejected rfl tw_1104 tw_1106 tw_p45 (by decide) dX10_mow_11) cmX10_rejected (fun _ _ _ => rfl) rfl ?_
    exact s_zretH rfl dX10_mow_14
def BX10_mow_0 : KT (Bool × HP) :=
  oAld 0 (oIld 1 (oIld 2 (oPick [0, 1, 2] (BX10_mow_3))))
set_option maxRecDepth 20000 in
theorem sBX10_mow_0 : Snd XX10_mow fZH 0 (BX10_mow_0) (0) (0) := by
  unfold BX10_mow_0
  refine s_Aldn 0 rfl 1 dX10_mow_0 rfl ?_
  refine s_Ildn 1 rfl 2 dX10_mow_1 rfl ?_
  refine s_Ildn 2 rfl 3 dX10_mow_2 rfl ?_
  exact s_pick (sBX10_mow_3)
def EX10_mow : List Value → HP → Option (Bool × HP) := en 3 BX10_mow_0
theorem cmX10_mow : CM XX10_mow EX10_mow fZH 0 0 := CM.of rfl (by decide) rfl rfl sBX10_mow_0
theorem yoX10_mow : YO XX10_mow 2 0 0 := ⟨tw_1103, rfl, tw_1, (by decide +kernel), rfl, rfl⟩
abbrev XX10_stand : MX := (yX10_stand, cX10_stand, 3, (Option.some .boolean), Cond.code yX10_stand cX10_stand 3 (Option.some .boolean) :: WS, { frames := 3, cells := 0, slots := 0, locals := 65 })
def BX10_stand_55 : KT (Bool × HP) :=
  oCal 2 (some 10) EX10_act fVH (oAld 0 (oCal 1 (some 10) EX10_accepted fZH (oZretH)))
set_option maxRecDepth 20000 in
theorem sBX10_stand_55 : Snd XX10_stand fZH 55 (BX10_stand_55) (0) (0) := by
  unfold BX10_stand_55
  refine s_cal0 58 (run_V (X := XX10_stand) rfl clX10 yoX10_act rfl tw_1108 tw_1110 tw_p46 (by decide) dX10_stand_55) cmX10_act (fun _ _ _ => rfl) rfl ?_
  refine s_Aldn 0 rfl 59 dX10_stand_58 rfl ?_
  refine s_cal0 62 (run_V (X := XX10_stand) rfl clX10 yoX10_accepted rfl tw_1119 tw_1121 tw_p47 (by decide) dX10_stand_59) cmX10_accepted (fun _ _ _ => rfl) rfl ?_
  exact s_zretH rfl dX10_stand_62
def BX10_stand_18 : KT (Bool × HP) :=
  oCal 3 (some 10) EX10_isMown fZ (oIfne (oAld 0 (oAld 0 (oGet 10 10 (oAld 0 (oGet 10 7 (oGet 3 0 (oIld 1 (oIld 2 (oCal 3 (some 0) EX0_number fI (oCal 1 none EX10_bit fL (oConst (.long (-1)) (olxor (oland (oPick [0] (BX10_stand_55))))))))))))))) (oAld 0 (oConst (.int 5) (oCal 2 (some 10) EX10_rejected fZH (oZretH)))))
set_option maxRecDepth 20000 in
theorem sBX10_stand_18 : Snd XX10_stand fZH 18 (BX10_stand_18) (0) (0) := by
  unfold BX10_stand_18
  refine s_cal0 21 (run_V (X := XX10_stand) rfl clX10 yoX10_isMown rfl tw_723 tw_725 tw_p20 (by decide) dX10_stand_18) cmX10_isMown (fun _ _ _ => rfl) rfl ?_
  refine s_ifne 30 24 dX10_stand_21 (by decide) rfl ?_ ?_
  · refine s_Aldn 0 rfl 31 dX10_stand_30 rfl ?_
    refine s_Aldn 0 rfl 32 dX10_stand_31 rfl ?_
    refine s_get 10 10 35 clX10 (by decide) tw_359 dX10_stand_32 rfl ?_
    refine s_Aldn 0 rfl 36 dX10_stand_35 rfl ?_
    refine s_get 10 7 39 clX10 (by decide) tw_356 dX10_stand_36 rfl ?_
    refine s_getN 3 0 42 clX3 (by decide) nw_23 dX10_stand_39 rfl ?_
    refine s_Ildn 1 rfl 43 dX10_stand_42 rfl ?_
    refine s_Ildn 2 rfl 44 dX10_stand_43 rfl ?_
    refine s_cal0 47 (run_V (X := XX10_stand) rfl clX0 yoX0_number rfl tw_727 tw_435 tw_436 (by decide) dX10_stand_44) cmX0_number (fun _ _ _ => rfl) rfl ?_
    refine s_cal0 50 (run_S (X := XX10_stand) yoX10_bit tw_1018 tw_432 (by decide) dX10_stand_47) cmX10_bit (fun _ _ _ => rfl) rfl ?_
    refine s_ldc2 53 (-1) tw_983 dX10_stand_50 rfl ?_
    refine s_lxor 54 dX10_stand_53 rfl ?_
    refine s_land 55 dX10_stand_54 rfl ?_
    exact s_pick (sBX10_stand_55)
  · refine s_Aldn 0 rfl 25 dX10_stand_24 rfl ?_
    refine s_iconst 26 5 (by decide) dX10_stand_25 rfl ?_
    refine s_cal0 29 (run_V (X := XX10_stand) rfl clX10 yoX10_rejected rfl tw_1104 tw_1106 tw_p45 (by decide) dX10_stand_26) cmX10_rejected (fun _ _ _ => rfl) rfl ?_
    exact s_zretH rfl dX10_stand_29
def BX10_stand_3 : KT (Bool × HP) :=
  oCal 3 (some 10) EX10_isCell fZ (oIfne (oAld 0 (oIld 1 (oIld 2 (oPick [0, 1, 2] (BX10_stand_18))))) (oAld 0 (oConst (.int 1) (oCal 2 (some 10) EX10_rejected fZH (oZretH)))))
set_option maxRecDepth 20000 in
theorem sBX10_stand_3 : Snd XX10_stand fZH 3 (BX10_stand_3) (0) (0) := by
  unfold BX10_stand_3
  refine s_cal0 6 (run_V (X := XX10_stand) rfl clX10 yoX10_isCell rfl tw_718 tw_720 tw_p19 (by decide) dX10_stand_3) cmX10_isCell (fun _ _ _ => rfl) rfl ?_
  refine s_ifne 15 9 dX10_stand_6 (by decide) rfl ?_ ?_
  · refine s_Aldn 0 rfl 16 dX10_stand_15 rfl ?_
    refine s_Ildn 1 rfl 17 dX10_stand_16 rfl ?_
    refine s_Ildn 2 rfl 18 dX10_stand_17 rfl ?_
    exact s_pick (sBX10_stand_18)
  · refine s_Aldn 0 rfl 10 dX10_stand_9 rfl ?_
    refine s_iconst 11 1 (by decide) dX10_stand_10 rfl ?_
    refine s_cal0 14 (run_V (X := XX10_stand) rfl clX10 yoX10_rejected rfl tw_1104 tw_1106 tw_p45 (by decide) dX10_stand_11) cmX10_rejected (fun _ _ _ => rfl) rfl ?_
    exact s_zretH rfl dX10_stand_14
def BX10_stand_0 : KT (Bool × HP) :=
  oAld 0 (oIld 1 (oIld 2 (oPick [0, 1, 2] (BX10_stand_3))))
set_option maxRecDepth 20000 in
theorem sBX10_stand_0 : Snd XX10_stand fZH 0 (BX10_stand_0) (0) (0) := by
  unfold BX10_stand_0
  refine s_Aldn 0 rfl 1 dX10_stand_0 rfl ?_
  refine s_Ildn 1 rfl 2 dX10_stand_1 rfl ?_
  refine s_Ildn 2 rfl 3 dX10_stand_2 rfl ?_
  exact s_pick (sBX10_stand_3)
def EX10_stand : List Value → HP → Option (Bool × HP) := en 3 BX10_stand_0
theorem cmX10_stand : CM XX10_stand EX10_stand fZH 0 0 := CM.of rfl (by decide) rfl rfl sBX10_stand_0
theorem yoX10_stand : YO XX10_stand 2 0 0 := ⟨tw_1126, rfl, tw_1, (by decide +kernel), rfl, rfl⟩
abbrev XX10_week : MX := (yX10_week, cX10_week, 3, (Option.some .int), Cond.code yX10_week cX10_week 3 (Option.some .int) :: WS, { frames := 4, cells := 0, slots := 0, locals := 99 })
def BX10_week_27 : KT (Int32 × HP) :=
  oCal 2 (some 10) EX10_act fVH (oAld 0 (oLld 1 (oAld 0 (oGet 10 10 (oConst (.long (-1)) (olxor (oland (oCal 1 none EJ13_bitCount_95d88 fI (oCal 2 (some 10) EX10_answer fIH (oIretH))))))))))
set_option maxRecDepth 20000 in
theorem sBX10_week_27 : Snd XX10_week fIH 27 (BX10_week_27) (0) (0) := by
  unfold BX10_week_27
  refine s_cal0 30 (run_V (X := XX10_week) rfl clX10 yoX10_act rfl tw_1108 tw_1110 tw_p46 (by decide) dX10_week_27) cmX10_act (fun _ _ _ => rfl) rfl ?_
  refine s_Aldn 0 rfl 31 dX10_week_30 rfl ?_
  refine s_Lldn 1 rfl 32 dX10_week_31 rfl ?_
  refine s_Aldn 0 rfl 33 dX10_week_32 rfl ?_
  refine s_get 10 10 36 clX10 (by decide) tw_359 dX10_week_33 rfl ?_
  refine s_ldc2 39 (-1) tw_983 dX10_week_36 rfl ?_
  refine s_lxor 40 dX10_week_39 rfl ?_
  refine s_land 41 dX10_week_40 rfl ?_
  refine s_cal0 44 (run_S (X := XX10_week) yoJ13_bitCount_95d88 tw_696 tw_697 (by decide) dX10_week_41) cmJ13_bitCount_95d88 (fun _ _ _ => rfl) rfl ?_
  refine s_cal0 47 (run_V (X := XX10_week) rfl clX10 yoX10_answer rfl tw_702 tw_704 tw_p18 (by decide) dX10_week_44) cmX10_answer (fun _ _ _ => rfl) rfl ?_
  exact s_iretH rfl dX10_week_47
def BX10_week_24 : KT (Int32 × HP) :=
  oCal 2 (some 10) EX10_weekLater fL (oPick [0, 1] (BX10_week_27))
set_option maxRecDepth 20000 in
theorem sBX10_week_24 : Snd XX10_week fIH 24 (BX10_week_24) (0) (0) := by
  unfold BX10_week_24
  refine s_cal0 27 (run_V (X := XX10_week) rfl clX10 yoX10_weekLater rfl tw_1019 tw_1021 tw_p39 (by decide) dX10_week_24) cmX10_weekLater (fun _ _ _ => rfl) rfl ?_
  exact s_pick (sBX10_week_27)
def BX10_week_0 : KT (Int32 × HP) :=
  oAld 0 (oGet 10 9 (oIfne (oAld 0 (oGet 10 10 (oLst 1 (oAld 0 (oAld 0 (oAld 0 (oGet 10 10 (oPick [0, 1] (BX10_week_24))))))))) (oAld 0 (oConst (.int 1) (oCal 2 (some 10) EX10_refuse fIH (oIretH))))))
set_option maxRecDepth 20000 in
theorem sBX10_week_0 : Snd XX10_week fIH 0 (BX10_week_0) (0) (0) := by
  unfold BX10_week_0
  refine s_Aldn 0 rfl 1 dX10_week_0 rfl ?_
  refine s_get 10 9 4 clX10 (by decide) tw_358 dX10_week_1 rfl ?_
  refine s_ifne 13 7 dX10_week_4 (by decide) rfl ?_ ?_
  · refine s_Aldn 0 rfl 14 dX10_week_13 rfl ?_
    refine s_get 10 10 17 clX10 (by decide) tw_359 dX10_week_14 rfl ?_
    refine s_Lstn 1 rfl 18 (by decide) dX10_week_17 rfl ?_
    refine s_Aldn 0 rfl 19 dX10_week_18 rfl ?_
    refine s_Aldn 0 rfl 20 dX10_week_19 rfl ?_
    refine s_Aldn 0 rfl 21 dX10_week_20 rfl ?_
    refine s_get 10 10 24 clX10 (by decide) tw_359 dX10_week_21 rfl ?_
    exact s_pick (sBX10_week_24)
  · refine s_Aldn 0 rfl 8 dX10_week_7 rfl ?_
    refine s_iconst 9 1 (by decide) dX10_week_8 rfl ?_
    refine s_cal0 12 (run_V (X := XX10_week) rfl clX10 yoX10_refuse rfl tw_415 tw_417 tw_p0 (by decide) dX10_week_9) cmX10_refuse (fun _ _ _ => rfl) rfl ?_
    exact s_iretH rfl dX10_week_12
def EX10_week : List Value → HP → Option (Int32 × HP) := en 3 BX10_week_0
theorem cmX10_week : CM XX10_week EX10_week fIH 0 0 := CM.of rfl (by decide) rfl rfl sBX10_week_0
theorem yoX10_week : YO XX10_week 0 0 0 := ⟨tw_1130, rfl, tw_1, (by decide +kernel), rfl, rfl⟩
abbrev XX10_cellsToThin : MX := (yX10_cellsToThin, cX10_cellsToThin, 6, (Option.some .long), Cond.code yX10_cellsToThin cX10_cellsToThin 6 (Option.some .long) :: WS, { frames := 3, cells := 0, slots := 0, locals := 82 })
def BX10_cellsToThin_91 (k34 : KT Int64) : KT Int64 :=
  oCal 3 (some 0) EX0_isParting fZ (oIfne (oInc 5 1 (oPick [0, 1, 3, 5] k34)) (oLld 1 (oIld 5 (oCal 1 none EX10_bit fL (olor (oLst 1 (oInc 5 1 (oPick [0, 1, 3, 5] k34))))))))
set_option maxRecDepth 20000 in
theorem sBX10_cellsToThin_91 {k34 : KT Int64} (hk34 : Snd XX10_cellsToThin fL 34 k34 0 0) : Snd XX10_cellsToThin fL 91 (BX10_cellsToThin_91 k34) (0) (0) := by
  unfold BX10_cellsToThin_91
  refine s_cal0 94 (run_V (X := XX10_cellsToThin) rfl clX0 yoX0_isParting rfl tw_805 tw_806 tw_807 (by decide) dX10_cellsToThin_91) cmX0_isParting (fun _ _ _ => rfl) rfl ?_
  refine s_ifne 105 97 dX10_cellsToThin_94 (by decide) rfl ?_ ?_
  · refine s_inc 5 1 108 (by decide) (by decide) dX10_cellsToThin_105 rfl ?_
    refine s_goto 34 dX10_cellsToThin_108 (by decide) ?_
    exact s_pick hk34
  · refine s_Lldn 1 rfl 98 dX10_cellsToThin_97 rfl ?_
    refine s_Ild 5 100 dX10_cellsToThin_98 rfl ?_
    refine s_cal0 103 (run_S (X := XX10_cellsToThin) yoX10_bit tw_1018 tw_432 (by decide) dX10_cellsToThin_100) cmX10_bit (fun _ _ _ => rfl) rfl ?_
    refine s_lor 104 dX10_cellsToThin_103 rfl ?_
    refine s_Lstn 1 rfl 105 (by decide) dX10_cellsToThin_104 rfl ?_
    refine s_inc 5 1 108 (by decide) (by decide) dX10_cellsToThin_105 rfl ?_
    refine s_goto 34 dX10_cellsToThin_108 (by decide) ?_
    exact s_pick hk34
def BX10_cellsToThin_52 (k34 : KT Int64) : KT Int64 :=
  oCal 2 none EX10_isIn fZ (oIfeq (oInc 5 1 (oPick [0, 1, 3, 5] k34)) (oAld 0 (oGet 10 7 (oGet 3 0 (oAld 0 (oGet 10 10 (oIld 5 (oCal 3 (some 0) EX0_countBeside fI (oConst (.int 2) (oCmplt (oInc 5 1 (oPick [0, 1, 3, 5] k34)) (oAld 0 (oGet 10 7 (oGet 3 0 (oAld 0 (oGet 10 10 (oIld 5 (oPick [0, 1, 3, 5] (BX10_cellsToThin_91 k34))))))))))))))))))
set_option maxRecDepth 20000 in
theorem sBX10_cellsToThin_52 {k34 : KT Int64} (hk34 : Snd XX10_cellsToThin fL 34 k34 0 0) : Snd XX10_cellsToThin fL 52 (BX10_cellsToThin_52 k34) (0) (0) := by
  unfold BX10_cellsToThin_52
  refine s_cal0 55 (run_S (X := XX10_cellsToThin) yoX10_isIn tw_728 tw_631 (by decide) dX10_cellsToThin_52) cmX10_isIn (fun _ _ _ => rfl) rfl ?_
  refine s_ifeq 105 58 dX10_cellsToThin_55 (by decide) rfl ?_ ?_
  · refine s_inc 5 1 108 (by decide) (by decide) dX10_cellsToThin_105 rfl ?_
    refine s_goto 34 dX10_cellsToThin_108 (by decide) ?_
    exact s_pick hk34
  · refine s_Aldn 0 rfl 59 dX10_cellsToThin_58 rfl ?_
    refine s_get 10 7 62 clX10 (by decide) tw_356 dX10_cellsToThin_59 rfl ?_
    refine s_getN 3 0 65 clX3 (by decide) nw_23 dX10_cellsToThin_62 rfl ?_
    refine s_Aldn 0 rfl 66 dX10_cellsToThin_65 rfl ?_
    refine s_get 10 10 69 clX10 (by decide) tw_359 dX10_cellsToThin_66 rfl ?_
    refine s_Ild 5 71 dX10_cellsToThin_69 rfl ?_
    refine s_cal0 74 (run_V (X := XX10_cellsToThin) rfl clX0 yoX0_countBeside rfl tw_733 tw_734 tw_735 (by decide) dX10_cellsToThin_71) cmX0_countBeside (fun _ _ _ => rfl) rfl ?_
    refine s_iconst 75 2 (by decide) dX10_cellsToThin_74 rfl ?_
    refine s_cmplt 105 78 dX10_cellsToThin_75 (by decide) rfl ?_ ?_
    · refine s_inc 5 1 108 (by decide) (by decide) dX10_cellsToThin_105 rfl ?_
      refine s_goto 34 dX10_cellsToThin_108 (by decide) ?_
      exact s_pick hk34
    · refine s_Aldn 0 rfl 79 dX10_cellsToThin_78 rfl ?_
      refine s_get 10 7 82 clX10 (by decide) tw_356 dX10_cellsToThin_79 rfl ?_
      refine s_getN 3 0 85 clX3 (by decide) nw_23 dX10_cellsToThin_82 rfl ?_
      refine s_Aldn 0 rfl 86 dX10_cellsToThin_85 rfl ?_
      refine s_get 10 10 89 clX10 (by decide) tw_359 dX10_cellsToThin_86 rfl ?_
      refine s_Ild 5 91 dX10_cellsToThin_89 rfl ?_
      exact s_pick (sBX10_cellsToThin_91 hk34)
def BX10_cellsToThin_34 (k34 : KT Int64) : KT Int64 :=
  oIld 5 (oAld 0 (oGet 10 7 (oGet 3 0 (oGet 0 3 (oCmpge (oLld 1 (oLretP)) (oLld 3 (oIld 5 (oPick [0, 1, 3, 5] (BX10_cellsToThin_52 k34)))))))))
set_option maxRecDepth 20000 in
theorem sBX10_cellsToThin_34 {k34 : KT Int64} (hk34 : Snd XX10_cellsToThin fL 34 k34 0 0) : Snd XX10_cellsToThin fL 34 (BX10_cellsToThin_34 k34) (0) (0) := by
  unfold BX10_cellsToThin_34
  refine s_Ild 5 36 dX10_cellsToThin_34 rfl ?_
  refine s_Aldn 0 rfl 37 dX10_cellsToThin_36 rfl ?_
  refine s_get 10 7 40 clX10 (by decide) tw_356 dX10_cellsToThin_37 rfl ?_
  refine s_getN 3 0 43 clX3 (by decide) nw_23 dX10_cellsToThin_40 rfl ?_
  refine s_getN 0 3 46 clX0 (by decide) nw_5 dX10_cellsToThin_43 rfl ?_
  refine s_cmpge 111 49 dX10_cellsToThin_46 (by decide) rfl ?_ ?_
  · refine s_Lldn 1 rfl 112 dX10_cellsToThin_111 rfl ?_
    exact s_lretP rfl dX10_cellsToThin_112
  · refine s_Lldn 3 rfl 50 dX10_cellsToThin_49 rfl ?_
    refine s_Ild 5 52 dX10_cellsToThin_50 rfl ?_
    exact s_pick (sBX10_cellsToThin_52 hk34)
def BX10_cellsToThin_22 : KT Int64 :=
  oCal 1 (some 3) EX3_walkerCells fL (oConst (.long (-1)) (olxor (oland (oLst 3 (oConst (.int 0) (oIst 5 (oPick [0, 1, 3, 5] (lp (BX10_cellsToThin_34) FU))))))))
set_option maxRecDepth 20000 in
theorem sBX10_cellsToThin_22 : Snd XX10_cellsToThin fL 22 (BX10_cellsToThin_22) (0) (0) := by
  unfold BX10_cellsToThin_22
  refine s_cal0 25 (run_V (X := XX10_cellsToThin) rfl clX3 yoX3_walkerCells rfl tw_1031 tw_1032 tw_1033 (by decide) dX10_cellsToThin_22) cmX3_walkerCells (fun _ _ _ => rfl) rfl ?_
  refine s_ldc2 28 (-1) tw_983 dX10_cellsToThin_25 rfl ?_
  refine s_lxor 29 dX10_cellsToThin_28 rfl ?_
  refine s_land 30 dX10_cellsToThin_29 rfl ?_
  refine s_Lstn 3 rfl 31 (by decide) dX10_cellsToThin_30 rfl ?_
  refine s_iconst 32 0 (by decide) dX10_cellsToThin_31 rfl ?_
  refine s_Ist 5 34 (by decide) dX10_cellsToThin_32 rfl ?_
  exact s_pick (s_lp (fun k hk => sBX10_cellsToThin_34  hk) FU)
def BX10_cellsToThin_0 : KT Int64 :=
  oConst (.long 0) (oLst 1 (oAld 0 (oGet 10 10 (oAld 0 (oGet 10 7 (oGet 3 12 (oConst (.long (-1)) (olxor (oland (oAld 0 (oGet 10 7 (oPick [0, 1] (BX10_cellsToThin_22)))))))))))))
set_option maxRecDepth 20000 in
theorem sBX10_cellsToThin_0 : Snd XX10_cellsToThin fL 0 (BX10_cellsToThin_0) (0) (0) := by
  unfold BX10_cellsToThin_0
  refine s_lconst 1 0 (by decide) dX10_cellsToThin_0 rfl ?_
  refine s_Lstn 1 rfl 2 (by decide) dX10_cellsToThin_1 rfl ?_
  refine s_Aldn 0 rfl 3 dX10_cellsToThin_2 rfl ?_
  refine s_get 10 10 6 clX10 (by decide) tw_359 dX10_cellsToThin_3 rfl ?_
  refine s_Aldn 0 rfl 7 dX10_cellsToThin_6 rfl ?_
  refine s_get 10 7 10 clX10 (by decide) tw_356 dX10_cellsToThin_7 rfl ?_
  refine s_getN 3 12 13 clX3 (by decide) nw_37 dX10_cellsToThin_10 rfl ?_
  refine s_ldc2 16 (-1) tw_983 dX10_cellsToThin_13 rfl ?_
  refine s_lxor 17 dX10_cellsToThin_16 rfl ?_
  refine s_land 18 dX10_cellsToThin_17 rfl ?_
  refine s_Aldn 0 rfl 19 dX10_cellsToThin_18 rfl ?_
  refine s_get 10 7 22 clX10 (by decide) tw_356 dX10_cellsToThin_19 rfl ?_
  exact s_pick (sBX10_cellsToThin_22)
def EX10_cellsToThin : List Value → HP → Option Int64 := en 6 BX10_cellsToThin_0
theorem cmX10_cellsToThin : CM XX10_cellsToThin EX10_cellsToThin fL 0 0 := CM.of rfl (by decide) rfl rfl sBX10_cellsToThin_0
theorem yoX10_cellsToThin : YO XX10_cellsToThin 0 0 0 := ⟨tw_1138, rfl, tw_1, (by decide +kernel), rfl, rfl⟩
abbrev XX10_thin : MX := (yX10_thin, cX10_thin, 6, (Option.some .int), Cond.code yX10_thin cX10_thin 6 (Option.some .int) :: WS, { frames := 4, cells := 0, slots := 0, locals := 107 })
def BX10_thin_68 : KT (Int32 × HP) :=
  oCal 2 (some 10) EX10_act fVH (oAld 0 (oIld 4 (oPut 10 11 .int (oAld 0 (oIld 5 (oCal 2 (some 10) EX10_answer fIH (oIretH)))))))
set_option maxRecDepth 20000 in
theorem sBX10_thin_68 : Snd XX10_thin fIH 68 (BX10_thin_68) (0) (0) := by
  unfold BX10_thin_68
  refine s_cal0 71 (run_V (X := XX10_thin) rfl clX10 yoX10_act rfl tw_1108 tw_1110 tw_p46 (by decide) dX10_thin_68) cmX10_act (fun _ _ _ => rfl) rfl ?_
  refine s_Aldn 0 rfl 72 dX10_thin_71 rfl ?_
  refine s_Ild 4 74 dX10_thin_72 rfl ?_
  refine s_put 10 11 77 clX10 (by decide) rfl rfl pIH tw_360 dX10_thin_74 rfl ?_
  refine s_Aldn 0 rfl 78 dX10_thin_77 rfl ?_
  refine s_Ild 5 80 dX10_thin_78 rfl ?_
  refine s_cal0 83 (run_V (X := XX10_thin) rfl clX10 yoX10_answer rfl tw_702 tw_704 tw_p18 (by decide) dX10_thin_80) cmX10_answer (fun _ _ _ => rfl) rfl ?_
  exact s_iretH rfl dX10_thin_83
def BX10_thin_48 : KT (Int32 × HP) :=
  oCal 2 none EX10_nthCell fI (oIst 5 (oAld 0 (oAld 0 (oGet 10 10 (oIld 5 (oCal 1 none EX10_bit fL (oConst (.long (-1)) (olxor (oland (oPick [0, 4, 5] (BX10_thin_68)))))))))))
set_option maxRecDepth 20000 in
theorem sBX10_thin_48 : Snd XX10_thin fIH 48 (BX10_thin_48) (0) (0) := by
  unfold BX10_thin_48
  refine s_cal0 51 (run_S (X := XX10_thin) yoX10_nthCell tw_968 tw_969 (by decide) dX10_thin_48) cmX10_nthCell (fun _ _ _ => rfl) rfl ?_
  refine s_Ist 5 53 (by decide) dX10_thin_51 rfl ?_
  refine s_Aldn 0 rfl 54 dX10_thin_53 rfl ?_
  refine s_Aldn 0 rfl 55 dX10_thin_54 rfl ?_
  refine s_get 10 10 58 clX10 (by decide) tw_359 dX10_thin_55 rfl ?_
  refine s_Ild 5 60 dX10_thin_58 rfl ?_
  refine s_cal0 63 (run_S (X := XX10_thin) yoX10_bit tw_1018 tw_432 (by decide) dX10_thin_60) cmX10_bit (fun _ _ _ => rfl) rfl ?_
  refine s_ldc2 66 (-1) tw_983 dX10_thin_63 rfl ?_
  refine s_lxor 67 dX10_thin_66 rfl ?_
  refine s_land 68 dX10_thin_67 rfl ?_
  exact s_pick (sBX10_thin_68)
def BX10_thin_14 : KT (Int32 × HP) :=
  oCal 1 (some 10) EX10_cellsToThin fL (oLst 1 (oLld 1 (oCal 1 none EJ13_bitCount_95d88 fI (oIst 3 (oIld 3 (oIfne (oAld 0 (oGet 10 11 (oCal 1 none EX10_draw fI (oIst 4 (oLld 1 (oIld 4 (oIld 3 (oirem (oPick [0, 4] (BX10_thin_48)))))))))) (oAld 0 (oConst (.int 6) (oCal 2 (some 10) EX10_refuse fIH (oIretH))))))))))
set_option maxRecDepth 20000 in
theorem sBX10_thin_14 : Snd XX10_thin fIH 14 (BX10_thin_14) (0) (0) := by
  unfold BX10_thin_14
  refine s_cal0 17 (run_V (X := XX10_thin) rfl clX10 yoX10_cellsToThin rfl tw_1135 tw_1137 tw_p48 (by decide) dX10_thin_14) cmX10_cellsToThin (fun _ _ _ => rfl) rfl ?_
  refine s_Lstn 1 rfl 18 (by decide) dX10_thin_17 rfl ?_
  refine s_Lldn 1 rfl 19 dX10_thin_18 rfl ?_
  refine s_cal0 22 (run_S (X := XX10_thin) yoJ13_bitCount_95d88 tw_696 tw_697 (by decide) dX10_thin_19) cmJ13_bitCount_95d88 (fun _ _ _ => rfl) rfl ?_
  refine s_Istn 3 rfl 23 (by decide) dX10_thin_22 rfl ?_
  refine s_Ildn 3 rfl 24 dX10_thin_23 rfl ?_
  refine s_ifne 34 27 dX10_thin_24 (by decide) rfl ?_ ?_
  · refine s_Aldn 0 rfl 35 dX10_thin_34 rfl ?_
    refine s_get 10 11 38 clX10 (by decide) tw_360 dX10_thin_35 rfl ?_
    refine s_cal0 41 (run_S (X := XX10_thin) yoX10_draw tw_1139 tw_871 (by decide) dX10_thin_38) cmX10_draw (fun _ _ _ => rfl) rfl ?_
    refine s_Ist 4 43 (by decide) dX10_thin_41 rfl ?_
    refine s_Lldn 1 rfl 44 dX10_thin_43 rfl ?_
    refine s_Ild 4 46 dX10_thin_44 rfl ?_
    refine s_Ildn 3 rfl 47 dX10_thin_46 rfl ?_
    refine s_irem 48 dX10_thin_47 rfl ?_
    exact s_pick (sBX10_thin_48)
  · refine s_Aldn 0 rfl 28 dX10_thin_27 rfl ?_
    refine s_bipush 30 6 (by decide) dX10_thin_28 rfl ?_
    refine s_cal0 33 (run_V (X := XX10_thin) rfl clX10 yoX10_refuse rfl tw_415 tw_417 tw_p0 (by decide) dX10_thin_30) cmX10_refuse (fun _ _ _ => rfl) rfl ?_
    exact s_iretH rfl dX10_thin_33
def BX10_thin_0 : KT (Int32 × HP) :=
  oAld 0 (oGet 10 9 (oIfne (oAld 0 (oPick [0] (BX10_thin_14))) (oAld 0 (oConst (.int 1) (oCal 2 (some 10) EX10_refuse fIH (oIretH))))))
set_option maxRecDepth 20000 in
theorem sBX10_thin_0 : Snd XX10_thin fIH 0 (BX10_thin_0) (0) (0) := by
  unfold BX10_thin_0
  refine s_Aldn 0 rfl 1 dX10_thin_0 rfl ?_
  refine s_get 10 9 4 clX10 (by decide) tw_358 dX10_thin_1 rfl ?_
  refine s_ifne 13 7 dX10_thin_4 (by decide) rfl ?_ ?_
  · refine s_Aldn 0 rfl 14 dX10_thin_13 rfl ?_
    exact s_pick (sBX10_thin_14)
  · refine s_Aldn 0 rfl 8 dX10_thin_7 rfl ?_
    refine s_iconst 9 1 (by decide) dX10_thin_8 rfl ?_
    refine s_cal0 12 (run_V (X := XX10_thin) rfl clX10 yoX10_refuse rfl tw_415 tw_417 tw_p0 (by decide) dX10_thin_9) cmX10_refuse (fun _ _ _ => rfl) rfl ?_
    exact s_iretH rfl dX10_thin_12
def EX10_thin : List Value → HP → Option (Int32 × HP) := en 6 BX10_thin_0
theorem cmX10_thin : CM XX10_thin EX10_thin fIH 0 0 := CM.of rfl (by decide) rfl rfl sBX10_thin_0
theorem yoX10_thin : YO XX10_thin 0 0 0 := ⟨tw_1134, rfl, tw_1, (by decide +kernel), rfl, rfl⟩
abbrev XX10_seed : MX := (yX10_seed, cX10_seed, 2, (Option.some .boolean), Cond.code yX10_seed cX10_seed 2 (Option.some .boolean) :: WS, { frames := 1, cells := 0, slots := 0, locals := 21 })
def BX10_seed_0 : KT (Bool × HP) :=
  oAld 0 (oGet 10 9 (oIfne (oIld 1 (oIflt (oAld 0 (oConst (.int 2) (oCal 2 (some 10) EX10_rejected fZH (oZretH)))) (oIld 1 (oConst (.int 65537) (oCmplt (oAld 0 (oIld 1 (oPut 10 11 .int (oAld 0 (oCal 1 (some 10) EX10_accepted fZH (oZretH)))))) (oAld 0 (oConst (.int 2) (oCal 2 (some 10) EX10_rejected fZH (oZretH))))))))) (oAld 0 (oConst (.int 1) (oCal 2 (some 10) EX10_rejected fZH (oZretH))))))
set_option maxRecDepth 20000 in
theorem sBX10_seed_0 : Snd XX10_seed fZH 0 (BX10_seed_0) (0) (0) := by
  unfold BX10_seed_0
  refine s_Aldn 0 rfl 1 dX10_seed_0 rfl ?_
  refine s_get 10 9 4 clX10 (by decide) tw_358 dX10_seed_1 rfl ?_
  refine s_ifne 13 7 dX10_seed_4 (by decide) rfl ?_ ?_
  · refine s_Ildn 1 rfl 14 dX10_seed_13 rfl ?_
    refine s_iflt 24 17 dX10_seed_14 (by decide) rfl ?_ ?_
    · refine s_Aldn 0 rfl 25 dX10_seed_24 rfl ?_
      refine s_iconst 26 2 (by decide) dX10_seed_25 rfl ?_
      refine s_cal0 29 (run_V (X := XX10_seed) rfl clX10 yoX10_rejected rfl tw_1104 tw_1106 tw_p45 (by decide) dX10_seed_26) cmX10_rejected (fun _ _ _ => rfl) rfl ?_
      exact s_zretH rfl dX10_seed_29
    · refine s_Ildn 1 rfl 18 dX10_seed_17 rfl ?_
      refine s_ldcw 21 65537 tw_873 dX10_seed_18 rfl ?_
      refine s_cmplt 30 24 dX10_seed_21 (by decide) rfl ?_ ?_
      · refine s_Aldn 0 rfl 31 dX10_seed_30 rfl ?_
        refine s_Ildn 1 rfl 32 dX10_seed_31 rfl ?_
        refine s_put 10 11 35 clX10 (by decide) rfl rfl pZH tw_360 dX10_seed_32 rfl ?_
        refine s_Aldn 0 rfl 36 dX10_seed_35 rfl ?_
        refine s_cal0 39 (run_V (X := XX10_seed) rfl clX10 yoX10_accepted rfl tw_1119 tw_1121 tw_p47 (by decide) dX10_seed_36) cmX10_accepted (fun _ _ _ => rfl) rfl ?_
        exact s_zretH rfl dX10_seed_39
      · refine s_Aldn 0 rfl 25 dX10_seed_24 rfl ?_
        refine s_iconst 26 2 (by decide) dX10_seed_25 rfl ?_
        refine s_cal0 29 (run_V (X := XX10_seed) rfl clX10 yoX10_rejected rfl tw_1104 tw_1106 tw_p45 (by decide) dX10_seed_26) cmX10_rejected (fun _ _ _ => rfl) rfl ?_
        exact s_zretH rfl dX10_seed_29
  · refine s_Aldn 0 rfl 8 dX10_seed_7 rfl ?_
    refine s_iconst 9 1 (by decide) dX10_seed_8 rfl ?_
    refine s_cal0 12 (run_V (X := XX10_seed) rfl clX10 yoX10_rejected rfl tw_1104 tw_1106 tw_p45 (by decide) dX10_seed_9) cmX10_rejected (fun _ _ _ => rfl) rfl ?_
    exact s_zretH rfl dX10_seed_12
def EX10_seed : List Value → HP → Option (Bool × HP) := en 2 BX10_seed_0
theorem cmX10_seed : CM XX10_seed EX10_seed fZH 0 0 := CM.of rfl (by decide) rfl rfl sBX10_seed_0
theorem yoX10_seed : YO XX10_seed 1 0 0 := ⟨tw_1143, rfl, tw_1, (by decide +kernel), rfl, rfl⟩
abbrev XX10_undo : MX := (yX10_undo, cX10_undo, 1, (Option.some .boolean), Cond.code yX10_undo cX10_undo 1 (Option.some .boolean) :: WS, { frames := 1, cells := 0, slots := 0, locals := 21 })
def BX10_undo_43 : KT (Bool × HP) :=
  oCal 1 (some 1) EX1_dropLatest fVH (oAld 0 (oCal 1 (some 10) EX10_accepted fZH (oZretH)))
set_option maxRecDepth 20000 in
theorem sBX10_undo_43 : Snd XX10_undo fZH 43 (BX10_undo_43) (0) (0) := by
  unfold BX10_undo_43
  refine s_cal0 46 (run_V (X := XX10_undo) rfl clX1 yoX1_dropLatest rfl tw_1160 tw_1161 tw_1162 (by decide) dX10_undo_43) cmX1_dropLatest (fun _ _ _ => rfl) rfl ?_
  refine s_Aldn 0 rfl 47 dX10_undo_46 rfl ?_
  refine s_cal0 50 (run_V (X := XX10_undo) rfl clX10 yoX10_accepted rfl tw_1119 tw_1121 tw_p47 (by decide) dX10_undo_47) cmX10_accepted (fun _ _ _ => rfl) rfl ?_
  exact s_zretH rfl dX10_undo_50
def BX10_undo_33 : KT (Bool × HP) :=
  oCal 1 (some 1) EX1_latestSeed fI (oPut 10 11 .int (oAld 0 (oGet 10 2 (oPick [0] (BX10_undo_43)))))
set_option maxRecDepth 20000 in
theorem sBX10_undo_33 : Snd XX10_undo fZH 33 (BX10_undo_33) (0) (0) := by
  unfold BX10_undo_33
  refine s_cal0 36 (run_V (X := XX10_undo) rfl clX1 yoX1_latestSeed rfl tw_1156 tw_1157 tw_1158 (by decide) dX10_undo_33) cmX1_latestSeed (fun _ _ _ => rfl) rfl ?_
  refine s_put 10 11 39 clX10 (by decide) rfl rfl pZH tw_360 dX10_undo_36 rfl ?_
  refine s_Aldn 0 rfl 40 dX10_undo_39 rfl ?_
  refine s_get 10 2 43 clX10 (by decide) tw_351 dX10_undo_40 rfl ?_
  exact s_pick (sBX10_undo_43)
def BX10_undo_22 : KT (Bool × HP) :=
  oCal 1 (some 1) EX1_latestCells fL (oPut 10 10 .long (oAld 0 (oAld 0 (oGet 10 2 (oPick [0] (BX10_undo_33))))))
set_option maxRecDepth 20000 in
theorem sBX10_undo_22 : Snd XX10_undo fZH 22 (BX10_undo_22) (0) (0) := by
  unfold BX10_undo_22
  refine s_cal0 25 (run_V (X := XX10_undo) rfl clX1 yoX1_latestCells rfl tw_1152 tw_1153 tw_1154 (by decide) dX10_undo_22) cmX1_latestCells (fun _ _ _ => rfl) rfl ?_
  refine s_put 10 10 28 clX10 (by decide) rfl rfl pZH tw_359 dX10_undo_25 rfl ?_
  refine s_Aldn 0 rfl 29 dX10_undo_28 rfl ?_
  refine s_Aldn 0 rfl 30 dX10_undo_29 rfl ?_
  refine s_get 10 2 33 clX10 (by decide) tw_351 dX10_undo_30 rfl ?_
  exact s_pick (sBX10_undo_33)
def BX10_undo_0 : KT (Bool × HP) :=
  oAld 0 (oGet 10 2 (oCal 1 (some 1) EX1_actCount fI (oIfne (oAld 0 (oAld 0 (oGet 10 2 (oPick [0] (BX10_undo_22))))) (oAld 0 (oConst (.int 6) (oCal 2 (some 10) EX10_rejected fZH (oZretH)))))))
set_option maxRecDepth 20000 in
theorem sBX10_undo_0 : Snd XX10_undo fZH 0 (BX10_undo_0) (0) (0) := by
  unfold BX10_undo_0
  refine s_Aldn 0 rfl 1 dX10_undo_0 rfl ?_
  refine s_get 10 2 4 clX10 (by decide) tw_351 dX10_undo_1 rfl ?_
  refine s_cal0 7 (run_V (X := XX10_undo) rfl clX1 yoX1_actCount rfl tw_1148 tw_1149 tw_1150 (by decide) dX10_undo_4) cmX1_actCount (fun _ _ _ => rfl) rfl ?_
  refine s_ifne 17 10 dX10_undo_7 (by decide) rfl ?_ ?_
  · refine s_Aldn 0 rfl 18 dX10_undo_17 rfl ?_
    refine s_Aldn 0 rfl 19 dX10_undo_18 rfl ?_
    refine s_get 10 2 22 clX10 (by decide) tw_351 dX10_undo_19 rfl ?_
    exact s_pick (sBX10_undo_22)
  · refine s_Aldn 0 rfl 11 dX10_undo_10 rfl ?_
    refine s_bipush 13 6 (by decide) dX10_undo_11 rfl ?_
    refine s_cal0 16 (run_V (X := XX10_undo) rfl clX10 yoX10_rejected rfl tw_1104 tw_1106 tw_p45 (by decide) dX10_undo_13) cmX10_rejected (fun _ _ _ => rfl) rfl ?_
    exact s_zretH rfl dX10_undo_16
def EX10_undo : List Value → HP → Option (Bool × HP) := en 1 BX10_undo_0
theorem cmX10_undo : CM XX10_undo EX10_undo fZH 0 0 := CM.of rfl (by decide) rfl rfl sBX10_undo_0
theorem yoX10_undo : YO XX10_undo 0 0 0 := ⟨tw_1147, rfl, tw_1, (by decide +kernel), rfl, rfl⟩
abbrev XX10_mark : MX := (yX10_mark, cX10_mark, 2, (Option.some .int), Cond.code yX10_mark cX10_mark 2 (Option.some .int) :: WS, { frames := 1, cells := 0, slots := 0, locals := 23 })
def BX10_mark_25 : KT (Int32 × HP) :=
  oCal 3 (some 1) EX1_addMark fIH (oIst 1 (oIld 1 (oConst (.int (-1)) (oCmpne (oAld 0 (oIld 1 (oCal 2 (some 10) EX10_answer fIH (oIretH)))) (oAld 0 (oConst (.int 3) (oCal 2 (some 10) EX10_refuse fIH (oIretH))))))))
set_option maxRecDepth 20000 in
theorem sBX10_mark_25 : Snd XX10_mark fIH 25 (BX10_mark_25) (0) (0) := by
  unfold BX10_mark_25
  refine s_cal0 28 (run_V (X := XX10_mark) rfl clX1 yoX1_addMark rfl tw_1168 tw_1169 tw_1170 (by decide) dX10_mark_25) cmX1_addMark (fun _ _ _ => rfl) rfl ?_
  refine s_Istn 1 rfl 29 (by decide) dX10_mark_28 rfl ?_
  refine s_Ildn 1 rfl 30 dX10_mark_29 rfl ?_
  refine s_iconst 31 (-1) (by decide) dX10_mark_30 rfl ?_
  refine s_cmpne 42 34 dX10_mark_31 (by decide) rfl ?_ ?_
  · refine s_Aldn 0 rfl 43 dX10_mark_42 rfl ?_
    refine s_Ildn 1 rfl 44 dX10_mark_43 rfl ?_
    refine s_cal0 47 (run_V (X := XX10_mark) rfl clX10 yoX10_answer rfl tw_702 tw_704 tw_p18 (by decide) dX10_mark_44) cmX10_answer (fun _ _ _ => rfl) rfl ?_
    exact s_iretH rfl dX10_mark_47
  · refine s_Aldn 0 rfl 35 dX10_mark_34 rfl ?_
    refine s_iconst 36 3 (by decide) dX10_mark_35 rfl ?_
    refine s_cal0 39 (run_V (X := XX10_mark) rfl clX10 yoX10_refuse rfl tw_415 tw_417 tw_p0 (by decide) dX10_mark_36) cmX10_refuse (fun _ _ _ => rfl) rfl ?_
    refine s_goto 47 dX10_mark_39 (by decide) ?_
    exact s_iretH rfl dX10_mark_47
def BX10_mark_0 : KT (Int32 × HP) :=
  oAld 0 (oGet 10 9 (oIfne (oAld 0 (oGet 10 2 (oAld 0 (oGet 10 10 (oAld 0 (oGet 10 11 (oPick [0] (BX10_mark_25)))))))) (oAld 0 (oConst (.int 1) (oCal 2 (some 10) EX10_refuse fIH (oIretH))))))
set_option maxRecDepth 20000 in
theorem sBX10_mark_0 : Snd XX10_mark fIH 0 (BX10_mark_0) (0) (0) := by
  unfold BX10_mark_0
  refine s_Aldn 0 rfl 1 dX10_mark_0 rfl ?_
  refine s_get 10 9 4 clX10 (by decide) tw_358 dX10_mark_1 rfl ?_
  refine s_ifne 13 7 dX10_mark_4 (by decide) rfl ?_ ?_
  · refine s_Aldn 0 rfl 14 dX10_mark_13 rfl ?_
    refine s_get 10 2 17 clX10 (by decide) tw_351 dX10_mark_14 rfl ?_
    refine s_Aldn 0 rfl 18 dX10_mark_17 rfl ?_
    refine s_get 10 10 21 clX10 (by decide) tw_359 dX10_mark_18 rfl ?_
    refine s_Aldn 0 rfl 22 dX10_mark_21 rfl ?_
    refine s_get 10 11 25 clX10 (by decide) tw_360 dX10_mark_22 rfl ?_
    exact s_pick (sBX10_mark_25)
  · refine s_Aldn 0 rfl 8 dX10_mark_7 rfl ?_
    refine s_iconst 9 1 (by decide) dX10_mark_8 rfl ?_
    refine s_cal0 12 (run_V (X := XX10_mark) rfl clX10 yoX10_refuse rfl tw_415 tw_417 tw_p0 (by decide) dX10_mark_9) cmX10_refuse (fun _ _ _ => rfl) rfl ?_
    exact s_iretH rfl dX10_mark_12
def EX10_mark : List Value → HP → Option (Int32 × HP) := en 2 BX10_mark_0
theorem cmX10_mark : CM XX10_mark EX10_mark fIH 0 0 := CM.of rfl (by decide) rfl rfl sBX10_mark_0
theorem yoX10_mark : YO XX10_mark 0 0 0 := ⟨tw_1167, rfl, tw_1, (by decide +kernel), rfl, rfl⟩
abbrev XX10_back : MX := (yX10_back, cX10_back, 2, (Option.some .boolean), Cond.code yX10_back cX10_back 2 (Option.some .boolean) :: WS, { frames := 1, cells := 0, slots := 0, locals := 21 })
def BX10_back_35 : KT (Bool × HP) :=
  oCal 2 (some 1) EX1_markedSeed fI (oPut 10 11 .int (oAld 0 (oGet 10 2 (oCal 1 (some 1) EX1_forgetActs fVH (oAld 0 (oCal 1 (some 10) EX10_accepted fZH (oZretH)))))))
set_option maxRecDepth 20000 in
theorem sBX10_back_35 : Snd XX10_back fZH 35 (BX10_back_35) (0) (0) := by
  unfold BX10_back_35
  refine s_cal0 38 (run_V (X := XX10_back) rfl clX1 yoX1_markedSeed rfl tw_1184 tw_1185 tw_1186 (by decide) dX10_back_35) cmX1_markedSeed (fun _ _ _ => rfl) rfl ?_
  refine s_put 10 11 41 clX10 (by decide) rfl rfl pZH tw_360 dX10_back_38 rfl ?_
  refine s_Aldn 0 rfl 42 dX10_back_41 rfl ?_
  refine s_get 10 2 45 clX10 (by decide) tw_351 dX10_back_42 rfl ?_
  refine s_cal0 48 (run_V (X := XX10_back) rfl clX1 yoX1_forgetActs rfl tw_1188 tw_1189 tw_1190 (by decide) dX10_back_45) cmX1_forgetActs (fun _ _ _ => rfl) rfl ?_
  refine s_Aldn 0 rfl 49 dX10_back_48 rfl ?_
  refine s_cal0 52 (run_V (X := XX10_back) rfl clX10 yoX10_accepted rfl tw_1119 tw_1121 tw_p47 (by decide) dX10_back_49) cmX10_accepted (fun _ _ _ => rfl) rfl ?_
  exact s_zretH rfl dX10_back_52
def BX10_back_23 : KT (Bool × HP) :=
  oCal 2 (some 1) EX1_markedCells fL (oPut 10 10 .long (oAld 0 (oAld 0 (oGet 10 2 (oIld 1 (oPick [0] (BX10_back_35)))))))
set_option maxRecDepth 20000 in
theorem sBX10_back_23 : Snd XX10_back fZH 23 (BX10_back_23) (0) (0) := by
  unfold BX10_back_23
  refine s_cal0 26 (run_V (X := XX10_back) rfl clX1 yoX1_markedCells rfl tw_1180 tw_1181 tw_1182 (by decide) dX10_back_23) cmX1_markedCells (fun _ _ _ => rfl) rfl ?_
  refine s_put 10 10 29 clX10 (by decide) rfl rfl pZH tw_359 dX10_back_26 rfl ?_
  refine s_Aldn 0 rfl 30 dX10_back_29 rfl ?_
  refine s_Aldn 0 rfl 31 dX10_back_30 rfl ?_
  refine s_get 10 2 34 clX10 (by decide) tw_351 dX10_back_31 rfl ?_
  refine s_Ildn 1 rfl 35 dX10_back_34 rfl ?_
  exact s_pick (sBX10_back_35)
def BX10_back_5 : KT (Bool × HP) :=
  oCal 2 (some 1) EX1_hasMark fZ (oIfne (oAld 0 (oAld 0 (oGet 10 2 (oIld 1 (oPick [0, 1] (BX10_back_23)))))) (oAld 0 (oConst (.int 1) (oCal 2 (some 10) EX10_rejected fZH (oZretH)))))
set_option maxRecDepth 20000 in
theorem sBX10_back_5 : Snd XX10_back fZH 5 (BX10_back_5) (0) (0) := by
  unfold BX10_back_5
  refine s_cal0 8 (run_V (X := XX10_back) rfl clX1 yoX1_hasMark rfl tw_1176 tw_1177 tw_1178 (by decide) dX10_back_5) cmX1_hasMark (fun _ _ _ => rfl) rfl ?_
  refine s_ifne 17 11 dX10_back_8 (by decide) rfl ?_ ?_
  · refine s_Aldn 0 rfl 18 dX10_back_17 rfl ?_
    refine s_Aldn 0 rfl 19 dX10_back_18 rfl ?_
    refine s_get 10 2 22 clX10 (by decide) tw_351 dX10_back_19 rfl ?_
    refine s_Ildn 1 rfl 23 dX10_back_22 rfl ?_
    exact s_pick (sBX10_back_23)
  · refine s_Aldn 0 rfl 12 dX10_back_11 rfl ?_
    refine s_iconst 13 1 (by decide) dX10_back_12 rfl ?_
    refine s_cal0 16 (run_V (X := XX10_back) rfl clX10 yoX10_rejected rfl tw_1104 tw_1106 tw_p45 (by decide) dX10_back_13) cmX10_rejected (fun _ _ _ => rfl) rfl ?_
    exact s_zretH rfl dX10_back_16
def BX10_back_0 : KT (Bool × HP) :=
  oAld 0 (oGet 10 2 (oIld 1 (oPick [0, 1] (BX10_back_5))))
set_option maxRecDepth 20000 in
theorem sBX10_back_0 : Snd XX10_back fZH 0 (BX10_back_0) (0) (0) := by
  unfold BX10_back_0
  refine s_Aldn 0 rfl 1 dX10_back_0 rfl ?_
  refine s_get 10 2 4 clX10 (by decide) tw_351 dX10_back_1 rfl ?_
  refine s_Ildn 1 rfl 5 dX10_back_4 rfl ?_
  exact s_pick (sBX10_back_5)
def EX10_back : List Value → HP → Option (Bool × HP) := en 2 BX10_back_0
theorem cmX10_back : CM XX10_back EX10_back fZH 0 0 := CM.of rfl (by decide) rfl rfl sBX10_back_0
theorem yoX10_back : YO XX10_back 1 0 0 := ⟨tw_1175, rfl, tw_1, (by decide +kernel), rfl, rfl⟩
abbrev XX10_size : MX := (yX10_size, cX10_size, 2, (Option.some .int), Cond.code yX10_size cX10_size 2 (Option.some .int) :: WS, { frames := 1, cells := 0, slots := 0, locals := 21 })
def BX10_size_102 : KT Int32 :=
  oCal 2 (some 3) EX3_told fI (oIretP)
set_option maxRecDepth 20000 in
theorem sBX10_size_102 : Snd XX10_size fI 102 (BX10_size_102) (0) (0) := by
  unfold BX10_size_102
  refine s_cal0 105 (run_V (X := XX10_size) rfl clX3 yoX3_told rfl tw_1200 tw_1201 tw_1202 (by decide) dX10_size_102) cmX3_told (fun _ _ _ => rfl) rfl ?_
  exact s_iretP rfl dX10_size_105
def BX10_size_0 : KT Int32 :=
  oIld 1 (oIflt (oConst (.int (-1)) (oIretP)) (oIld 1 (oConst (.int 12) (oCmple (oIld 1 (oConst (.int 12) (oCmpne (oAld 0 (oGet 10 9 (oIfne (oIld 1 (oTab 8 [(oAld 0 (oGet 10 10 (oCal 1 none EJ13_bitCount_95d88 fI (oIretP)))), (oAld 0 (oGet 10 11 (oIretP))), (oAld 0 (oGet 10 2 (oCal 1 (some 1) EX1_actCount fI (oIretP)))), (oAld 0 (oGet 10 2 (oCal 1 (some 1) EX1_markCount fI (oIretP))))] (oAld 0 (oGet 10 7 (oIld 1 (oPick [] (BX10_size_102))))))) (oConst (.int 0) (oIretP))))) (oAld 0 (oGet 10 0 (oCal 1 (some 6) EX6_length fI (oIretP))))))) (oConst (.int (-1)) (oIretP))))))
set_option maxRecDepth 20000 in
theorem sBX10_size_0 : Snd XX10_size fI 0 (BX10_size_0) (0) (0) := by
  unfold BX10_size_0
  refine s_Ildn 1 rfl 1 dX10_size_0 rfl ?_
  refine s_iflt 10 4 dX10_size_1 (by decide) rfl ?_ ?_
  · refine s_iconst 11 (-1) (by decide) dX10_size_10 rfl ?_
    exact s_iretP rfl dX10_size_11
  · refine s_Ildn 1 rfl 5 dX10_size_4 rfl ?_
    refine s_bipush 7 12 (by decide) dX10_size_5 rfl ?_
    refine s_cmple 12 10 dX10_size_7 (by decide) rfl ?_ ?_
    · refine s_Ildn 1 rfl 13 dX10_size_12 rfl ?_
      refine s_bipush 15 12 (by decide) dX10_size_13 rfl ?_
      refine s_cmpne 26 18 dX10_size_15 (by decide) rfl ?_ ?_
      · refine s_Aldn 0 rfl 27 dX10_size_26 rfl ?_
        refine s_get 10 9 30 clX10 (by decide) tw_358 dX10_size_27 rfl ?_
        refine s_ifne 35 33 dX10_size_30 (by decide) rfl ?_ ?_
        · refine s_Ildn 1 rfl 36 dX10_size_35 rfl ?_
          refine s_tab 8 11 8 [68, 76, 81, 89] 97 dX10_size_36 rfl (by decide) (by decide) (by decide) (by decide) (by decide) ?_ ?_
          · refine s_Aldn 0 rfl 98 dX10_size_97 rfl ?_
            refine s_get 10 7 101 clX10 (by decide) tw_356 dX10_size_98 rfl ?_
            refine s_Ildn 1 rfl 102 dX10_size_101 rfl ?_
            exact s_pick (sBX10_size_102)
          · refine Sall_cons ?_ ?_
            · refine s_Aldn 0 rfl 69 dX10_size_68 rfl ?_
              refine s_get 10 10 72 clX10 (by decide) tw_359 dX10_size_69 rfl ?_
              refine s_cal0 75 (run_S (X := XX10_size) yoJ13_bitCount_95d88 tw_696 tw_697 (by decide) dX10_size_72) cmJ13_bitCount_95d88 (fun _ _ _ => rfl) rfl ?_
              exact s_iretP rfl dX10_size_75
            · refine Sall_cons ?_ ?_
              · refine s_Aldn 0 rfl 77 dX10_size_76 rfl ?_
                refine s_get 10 11 80 clX10 (by decide) tw_360 dX10_size_77 rfl ?_
                exact s_iretP rfl dX10_size_80
              · refine Sall_cons ?_ ?_
                · refine s_Aldn 0 rfl 82 dX10_size_81 rfl ?_
                  refine s_get 10 2 85 clX10 (by decide) tw_351 dX10_size_82 rfl ?_
                  refine s_cal0 88 (run_V (X := XX10_size) rfl clX1 yoX1_actCount rfl tw_1148 tw_1149 tw_1150 (by decide) dX10_size_85) cmX1_actCount (fun _ _ _ => rfl) rfl ?_
                  exact s_iretP rfl dX10_size_88
                · refine Sall_cons ?_ ?_
                  · refine s_Aldn 0 rfl 90 dX10_size_89 rfl ?_
                    refine s_get 10 2 93 clX10 (by decide) tw_351 dX10_size_90 rfl ?_
                    refine s_cal0 96 (run_V (X := XX10_size) rfl clX1 yoX1_markCount rfl tw_1196 tw_1197 tw_1198 (by decide) dX10_size_93) cmX1_markCount (fun _ _ _ => rfl) rfl ?_
                    exact s_iretP rfl dX10_size_96
                  · exact Sall_nil
        · refine s_iconst 34 0 (by decide) dX10_size_33 rfl ?_
          exact s_iretP rfl dX10_size_34
      · refine s_Aldn 0 rfl 19 dX10_size_18 rfl ?_
        refine s_get 10 0 22 clX10 (by decide) tw_349 dX10_size_19 rfl ?_
        refine s_cal0 25 (run_V (X := XX10_size) rfl clX6 yoX6_length rfl tw_407 tw_408 tw_409 (by decide) dX10_size_22) cmX6_length (fun _ _ _ => rfl) rfl ?_
        exact s_iretP rfl dX10_size_25
    · refine s_iconst 11 (-1) (by decide) dX10_size_10 rfl ?_
      exact s_iretP rfl dX10_size_11
def EX10_size : List Value → HP → Option Int32 := en 2 BX10_size_0
theorem cmX10_size : CM XX10_size EX10_size fI 0 0 := CM.of rfl (by decide) rfl rfl sBX10_size_0
theorem yoX10_size : YO XX10_size 1 0 0 := ⟨tw_1195, rfl, tw_1, (by decide +kernel), rfl, rfl⟩
abbrev XX10_trouble : MX := (yX10_trouble, cX10_trouble, 1, (Option.some .int), Cond.code yX10_trouble cX10_trouble 1 (Option.some .int) :: WS, { frames := 0, cells := 0, slots := 0, locals := 0 })
def BX10_trouble_0 : KT Int32 :=
  oAld 0 (oGet 10 12 (oIretP))
set_option maxRecDepth 20000 in
theorem sBX10_trouble_0 : Snd XX10_trouble fI 0 (BX10_trouble_0) (0) (0) := by
  unfold BX10_trouble_0
  refine s_Aldn 0 rfl 1 dX10_trouble_0 rfl ?_
  refine s_get 10 12 4 clX10 (by decide) tw_361 dX10_trouble_1 rfl ?_
  exact s_iretP rfl dX10_trouble_4
def EX10_trouble : List Value → HP → Option Int32 := en 1 BX10_trouble_0
theorem cmX10_trouble : CM XX10_trouble EX10_trouble fI 0 0 := CM.of rfl (by decide) rfl rfl sBX10_trouble_0
theorem yoX10_trouble : YO XX10_trouble 0 0 0 := ⟨tw_1207, rfl, tw_1, (by decide +kernel), rfl, rfl⟩
end
