noncomputable section
abbrev XX3_init : MX := (yX3_init, cX3_init, 2, none, Cond.code yX3_init cX3_init 2 none :: WS, { frames := 2, cells := 15, slots := 257, locals := 40 })
def BX3_init_79 (k79 : KT HP) : KT HP :=
  oIld 1 (oAld 0 (oGet 3 7 (oLen (oCmpge (oAld 0 (oConst (.int (-2)) (oPut 3 13 .int (oVretH)))) (oAld 0 (oGet 3 7 (oIld 1 (oNew 9 [.long 0, .int 0, .int 0, .int 0, .int 0] (odup (oCal 1 (some 9) EX9_init fVH (oQw (oInc 1 1 (oPick [0, 1] k79)))))))))))))
set_option maxRecDepth 20000 in
theorem sBX3_init_79 {k79 : KT HP} {a b : Nat} (hk79 : Snd XX3_init fVH 79 k79 a b) : Snd XX3_init fVH 79 (BX3_init_79 k79) (1 + a) (5 + b) := by
  unfold BX3_init_79
  refine s_Ildn 1 rfl 80 dX3_init_79 rfl ?_
  refine s_Aldn 0 rfl 81 dX3_init_80 rfl ?_
  refine s_get 3 7 84 clX3 (by decide) tw_248 dX3_init_81 rfl ?_
  refine s_len 85 dX3_init_84 rfl ?_
  refine s_cmpge 107 88 dX3_init_85 (by decide) rfl ?_ ?_
  · refine Snd.more (mc := 0) (ms := 0) ?_ (by omega) (by omega)
    refine s_Aldn 0 rfl 108 dX3_init_107 rfl ?_
    refine s_bipush 110 (-2) (by decide) dX3_init_108 rfl ?_
    refine s_put 3 13 113 clX3 (by decide) rfl rfl pVH tw_262 dX3_init_110 rfl ?_
    exact s_vretH rfl dX3_init_113
  · refine s_Aldn 0 rfl 89 dX3_init_88 rfl ?_
    refine s_get 3 7 92 clX3 (by decide) tw_248 dX3_init_89 rfl ?_
    refine s_Ildn 1 rfl 93 dX3_init_92 rfl ?_
    refine s_new (mc := a) (ms := b) 9 96 clX9 (by decide +kernel) (fun _ => rfl) pVH tw_204 tw_206 tw_10 dX3_init_93 rfl ?_
    refine s_dup 97 dX3_init_96 rfl ?_
    refine s_cal0 100 (run_IN (X := XX3_init) 9 rfl yoX9_init rfl rfl nw_73 tw_208 (by decide) dX3_init_97) cmX9_init (fun _ _ _ => rfl) rfl ?_
    refine s_Qw 101 rfl pVH dX3_init_100 rfl ?_
    refine s_inc 1 1 104 (by decide) (by decide) dX3_init_101 rfl ?_
    refine s_goto 79 dX3_init_104 (by decide) ?_
    exact s_pick hk79
def BX3_init_0 : KT HP :=
  oAld 0 (oPopA (oAld 0 (oNew 0 [.null, .int 0, .int 0, .int 0, .long 0, .long 0, .long 0] (odup (oCal 1 (some 0) EX0_init fVH (oPut 3 0 (.object "MownMaze$Ground") (oAld 0 (oNew 2 [.long 0, .long 0, .int 0] (odup (oCal 1 (some 2) EX2_init fVH (oPut 3 1 (.object "MownMaze$Picture") (oAld 0 (oNew 2 [.long 0, .long 0, .int 0] (odup (oCal 1 (some 2) EX2_init fVH (oPut 3 2 (.object "MownMaze$Picture") (oAld 0 (oNew 2 [.long 0, .long 0, .int 0] (odup (oCal 1 (some 2) EX2_init fVH (oPut 3 3 (.object "MownMaze$Picture") (oAld 0 (oConst (.int 4) (oNar 1 zI 4 (oPut 3 4 (.array .int) (oAld 0 (oConst (.int 5) (oNar 1 zI 5 (oPut 3 5 (.array .int) (oAld 0 (oConst (.int 5) (oNar 1 zI 5 (oPut 3 6 (.array .int) (oAld 0 (oConst (.int 5) (oNar 3 zQ 5 (oPut 3 7 (.array (.object "MownMaze$Walker")) (oConst (.int 0) (oIst 1 (oPick [0, 1] (BX3_init_79 (BX3_init_79 (BX3_init_79 (BX3_init_79 (BX3_init_79 (BX3_init_79 kN))))))))))))))))))))))))))))))))))))))))))))))
set_option maxRecDepth 20000 in
theorem sBX3_init_0 : Snd XX3_init fVH 0 (BX3_init_0) (15) (257) := by
  unfold BX3_init_0
  refine s_Aldn 0 rfl 1 dX3_init_0 rfl ?_
  refine s_objI 4 tw_148 tw_31 tw_32 (by decide) (by decide) dX3_init_1 rfl ?_
  refine s_Aldn 0 rfl 5 dX3_init_4 rfl ?_
  refine s_new (mc := 14) (ms := 250) 0 8 clX0 (by decide +kernel) (fun _ => rfl) pVH tw_149 tw_150 tw_8 dX3_init_5 rfl ?_
  refine s_dup 9 dX3_init_8 rfl ?_
  refine s_cal (mc := 13) (ms := 58) 12 (run_IN (X := XX3_init) 0 rfl yoX0_init rfl rfl nw_71 tw_152 (by decide) dX3_init_9) cmX0_init (fun _ _ _ => rfl) rfl ?_
  refine s_putF 3 0 15 clX3 (by decide) rfl rfl rfl rfl pVH tw_232 dX3_init_12 rfl ?_
  refine s_Aldn 0 rfl 16 dX3_init_15 rfl ?_
  refine s_new (mc := 12) (ms := 55) 2 19 clX2 (by decide +kernel) (fun _ => rfl) pVH tw_184 tw_185 tw_9 dX3_init_16 rfl ?_
  refine s_dup 20 dX3_init_19 rfl ?_
  refine s_cal0 23 (run_IN (X := XX3_init) 2 rfl yoX2_init rfl rfl nw_72 tw_187 (by decide) dX3_init_20) cmX2_init (fun _ _ _ => rfl) rfl ?_
  refine s_putF 3 1 26 clX3 (by decide) rfl rfl rfl rfl pVH tw_236 dX3_init_23 rfl ?_
  refine s_Aldn 0 rfl 27 dX3_init_26 rfl ?_
  refine s_new (mc := 11) (ms := 52) 2 30 clX2 (by decide +kernel) (fun _ => rfl) pVH tw_184 tw_185 tw_9 dX3_init_27 rfl ?_
  refine s_dup 31 dX3_init_30 rfl ?_
  refine s_cal0 34 (run_IN (X := XX3_init) 2 rfl yoX2_init rfl rfl nw_72 tw_187 (by decide) dX3_init_31) cmX2_init (fun _ _ _ => rfl) rfl ?_
  refine s_putF 3 2 37 clX3 (by decide) rfl rfl rfl rfl pVH tw_239 dX3_init_34 rfl ?_
  refine s_Aldn 0 rfl 38 dX3_init_37 rfl ?_
  refine s_new (mc := 10) (ms := 49) 2 41 clX2 (by decide +kernel) (fun _ => rfl) pVH tw_184 tw_185 tw_9 dX3_init_38 rfl ?_
  refine s_dup 42 dX3_init_41 rfl ?_
  refine s_cal0 45 (run_IN (X := XX3_init) 2 rfl yoX2_init rfl rfl nw_72 tw_187 (by decide) dX3_init_42) cmX2_init (fun _ _ _ => rfl) rfl ?_
  refine s_putF 3 3 48 clX3 (by decide) rfl rfl rfl rfl pVH tw_242 dX3_init_45 rfl ?_
  refine s_Aldn 0 rfl 49 dX3_init_48 rfl ?_
  refine s_iconst 50 4 (by decide) dX3_init_49 rfl ?_
  refine s_narI (mc := 9) (ms := 45) 4 52 (by decide) pVH tw_126 dX3_init_50 rfl ?_
  refine s_putF 3 4 55 clX3 (by decide) rfl rfl rfl rfl pVH tw_245 dX3_init_52 rfl ?_
  refine s_Aldn 0 rfl 56 dX3_init_55 rfl ?_
  refine s_iconst 57 5 (by decide) dX3_init_56 rfl ?_
  refine s_narI (mc := 8) (ms := 40) 5 59 (by decide) pVH tw_126 dX3_init_57 rfl ?_
  refine s_putF 3 5 62 clX3 (by decide) rfl rfl rfl rfl pVH tw_246 dX3_init_59 rfl ?_
  refine s_Aldn 0 rfl 63 dX3_init_62 rfl ?_
  refine s_iconst 64 5 (by decide) dX3_init_63 rfl ?_
  refine s_narI (mc := 7) (ms := 35) 5 66 (by decide) pVH tw_126 dX3_init_64 rfl ?_
  refine s_putF 3 6 69 clX3 (by decide) rfl rfl rfl rfl pVH tw_247 dX3_init_66 rfl ?_
  refine s_Aldn 0 rfl 70 dX3_init_69 rfl ?_
  refine s_iconst 71 5 (by decide) dX3_init_70 rfl ?_
  refine s_anew (mc := 6) (ms := 30) 5 74 (by decide) pVH tw_204 dX3_init_71 rfl ?_
  refine s_putF 3 7 77 clX3 (by decide) rfl rfl rfl rfl pVH tw_248 dX3_init_74 rfl ?_
  refine s_iconst 78 0 (by decide) dX3_init_77 rfl ?_
  refine s_Istn 1 rfl 79 (by decide) dX3_init_78 rfl ?_
  exact s_pick (sBX3_init_79 (sBX3_init_79 (sBX3_init_79 (sBX3_init_79 (sBX3_init_79 (sBX3_init_79 (s_none (mc := 0) (ms := 0))))))))
def EX3_init : List Value → HP → Option HP := en 2 BX3_init_0
theorem cmX3_init : CM XX3_init EX3_init fVH 15 257 := CM.of rfl (by decide) rfl rfl sBX3_init_0
theorem yoX3_init : YO XX3_init 0 15 257 := ⟨tw_147, rfl, tw_7, (by decide +kernel), rfl, rfl⟩
abbrev XX3_empty : MX := (yX3_empty, cX3_empty, 1, none, Cond.code yX3_empty cX3_empty 1 none :: WS, { frames := 3, cells := 0, slots := 0, locals := 72 })
def BX3_empty_6 : KT HP :=
  oCal 3 (some 0) EX0_lay fVH (oAld 0 (oGet 3 1 (oCal 1 (some 2) EX2_empty fVH (oAld 0 (oGet 3 2 (oCal 1 (some 2) EX2_empty fVH (oAld 0 (oGet 3 3 (oCal 1 (some 2) EX2_empty fVH (oAld 0 (oConst (.int 0) (oPut 3 11 .int (oAld 0 (oConst (.long 0) (oPut 3 12 .long (oAld 0 (oConst (.int (-2)) (oPut 3 13 .int (oAld 0 (oConst (.int 0) (oPut 3 14 .int (oAld 0 (oConst (.int 0) (oPut 3 15 .int (oVretH)))))))))))))))))))))))))
set_option maxRecDepth 20000 in
theorem sBX3_empty_6 : Snd XX3_empty fVH 6 (BX3_empty_6) (0) (0) := by
  unfold BX3_empty_6
  refine s_cal0 9 (run_V (X := XX3_empty) rfl clX0 yoX0_lay rfl tw_427 tw_428 tw_429 (by decide) dX3_empty_6) cmX0_lay (fun _ _ _ => rfl) rfl ?_
  refine s_Aldn 0 rfl 10 dX3_empty_9 rfl ?_
  refine s_get 3 1 13 clX3 (by decide) tw_236 dX3_empty_10 rfl ?_
  refine s_cal0 16 (run_V (X := XX3_empty) rfl clX2 yoX2_empty rfl tw_446 tw_447 tw_448 (by decide) dX3_empty_13) cmX2_empty (fun _ _ _ => rfl) rfl ?_
  refine s_Aldn 0 rfl 17 dX3_empty_16 rfl ?_
  refine s_get 3 2 20 clX3 (by decide) tw_239 dX3_empty_17 rfl ?_
  refine s_cal0 23 (run_V (X := XX3_empty) rfl clX2 yoX2_empty rfl tw_446 tw_447 tw_448 (by decide) dX3_empty_20) cmX2_empty (fun _ _ _ => rfl) rfl ?_
  refine s_Aldn 0 rfl 24 dX3_empty_23 rfl ?_
  refine s_get 3 3 27 clX3 (by decide) tw_242 dX3_empty_24 rfl ?_
  refine s_cal0 30 (run_V (X := XX3_empty) rfl clX2 yoX2_empty rfl tw_446 tw_447 tw_448 (by decide) dX3_empty_27) cmX2_empty (fun _ _ _ => rfl) rfl ?_
  refine s_Aldn 0 rfl 31 dX3_empty_30 rfl ?_
  refine s_iconst 32 0 (by decide) dX3_empty_31 rfl ?_
  refine s_put 3 11 35 clX3 (by decide) rfl rfl pVH tw_256 dX3_empty_32 rfl ?_
  refine s_Aldn 0 rfl 36 dX3_empty_35 rfl ?_
  refine s_lconst 37 0 (by decide) dX3_empty_36 rfl ?_
  refine s_put 3 12 40 clX3 (by decide) rfl rfl pVH tw_258 dX3_empty_37 rfl ?_
  refine s_Aldn 0 rfl 41 dX3_empty_40 rfl ?_
  refine s_bipush 43 (-2) (by decide) dX3_empty_41 rfl ?_
  refine s_put 3 13 46 clX3 (by decide) rfl rfl pVH tw_262 dX3_empty_43 rfl ?_
  refine s_Aldn 0 rfl 47 dX3_empty_46 rfl ?_
  refine s_iconst 48 0 (by decide) dX3_empty_47 rfl ?_
  refine s_put 3 14 51 clX3 (by decide) rfl rfl pVH tw_265 dX3_empty_48 rfl ?_
  refine s_Aldn 0 rfl 52 dX3_empty_51 rfl ?_
  refine s_iconst 53 0 (by decide) dX3_empty_52 rfl ?_
  refine s_put 3 15 56 clX3 (by decide) rfl rfl pVH tw_267 dX3_empty_53 rfl ?_
  exact s_vretH rfl dX3_empty_56
def BX3_empty_0 : KT HP :=
  oAld 0 (oGet 3 0 (oConst (.int 0) (oConst (.int 0) (oPick [0] (BX3_empty_6)))))
set_option maxRecDepth 20000 in
theorem sBX3_empty_0 : Snd XX3_empty fVH 0 (BX3_empty_0) (0) (0) := by
  unfold BX3_empty_0
  refine s_Aldn 0 rfl 1 dX3_empty_0 rfl ?_
  refine s_get 3 0 4 clX3 (by decide) tw_232 dX3_empty_1 rfl ?_
  refine s_iconst 5 0 (by decide) dX3_empty_4 rfl ?_
  refine s_iconst 6 0 (by decide) dX3_empty_5 rfl ?_
  exact s_pick (sBX3_empty_6)
def EX3_empty : List Value → HP → Option HP := en 1 BX3_empty_0
theorem cmX3_empty : CM XX3_empty EX3_empty fVH 0 0 := CM.of rfl (by decide) rfl rfl sBX3_empty_0
theorem yoX3_empty : YO XX3_empty 0 0 0 := ⟨tw_426, rfl, tw_7, (by decide +kernel), rfl, rfl⟩
abbrev XX3_lay : MX := (yX3_lay, cX3_lay, 6, none, Cond.code yX3_lay cX3_lay 6 none :: WS, { frames := 3, cells := 0, slots := 0, locals := 72 })
def BX3_lay_6 : KT HP :=
  oCal 3 (some 0) EX0_lay fVH (oAld 0 (oIld 3 (oPut 3 8 .int (oAld 0 (oIld 4 (oPut 3 9 .int (oAld 0 (oIld 5 (oPut 3 10 .int (oVretH))))))))))
set_option maxRecDepth 20000 in
theorem sBX3_lay_6 : Snd XX3_lay fVH 6 (BX3_lay_6) (0) (0) := by
  unfold BX3_lay_6
  refine s_cal0 9 (run_V (X := XX3_lay) rfl clX0 yoX0_lay rfl tw_427 tw_428 tw_429 (by decide) dX3_lay_6) cmX0_lay (fun _ _ _ => rfl) rfl ?_
  refine s_Aldn 0 rfl 10 dX3_lay_9 rfl ?_
  refine s_Ildn 3 rfl 11 dX3_lay_10 rfl ?_
  refine s_put 3 8 14 clX3 (by decide) rfl rfl pVH tw_249 dX3_lay_11 rfl ?_
  refine s_Aldn 0 rfl 15 dX3_lay_14 rfl ?_
  refine s_Ild 4 17 dX3_lay_15 rfl ?_
  refine s_put 3 9 20 clX3 (by decide) rfl rfl pVH tw_252 dX3_lay_17 rfl ?_
  refine s_Aldn 0 rfl 21 dX3_lay_20 rfl ?_
  refine s_Ild 5 23 dX3_lay_21 rfl ?_
  refine s_put 3 10 26 clX3 (by decide) rfl rfl pVH tw_254 dX3_lay_23 rfl ?_
  exact s_vretH rfl dX3_lay_26
def BX3_lay_0 : KT HP :=
  oAld 0 (oGet 3 0 (oIld 1 (oIld 2 (oPick [0, 3, 4, 5] (BX3_lay_6)))))
set_option maxRecDepth 20000 in
theorem sBX3_lay_0 : Snd XX3_lay fVH 0 (BX3_lay_0) (0) (0) := by
  unfold BX3_lay_0
  refine s_Aldn 0 rfl 1 dX3_lay_0 rfl ?_
  refine s_get 3 0 4 clX3 (by decide) tw_232 dX3_lay_1 rfl ?_
  refine s_Ildn 1 rfl 5 dX3_lay_4 rfl ?_
  refine s_Ildn 2 rfl 6 dX3_lay_5 rfl ?_
  exact s_pick (sBX3_lay_6)
def EX3_lay : List Value → HP → Option HP := en 6 BX3_lay_0
theorem cmX3_lay : CM XX3_lay EX3_lay fVH 0 0 := CM.of rfl (by decide) rfl rfl sBX3_lay_0
theorem yoX3_lay : YO XX3_lay 5 0 0 := ⟨tw_590, rfl, tw_7, (by decide +kernel), rfl, rfl⟩
abbrev XX3_isLaid : MX := (yX3_isLaid, cX3_isLaid, 1, (Option.some .boolean), Cond.code yX3_isLaid cX3_isLaid 1 (Option.some .boolean) :: WS, { frames := 0, cells := 0, slots := 0, locals := 0 })
def BX3_isLaid_0 : KT Bool :=
  oAld 0 (oGet 3 0 (oGet 0 3 (oIfle (oConst (.int 0) (oZretP)) (oConst (.int 1) (oZretP)))))
set_option maxRecDepth 20000 in
theorem sBX3_isLaid_0 : Snd XX3_isLaid fZ 0 (BX3_isLaid_0) (0) (0) := by
  unfold BX3_isLaid_0
  refine s_Aldn 0 rfl 1 dX3_isLaid_0 rfl ?_
  refine s_get 3 0 4 clX3 (by decide) tw_232 dX3_isLaid_1 rfl ?_
  refine s_getN 0 3 7 clX0 (by decide) nw_4 dX3_isLaid_4 rfl ?_
  refine s_ifle 14 10 dX3_isLaid_7 (by decide) rfl ?_ ?_
  · refine s_iconst 15 0 (by decide) dX3_isLaid_14 rfl ?_
    exact s_zretP rfl dX3_isLaid_15
  · refine s_iconst 11 1 (by decide) dX3_isLaid_10 rfl ?_
    refine s_goto 15 dX3_isLaid_11 (by decide) ?_
    exact s_zretP rfl dX3_isLaid_15
def EX3_isLaid : List Value → HP → Option Bool := en 1 BX3_isLaid_0
theorem cmX3_isLaid : CM XX3_isLaid EX3_isLaid fZ 0 0 := CM.of rfl (by decide) rfl rfl sBX3_isLaid_0
theorem yoX3_isLaid : YO XX3_isLaid 0 0 0 := ⟨tw_548, rfl, tw_7, (by decide +kernel), rfl, rfl⟩
abbrev XX3_lacksRows : MX := (yX3_lacksRows, cX3_lacksRows, 1, (Option.some .boolean), Cond.code yX3_lacksRows cX3_lacksRows 1 (Option.some .boolean) :: WS, { frames := 0, cells := 0, slots := 0, locals := 0 })
def BX3_lacksRows_0 : KT Bool :=
  oAld 0 (oGet 3 1 (oGet 2 2 (oAld 0 (oGet 3 0 (oGet 0 2 (oCmpge (oConst (.int 0) (oZretP)) (oConst (.int 1) (oZretP))))))))
set_option maxRecDepth 20000 in
theorem sBX3_lacksRows_0 : Snd XX3_lacksRows fZ 0 (BX3_lacksRows_0) (0) (0) := by
  unfold BX3_lacksRows_0
  refine s_Aldn 0 rfl 1 dX3_lacksRows_0 rfl ?_
  refine s_get 3 1 4 clX3 (by decide) tw_236 dX3_lacksRows_1 rfl ?_
  refine s_getN 2 2 7 clX2 (by decide) nw_9 dX3_lacksRows_4 rfl ?_
  refine s_Aldn 0 rfl 8 dX3_lacksRows_7 rfl ?_
  refine s_get 3 0 11 clX3 (by decide) tw_232 dX3_lacksRows_8 rfl ?_
  refine s_getN 0 2 14 clX0 (by decide) nw_2 dX3_lacksRows_11 rfl ?_
  refine s_cmpge 21 17 dX3_lacksRows_14 (by decide) rfl ?_ ?_
  · refine s_iconst 22 0 (by decide) dX3_lacksRows_21 rfl ?_
    exact s_zretP rfl dX3_lacksRows_22
  · refine s_iconst 18 1 (by decide) dX3_lacksRows_17 rfl ?_
    refine s_goto 22 dX3_lacksRows_18 (by decide) ?_
    exact s_zretP rfl dX3_lacksRows_22
def EX3_lacksRows : List Value → HP → Option Bool := en 1 BX3_lacksRows_0
theorem cmX3_lacksRows : CM XX3_lacksRows EX3_lacksRows fZ 0 0 := CM.of rfl (by decide) rfl rfl sBX3_lacksRows_0
theorem yoX3_lacksRows : YO XX3_lacksRows 0 0 0 := ⟨tw_679, rfl, tw_7, (by decide +kernel), rfl, rfl⟩
abbrev XX3_hasNoise : MX := (yX3_hasNoise, cX3_hasNoise, 1, (Option.some .boolean), Cond.code yX3_hasNoise cX3_hasNoise 1 (Option.some .boolean) :: WS, { frames := 0, cells := 0, slots := 0, locals := 0 })
def BX3_hasNoise_0 : KT Bool :=
  oAld 0 (oGet 3 13 (oConst (.int (-2)) (oCmpeq (oConst (.int 0) (oZretP)) (oConst (.int 1) (oZretP)))))
set_option maxRecDepth 20000 in
theorem sBX3_hasNoise_0 : Snd XX3_hasNoise fZ 0 (BX3_hasNoise_0) (0) (0) := by
  unfold BX3_hasNoise_0
  refine s_Aldn 0 rfl 1 dX3_hasNoise_0 rfl ?_
  refine s_get 3 13 4 clX3 (by decide) tw_262 dX3_hasNoise_1 rfl ?_
  refine s_bipush 6 (-2) (by decide) dX3_hasNoise_4 rfl ?_
  refine s_cmpeq 13 9 dX3_hasNoise_6 (by decide) rfl ?_ ?_
  · refine s_iconst 14 0 (by decide) dX3_hasNoise_13 rfl ?_
    exact s_zretP rfl dX3_hasNoise_14
  · refine s_iconst 10 1 (by decide) dX3_hasNoise_9 rfl ?_
    refine s_goto 14 dX3_hasNoise_10 (by decide) ?_
    exact s_zretP rfl dX3_hasNoise_14
def EX3_hasNoise : List Value → HP → Option Bool := en 1 BX3_hasNoise_0
theorem cmX3_hasNoise : CM XX3_hasNoise EX3_hasNoise fZ 0 0 := CM.of rfl (by decide) rfl rfl sBX3_hasNoise_0
theorem yoX3_hasNoise : YO XX3_hasNoise 0 0 0 := ⟨tw_594, rfl, tw_7, (by decide +kernel), rfl, rfl⟩
abbrev XX3_hasRoomFor : MX := (yX3_hasRoomFor, cX3_hasRoomFor, 2, (Option.some .boolean), Cond.code yX3_hasRoomFor cX3_hasRoomFor 2 (Option.some .boolean) :: WS, { frames := 0, cells := 0, slots := 0, locals := 0 })
def BX3_hasRoomFor_0 : KT Bool :=
  oIld 1 (oTab 1 [(oAld 0 (oGet 3 1 (oGet 2 2 (oAld 0 (oGet 3 0 (oGet 0 2 (oCmpge (oConst (.int 0) (oZretP)) (oConst (.int 1) (oZretP))))))))), (oAld 0 (oGet 3 2 (oGet 2 2 (oAld 0 (oGet 3 0 (oGet 0 2 (oCmpge (oConst (.int 0) (oZretP)) (oConst (.int 1) (oZretP))))))))), (oAld 0 (oGet 3 3 (oGet 2 2 (oAld 0 (oGet 3 0 (oGet 0 2 (oCmpge (oConst (.int 0) (oZretP)) (oConst (.int 1) (oZretP))))))))), (oAld 0 (oGet 3 11 (oAld 0 (oGet 3 4 (oLen (oCmpge (oConst (.int 0) (oZretP)) (oConst (.int 1) (oZretP)))))))), (oConst (.int 1) (oZretP)), (oAld 0 (oGet 3 14 (oAld 0 (oGet 3 5 (oLen (oCmpge (oConst (.int 0) (oZretP)) (oConst (.int 1) (oZretP)))))))), (oAld 0 (oGet 3 15 (oAld 0 (oGet 3 7 (oLen (oCmpge (oConst (.int 0) (oZretP)) (oConst (.int 1) (oZretP))))))))] (oConst (.int 1) (oZretP)))
set_option maxRecDepth 20000 in
theorem sBX3_hasRoomFor_0 : Snd XX3_hasRoomFor fZ 0 (BX3_hasRoomFor_0) (0) (0) := by
  unfold BX3_hasRoomFor_0
  refine s_Ildn 1 rfl 1 dX3_hasRoomFor_0 rfl ?_
  refine s_tab 1 7 1 [44, 67, 90, 113, 167, 131, 149] 167 dX3_hasRoomFor_1 rfl (by decide) (by decide) (by decide) (by decide) (by decide) ?_ ?_
  · refine s_iconst 168 1 (by decide) dX3_hasRoomFor_167 rfl ?_
    exact s_zretP rfl dX3_hasRoomFor_168
  · refine Sall_cons ?_ ?_
    · refine s_Aldn 0 rfl 45 dX3_hasRoomFor_44 rfl ?_
      refine s_get 3 1 48 clX3 (by decide) tw_236 dX3_hasRoomFor_45 rfl ?_
      refine s_getN 2 2 51 clX2 (by decide) nw_9 dX3_hasRoomFor_48 rfl ?_
      refine s_Aldn 0 rfl 52 dX3_hasRoomFor_51 rfl ?_
      refine s_get 3 0 55 clX3 (by decide) tw_232 dX3_hasRoomFor_52 rfl ?_
      refine s_getN 0 2 58 clX0 (by decide) nw_2 dX3_hasRoomFor_55 rfl ?_
      refine s_cmpge 65 61 dX3_hasRoomFor_58 (by decide) rfl ?_ ?_
      · refine s_iconst 66 0 (by decide) dX3_hasRoomFor_65 rfl ?_
        exact s_zretP rfl dX3_hasRoomFor_66
      · refine s_iconst 62 1 (by decide) dX3_hasRoomFor_61 rfl ?_
        refine s_goto 66 dX3_hasRoomFor_62 (by decide) ?_
        exact s_zretP rfl dX3_hasRoomFor_66
    · refine Sall_cons ?_ ?_
      · refine s_Aldn 0 rfl 68 dX3_hasRoomFor_67 rfl ?_
        refine s_get 3 2 71 clX3 (by decide) tw_239 dX3_hasRoomFor_68 rfl ?_
        refine s_getN 2 2 74 clX2 (by decide) nw_9 dX3_hasRoomFor_71 rfl ?_
        refine s_Aldn 0 rfl 75 dX3_hasRoomFor_74 rfl ?_
        refine s_get 3 0 78 clX3 (by decide) tw_232 dX3_hasRoomFor_75 rfl ?_
        refine s_getN 0 2 81 clX0 (by decide) nw_2 dX3_hasRoomFor_78 rfl ?_
        refine s_cmpge 88 84 dX3_hasRoomFor_81 (by decide) rfl ?_ ?_
        · refine s_iconst 89 0 (by decide) dX3_hasRoomFor_88 rfl ?_
          exact s_zretP rfl dX3_hasRoomFor_89
        · refine s_iconst 85 1 (by decide) dX3_hasRoomFor_84 rfl ?_
          refine s_goto 89 dX3_hasRoomFor_85 (by decide) ?_
          exact s_zretP rfl dX3_hasRoomFor_89
      · refine Sall_cons ?_ ?_
        · refine s_Aldn 0 rfl 91 dX3_hasRoomFor_90 rfl ?_
          refine s_get 3 3 94 clX3 (by decide) tw_242 dX3_hasRoomFor_91 rfl ?_
          refine s_getN 2 2 97 clX2 (by decide) nw_9 dX3_hasRoomFor_94 rfl ?_
          refine s_Aldn 0 rfl 98 dX3_hasRoomFor_97 rfl ?_
          refine s_get 3 0 101 clX3 (by decide) tw_232 dX3_hasRoomFor_98 rfl ?_
          refine s_getN 0 2 104 clX0 (by decide) nw_2 dX3_hasRoomFor_101 rfl ?_
          refine s_cmpge 111 107 dX3_hasRoomFor_104 (by decide) rfl ?_ ?_
          · refine s_iconst 112 0 (by decide) dX3_hasRoomFor_111 rfl ?_
            exact s_zretP rfl dX3_hasRoomFor_112
          · refine s_iconst 108 1 (by decide) dX3_hasRoomFor_107 rfl ?_
            refine s_goto 112 dX3_hasRoomFor_108 (by decide) ?_
            exact s_zretP rfl dX3_hasRoomFor_112
        · refine Sall_cons ?_ ?_
          · refine s_Aldn 0 rfl 114 dX3_hasRoomFor_113 rfl ?_
            refine s_get 3 11 117 clX3 (by decide) tw_256 dX3_hasRoomFor_114 rfl ?_
            refine s_Aldn 0 rfl 118 dX3_hasRoomFor_117 rfl ?_
            refine s_get 3 4 121 clX3 (by decide) tw_245 dX3_hasRoomFor_118 rfl ?_
            refine s_len 122 dX3_hasRoomFor_121 rfl ?_
            refine s_cmpge 129 125 dX3_hasRoomFor_122 (by decide) rfl ?_ ?_
            · refine s_iconst 130 0 (by decide) dX3_hasRoomFor_129 rfl ?_
              exact s_zretP rfl dX3_hasRoomFor_130
            · refine s_iconst 126 1 (by decide) dX3_hasRoomFor_125 rfl ?_
              refine s_goto 130 dX3_hasRoomFor_126 (by decide) ?_
              exact s_zretP rfl dX3_hasRoomFor_130
          · refine Sall_cons ?_ ?_
            · refine s_iconst 168 1 (by decide) dX3_hasRoomFor_167 rfl ?_
              exact s_zretP rfl dX3_hasRoomFor_168
            · refine Sall_cons ?_ ?_
              · refine s_Aldn 0 rfl 132 dX3_hasRoomFor_131 rfl ?_
                refine s_get 3 14 135 clX3 (by decide) tw_265 dX3_hasRoomFor_132 rfl ?_
                refine s_Aldn 0 rfl 136 dX3_hasRoomFor_135 rfl ?_
                refine s_get 3 5 139 clX3 (by decide) tw_246 dX3_hasRoomFor_136 rfl ?_
                refine s_len 140 dX3_hasRoomFor_139 rfl ?_
                refine s_cmpge 147 143 dX3_hasRoomFor_140 (by decide) rfl ?_ ?_
                · refine s_iconst 148 0 (by decide) dX3_hasRoomFor_147 rfl ?_
                  exact s_zretP rfl dX3_hasRoomFor_148
                · refine s_iconst 144 1 (by decide) dX3_hasRoomFor_143 rfl ?_
                  refine s_goto 148 dX3_hasRoomFor_144 (by decide) ?_
                  exact s_zretP rfl dX3_hasRoomFor_148
              · refine Sall_cons ?_ ?_
                · refine s_Aldn 0 rfl 150 dX3_hasRoomFor_149 rfl ?_
                  refine s_get 3 15 153 clX3 (by decide) tw_267 dX3_hasRoomFor_150 rfl ?_
                  refine s_Aldn 0 rfl 154 dX3_hasRoomFor_153 rfl ?_
                  refine s_get 3 7 157 clX3 (by decide) tw_248 dX3_hasRoomFor_154 rfl ?_
                  refine s_len 158 dX3_hasRoomFor_157 rfl ?_
                  refine s_cmpge 165 161 dX3_hasRoomFor_158 (by decide) rfl ?_ ?_
                  · refine s_iconst 166 0 (by decide) dX3_hasRoomFor_165 rfl ?_
                    exact s_zretP rfl dX3_hasRoomFor_166
                  · refine s_iconst 162 1 (by decide) dX3_hasRoomFor_161 rfl ?_
                    refine s_goto 166 dX3_hasRoomFor_162 (by decide) ?_
                    exact s_zretP rfl dX3_hasRoomFor_166
                · exact Sall_nil
def EX3_hasRoomFor : List Value → HP → Option Bool := en 2 BX3_hasRoomFor_0
theorem cmX3_hasRoomFor : CM XX3_hasRoomFor EX3_hasRoomFor fZ 0 0 := CM.of rfl (by decide) rfl rfl sBX3_hasRoomFor_0
theorem yoX3_hasRoomFor : YO XX3_hasRoomFor 1 0 0 := ⟨tw_598, rfl, tw_7, (by decide +kernel), rfl, rfl⟩
abbrev XX3_addGate : MX := (yX3_addGate, cX3_addGate, 2, none, Cond.code yX3_addGate cX3_addGate 2 none :: WS, { frames := 1, cells := 0, slots := 0, locals := 20 })
def BX3_addGate_0 : KT HP :=
  oAld 0 (oGet 3 11 (oAld 0 (oGet 3 4 (oLen (oCmpge (oVretH) (oAld 0 (oGet 3 4 (oAld 0 (oGet 3 11 (oIld 1 (oIw (oAld 0 (odup (oGet 3 12 (oIld 1 (oCal 1 none EX10_bit fL (olor (oPut 3 12 .long (oAld 0 (odup (oGet 3 11 (oConst (.int 1) (oiadd (oPut 3 11 .int (oVretH)))))))))))))))))))))))))
set_option maxRecDepth 20000 in
theorem sBX3_addGate_0 : Snd XX3_addGate fVH 0 (BX3_addGate_0) (0) (0) := by
  unfold BX3_addGate_0
  refine s_Aldn 0 rfl 1 dX3_addGate_0 rfl ?_
  refine s_get 3 11 4 clX3 (by decide) tw_256 dX3_addGate_1 rfl ?_
  refine s_Aldn 0 rfl 5 dX3_addGate_4 rfl ?_
  refine s_get 3 4 8 clX3 (by decide) tw_245 dX3_addGate_5 rfl ?_
  refine s_len 9 dX3_addGate_8 rfl ?_
  refine s_cmpge 45 12 dX3_addGate_9 (by decide) rfl ?_ ?_
  · exact s_vretH rfl dX3_addGate_45
  · refine s_Aldn 0 rfl 13 dX3_addGate_12 rfl ?_
    refine s_get 3 4 16 clX3 (by decide) tw_245 dX3_addGate_13 rfl ?_
    refine s_Aldn 0 rfl 17 dX3_addGate_16 rfl ?_
    refine s_get 3 11 20 clX3 (by decide) tw_256 dX3_addGate_17 rfl ?_
    refine s_Ildn 1 rfl 21 dX3_addGate_20 rfl ?_
    refine s_Iw 22 pVH dX3_addGate_21 rfl ?_
    refine s_Aldn 0 rfl 23 dX3_addGate_22 rfl ?_
    refine s_dup 24 dX3_addGate_23 rfl ?_
    refine s_get 3 12 27 clX3 (by decide) tw_258 dX3_addGate_24 rfl ?_
    refine s_Ildn 1 rfl 28 dX3_addGate_27 rfl ?_
    refine s_cal0 31 (run_SN (X := XX3_addGate) yoX10_bit nw_77 tw_432 (by decide) dX3_addGate_28) cmX10_bit (fun _ _ _ => rfl) rfl ?_
    refine s_lor 32 dX3_addGate_31 rfl ?_
    refine s_put 3 12 35 clX3 (by decide) rfl rfl pVH tw_258 dX3_addGate_32 rfl ?_
    refine s_Aldn 0 rfl 36 dX3_addGate_35 rfl ?_
    refine s_dup 37 dX3_addGate_36 rfl ?_
    refine s_get 3 11 40 clX3 (by decide) tw_256 dX3_addGate_37 rfl ?_
    refine s_iconst 41 1 (by decide) dX3_addGate_40 rfl ?_
    refine s_iadd 42 dX3_addGate_41 rfl ?_
    refine s_put 3 11 45 clX3 (by decide) rfl rfl pVH tw_256 dX3_addGate_42 rfl ?_
    exact s_vretH rfl dX3_addGate_45
def EX3_addGate : List Value → HP → Option HP := en 2 BX3_addGate_0
theorem cmX3_addGate : CM XX3_addGate EX3_addGate fVH 0 0 := CM.of rfl (by decide) rfl rfl sBX3_addGate_0
theorem yoX3_addGate : YO XX3_addGate 1 0 0 := ⟨tw_636, rfl, tw_7, (by decide +kernel), rfl, rfl⟩
abbrev XX3_addHeard : MX := (yX3_addHeard, cX3_addHeard, 3, none, Cond.code yX3_addHeard cX3_addHeard 3 none :: WS, { frames := 0, cells := 0, slots := 0, locals := 0 })
def BX3_addHeard_0 : KT HP :=
  oAld 0 (oGet 3 14 (oAld 0 (oGet 3 5 (oLen (oCmpge (oVretH) (oAld 0 (oGet 3 14 (oAld 0 (oGet 3 6 (oLen (oCmpge (oVretH) (oAld 0 (oGet 3 6 (oAld 0 (oGet 3 14 (oIld 1 (oIw (oAld 0 (oGet 3 5 (oAld 0 (oGet 3 14 (oIld 2 (oIw (oAld 0 (odup (oGet 3 14 (oConst (.int 1) (oiadd (oPut 3 14 .int (oVretH))))))))))))))))))))))))))))))
set_option maxRecDepth 20000 in
theorem sBX3_addHeard_0 : Snd XX3_addHeard fVH 0 (BX3_addHeard_0) (0) (0) := by
  unfold BX3_addHeard_0
  refine s_Aldn 0 rfl 1 dX3_addHeard_0 rfl ?_
  refine s_get 3 14 4 clX3 (by decide) tw_265 dX3_addHeard_1 rfl ?_
  refine s_Aldn 0 rfl 5 dX3_addHeard_4 rfl ?_
  refine s_get 3 5 8 clX3 (by decide) tw_246 dX3_addHeard_5 rfl ?_
  refine s_len 9 dX3_addHeard_8 rfl ?_
  refine s_cmpge 54 12 dX3_addHeard_9 (by decide) rfl ?_ ?_
  · exact s_vretH rfl dX3_addHeard_54
  · refine s_Aldn 0 rfl 13 dX3_addHeard_12 rfl ?_
    refine s_get 3 14 16 clX3 (by decide) tw_265 dX3_addHeard_13 rfl ?_
    refine s_Aldn 0 rfl 17 dX3_addHeard_16 rfl ?_
    refine s_get 3 6 20 clX3 (by decide) tw_247 dX3_addHeard_17 rfl ?_
    refine s_len 21 dX3_addHeard_20 rfl ?_
    refine s_cmpge 54 24 dX3_addHeard_21 (by decide) rfl ?_ ?_
    · exact s_vretH rfl dX3_addHeard_54
    · refine s_Aldn 0 rfl 25 dX3_addHeard_24 rfl ?_
      refine s_get 3 6 28 clX3 (by decide) tw_247 dX3_addHeard_25 rfl ?_
      refine s_Aldn 0 rfl 29 dX3_addHeard_28 rfl ?_
      refine s_get 3 14 32 clX3 (by decide) tw_265 dX3_addHeard_29 rfl ?_
      refine s_Ildn 1 rfl 33 dX3_addHeard_32 rfl ?_
      refine s_Iw 34 pVH dX3_addHeard_33 rfl ?_
      refine s_Aldn 0 rfl 35 dX3_addHeard_34 rfl ?_
      refine s_get 3 5 38 clX3 (by decide) tw_246 dX3_addHeard_35 rfl ?_
      refine s_Aldn 0 rfl 39 dX3_addHeard_38 rfl ?_
      refine s_get 3 14 42 clX3 (by decide) tw_265 dX3_addHeard_39 rfl ?_
      refine s_Ildn 2 rfl 43 dX3_addHeard_42 rfl ?_
      refine s_Iw 44 pVH dX3_addHeard_43 rfl ?_
      refine s_Aldn 0 rfl 45 dX3_addHeard_44 rfl ?_
      refine s_dup 46 dX3_addHeard_45 rfl ?_
      refine s_get 3 14 49 clX3 (by decide) tw_265 dX3_addHeard_46 rfl ?_
      refine s_iconst 50 1 (by decide) dX3_addHeard_49 rfl ?_
      refine s_iadd 51 dX3_addHeard_50 rfl ?_
      refine s_put 3 14 54 clX3 (by decide) rfl rfl pVH tw_265 dX3_addHeard_51 rfl ?_
      exact s_vretH rfl dX3_addHeard_54
def EX3_addHeard : List Value → HP → Option HP := en 3 BX3_addHeard_0
theorem cmX3_addHeard : CM XX3_addHeard EX3_addHeard fVH 0 0 := CM.of rfl (by decide) rfl rfl sBX3_addHeard_0
theorem yoX3_addHeard : YO XX3_addHeard 2 0 0 := ⟨tw_650, rfl, tw_7, (by decide +kernel), rfl, rfl⟩
abbrev XX3_addWalker : MX := (yX3_addWalker, cX3_addWalker, 8, none, Cond.code yX3_addWalker cX3_addWalker 8 none :: WS, { frames := 0, cells := 0, slots := 0, locals := 0 })
def BX3_addWalker_0 : KT HP :=
  oAld 0 (oGet 3 15 (oAld 0 (oGet 3 7 (oLen (oCmpge (oVretH) (oAld 0 (oGet 3 7 (oAld 0 (oGet 3 15 (oQa (oAst 7 (oAld 7 (oLld 1 (oPut 9 0 .long (oAld 7 (oIld 3 (oPut 9 1 .int (oAld 7 (oIld 4 (oPut 9 2 .int (oAld 7 (oIld 5 (oPut 9 3 .int (oAld 7 (oIld 6 (oPut 9 4 .int (oAld 0 (odup (oGet 3 15 (oConst (.int 1) (oiadd (oPut 3 15 .int (oVretH)))))))))))))))))))))))))))))))))
set_option maxRecDepth 20000 in
theorem sBX3_addWalker_0 : Snd XX3_addWalker fVH 0 (BX3_addWalker_0) (0) (0) := by
  unfold BX3_addWalker_0
  refine s_Aldn 0 rfl 1 dX3_addWalker_0 rfl ?_
  refine s_get 3 15 4 clX3 (by decide) tw_267 dX3_addWalker_1 rfl ?_
  refine s_Aldn 0 rfl 5 dX3_addWalker_4 rfl ?_
  refine s_get 3 7 8 clX3 (by decide) tw_248 dX3_addWalker_5 rfl ?_
  refine s_len 9 dX3_addWalker_8 rfl ?_
  refine s_cmpge 66 12 dX3_addWalker_9 (by decide) rfl ?_ ?_
  · exact s_vretH rfl dX3_addWalker_66
  · refine s_Aldn 0 rfl 13 dX3_addWalker_12 rfl ?_
    refine s_get 3 7 16 clX3 (by decide) tw_248 dX3_addWalker_13 rfl ?_
    refine s_Aldn 0 rfl 17 dX3_addWalker_16 rfl ?_
    refine s_get 3 15 20 clX3 (by decide) tw_267 dX3_addWalker_17 rfl ?_
    refine s_Qa 21 dX3_addWalker_20 rfl ?_
    refine s_Ast 7 23 (by decide) dX3_addWalker_21 rfl ?_
    refine s_Ald 7 25 dX3_addWalker_23 rfl ?_
    refine s_Lldn 1 rfl 26 dX3_addWalker_25 rfl ?_
    refine s_putN 9 0 29 clX9 (by decide) rfl rfl pVH nw_11 dX3_addWalker_26 rfl ?_
    refine s_Ald 7 31 dX3_addWalker_29 rfl ?_
    refine s_Ildn 3 rfl 32 dX3_addWalker_31 rfl ?_
    refine s_putN 9 1 35 clX9 (by decide) rfl rfl pVH nw_13 dX3_addWalker_32 rfl ?_
    refine s_Ald 7 37 dX3_addWalker_35 rfl ?_
    refine s_Ild 4 39 dX3_addWalker_37 rfl ?_
    refine s_putN 9 2 42 clX9 (by decide) rfl rfl pVH nw_16 dX3_addWalker_39 rfl ?_
    refine s_Ald 7 44 dX3_addWalker_42 rfl ?_
    refine s_Ild 5 46 dX3_addWalker_44 rfl ?_
    refine s_putN 9 3 49 clX9 (by decide) rfl rfl pVH nw_18 dX3_addWalker_46 rfl ?_
    refine s_Ald 7 51 dX3_addWalker_49 rfl ?_
    refine s_Ild 6 53 dX3_addWalker_51 rfl ?_
    refine s_putN 9 4 56 clX9 (by decide) rfl rfl pVH nw_20 dX3_addWalker_53 rfl ?_
    refine s_Aldn 0 rfl 57 dX3_addWalker_56 rfl ?_
    refine s_dup 58 dX3_addWalker_57 rfl ?_
    refine s_get 3 15 61 clX3 (by decide) tw_267 dX3_addWalker_58 rfl ?_
    refine s_iconst 62 1 (by decide) dX3_addWalker_61 rfl ?_
    refine s_iadd 63 dX3_addWalker_62 rfl ?_
    refine s_put 3 15 66 clX3 (by decide) rfl rfl pVH tw_267 dX3_addWalker_63 rfl ?_
    exact s_vretH rfl dX3_addWalker_66
def EX3_addWalker : List Value → HP → Option HP := en 8 BX3_addWalker_0
theorem cmX3_addWalker : CM XX3_addWalker EX3_addWalker fVH 0 0 := CM.of rfl (by decide) rfl rfl sBX3_addWalker_0
theorem yoX3_addWalker : YO XX3_addWalker 5 0 0 := ⟨tw_675, rfl, tw_7, (by decide +kernel), rfl, rfl⟩
abbrev XX3_hasWalkerNamed : MX := (yX3_hasWalkerNamed, cX3_hasWalkerNamed, 4, (Option.some .boolean), Cond.code yX3_hasWalkerNamed cX3_hasWalkerNamed 4 (Option.some .boolean) :: WS, { frames := 0, cells := 0, slots := 0, locals := 0 })
def BX3_hasWalkerNamed_2 (k2 : KT Bool) : KT Bool :=
  oIld 3 (oAld 0 (oGet 3 15 (oCmpge (oConst (.int 0) (oZretP)) (oIld 3 (oAld 0 (oGet 3 7 (oLen (oCmpge (oConst (.int 0) (oZretP)) (oAld 0 (oGet 3 7 (oIld 3 (oQa (oGet 9 0 (oLld 1 (olcmp (oIfne (oInc 3 1 (oPick [0, 1, 3] k2)) (oConst (.int 1) (oZretP))))))))))))))))))
set_option maxRecDepth 20000 in
theorem sBX3_hasWalkerNamed_2 {k2 : KT Bool} (hk2 : Snd XX3_hasWalkerNamed fZ 2 k2 0 0) : Snd XX3_hasWalkerNamed fZ 2 (BX3_hasWalkerNamed_2 k2) (0) (0) := by
  unfold BX3_hasWalkerNamed_2
  refine s_Ildn 3 rfl 3 dX3_hasWalkerNamed_2 rfl ?_
  refine s_Aldn 0 rfl 4 dX3_hasWalkerNamed_3 rfl ?_
  refine s_get 3 15 7 clX3 (by decide) tw_267 dX3_hasWalkerNamed_4 rfl ?_
  refine s_cmpge 41 10 dX3_hasWalkerNamed_7 (by decide) rfl ?_ ?_
  · refine s_iconst 42 0 (by decide) dX3_hasWalkerNamed_41 rfl ?_
    exact s_zretP rfl dX3_hasWalkerNamed_42
  · refine s_Ildn 3 rfl 11 dX3_hasWalkerNamed_10 rfl ?_
    refine s_Aldn 0 rfl 12 dX3_hasWalkerNamed_11 rfl ?_
    refine s_get 3 7 15 clX3 (by decide) tw_248 dX3_hasWalkerNamed_12 rfl ?_
    refine s_len 16 dX3_hasWalkerNamed_15 rfl ?_
    refine s_cmpge 41 19 dX3_hasWalkerNamed_16 (by decide) rfl ?_ ?_
    · refine s_iconst 42 0 (by decide) dX3_hasWalkerNamed_41 rfl ?_
      exact s_zretP rfl dX3_hasWalkerNamed_42
    · refine s_Aldn 0 rfl 20 dX3_hasWalkerNamed_19 rfl ?_
      refine s_get 3 7 23 clX3 (by decide) tw_248 dX3_hasWalkerNamed_20 rfl ?_
      refine s_Ildn 3 rfl 24 dX3_hasWalkerNamed_23 rfl ?_
      refine s_Qa 25 dX3_hasWalkerNamed_24 rfl ?_
      refine s_getN 9 0 28 clX9 (by decide) nw_11 dX3_hasWalkerNamed_25 rfl ?_
      refine s_Lldn 1 rfl 29 dX3_hasWalkerNamed_28 rfl ?_
      refine s_lcmp 30 dX3_hasWalkerNamed_29 rfl ?_
      refine s_ifne 35 33 dX3_hasWalkerNamed_30 (by decide) rfl ?_ ?_
      · refine s_inc 3 1 38 (by decide) (by decide) dX3_hasWalkerNamed_35 rfl ?_
        refine s_goto 2 dX3_hasWalkerNamed_38 (by decide) ?_
        exact s_pick hk2
      · refine s_iconst 34 1 (by decide) dX3_hasWalkerNamed_33 rfl ?_
        exact s_zretP rfl dX3_hasWalkerNamed_34
def BX3_hasWalkerNamed_0 : KT Bool :=
  oConst (.int 0) (oIst 3 (oPick [0, 1, 3] (lp (BX3_hasWalkerNamed_2) FU)))
set_option maxRecDepth 20000 in
theorem sBX3_hasWalkerNamed_0 : Snd XX3_hasWalkerNamed fZ 0 (BX3_hasWalkerNamed_0) (0) (0) := by
  unfold BX3_hasWalkerNamed_0
  refine s_iconst 1 0 (by decide) dX3_hasWalkerNamed_0 rfl ?_
  refine s_Istn 3 rfl 2 (by decide) dX3_hasWalkerNamed_1 rfl ?_
  exact s_pick (s_lp (fun k hk => sBX3_hasWalkerNamed_2  hk) FU)
def EX3_hasWalkerNamed : List Value → HP → Option Bool := en 4 BX3_hasWalkerNamed_0
theorem cmX3_hasWalkerNamed : CM XX3_hasWalkerNamed EX3_hasWalkerNamed fZ 0 0 := CM.of rfl (by decide) rfl rfl sBX3_hasWalkerNamed_0
theorem yoX3_hasWalkerNamed : YO XX3_hasWalkerNamed 1 0 0 := ⟨tw_662, rfl, tw_7, (by decide +kernel), rfl, rfl⟩
abbrev XX3_gateCell : MX := (yX3_gateCell, cX3_gateCell, 2, (Option.some .int), Cond.code yX3_gateCell cX3_gateCell 2 (Option.some .int) :: WS, { frames := 0, cells := 0, slots := 0, locals := 0 })
def BX3_gateCell_0 : KT Int32 :=
  oIld 1 (oIflt (oConst (.int (-2)) (oIretP)) (oIld 1 (oAld 0 (oGet 3 4 (oLen (oCmpge (oConst (.int (-2)) (oIretP)) (oAld 0 (oGet 3 4 (oIld 1 (oIa (oIretP)))))))))))
set_option maxRecDepth 20000 in
theorem sBX3_gateCell_0 : Snd XX3_gateCell fI 0 (BX3_gateCell_0) (0) (0) := by
  unfold BX3_gateCell_0
  refine s_Ildn 1 rfl 1 dX3_gateCell_0 rfl ?_
  refine s_iflt 22 4 dX3_gateCell_1 (by decide) rfl ?_ ?_
  · refine s_bipush 24 (-2) (by decide) dX3_gateCell_22 rfl ?_
    exact s_iretP rfl dX3_gateCell_24
  · refine s_Ildn 1 rfl 5 dX3_gateCell_4 rfl ?_
    refine s_Aldn 0 rfl 6 dX3_gateCell_5 rfl ?_
    refine s_get 3 4 9 clX3 (by decide) tw_245 dX3_gateCell_6 rfl ?_
    refine s_len 10 dX3_gateCell_9 rfl ?_
    refine s_cmpge 22 13 dX3_gateCell_10 (by decide) rfl ?_ ?_
    · refine s_bipush 24 (-2) (by decide) dX3_gateCell_22 rfl ?_
      exact s_iretP rfl dX3_gateCell_24
    · refine s_Aldn 0 rfl 14 dX3_gateCell_13 rfl ?_
      refine s_get 3 4 17 clX3 (by decide) tw_245 dX3_gateCell_14 rfl ?_
      refine s_Ildn 1 rfl 18 dX3_gateCell_17 rfl ?_
      refine s_Ia 19 dX3_gateCell_18 rfl ?_
      refine s_goto 24 dX3_gateCell_19 (by decide) ?_
      exact s_iretP rfl dX3_gateCell_24
def EX3_gateCell : List Value → HP → Option Int32 := en 2 BX3_gateCell_0
theorem cmX3_gateCell : CM XX3_gateCell EX3_gateCell fI 0 0 := CM.of rfl (by decide) rfl rfl sBX3_gateCell_0
theorem yoX3_gateCell : YO XX3_gateCell 1 0 0 := ⟨tw_1059, rfl, tw_7, (by decide +kernel), rfl, rfl⟩
abbrev XX3_heardCell : MX := (yX3_heardCell, cX3_heardCell, 2, (Option.some .int), Cond.code yX3_heardCell cX3_heardCell 2 (Option.some .int) :: WS, { frames := 0, cells := 0, slots := 0, locals := 0 })
def BX3_heardCell_0 : KT Int32 :=
  oIld 1 (oIflt (oConst (.int (-2)) (oIretP)) (oIld 1 (oAld 0 (oGet 3 5 (oLen (oCmpge (oConst (.int (-2)) (oIretP)) (oAld 0 (oGet 3 5 (oIld 1 (oIa (oIretP)))))))))))
set_option maxRecDepth 20000 in
theorem sBX3_heardCell_0 : Snd XX3_heardCell fI 0 (BX3_heardCell_0) (0) (0) := by
  unfold BX3_heardCell_0
  refine s_Ildn 1 rfl 1 dX3_heardCell_0 rfl ?_
  refine s_iflt 22 4 dX3_heardCell_1 (by decide) rfl ?_ ?_
  · refine s_bipush 24 (-2) (by decide) dX3_heardCell_22 rfl ?_
    exact s_iretP rfl dX3_heardCell_24
  · refine s_Ildn 1 rfl 5 dX3_heardCell_4 rfl ?_
    refine s_Aldn 0 rfl 6 dX3_heardCell_5 rfl ?_
    refine s_get 3 5 9 clX3 (by decide) tw_246 dX3_heardCell_6 rfl ?_
    refine s_len 10 dX3_heardCell_9 rfl ?_
    refine s_cmpge 22 13 dX3_heardCell_10 (by decide) rfl ?_ ?_
    · refine s_bipush 24 (-2) (by decide) dX3_heardCell_22 rfl ?_
      exact s_iretP rfl dX3_heardCell_24
    · refine s_Aldn 0 rfl 14 dX3_heardCell_13 rfl ?_
      refine s_get 3 5 17 clX3 (by decide) tw_246 dX3_heardCell_14 rfl ?_
      refine s_Ildn 1 rfl 18 dX3_heardCell_17 rfl ?_
      refine s_Ia 19 dX3_heardCell_18 rfl ?_
      refine s_goto 24 dX3_heardCell_19 (by decide) ?_
      exact s_iretP rfl dX3_heardCell_24
def EX3_heardCell : List Value → HP → Option Int32 := en 2 BX3_heardCell_0
theorem cmX3_heardCell : CM XX3_heardCell EX3_heardCell fI 0 0 := CM.of rfl (by decide) rfl rfl sBX3_heardCell_0
theorem yoX3_heardCell : YO XX3_heardCell 1 0 0 := ⟨tw_1071, rfl, tw_7, (by decide +kernel), rfl, rfl⟩
abbrev XX3_heardSteps : MX := (yX3_heardSteps, cX3_heardSteps, 2, (Option.some .int), Cond.code yX3_heardSteps cX3_heardSteps 2 (Option.some .int) :: WS, { frames := 0, cells := 0, slots := 0, locals := 0 })
def BX3_heardSteps_0 : KT Int32 :=
  oIld 1 (oIflt (oConst (.int (-2)) (oIretP)) (oIld 1 (oAld 0 (oGet 3 6 (oLen (oCmpge (oConst (.int (-2)) (oIretP)) (oAld 0 (oGet 3 6 (oIld 1 (oIa (oIretP)))))))))))
set_option maxRecDepth 20000 in
theorem sBX3_heardSteps_0 : Snd XX3_heardSteps fI 0 (BX3_heardSteps_0) (0) (0) := by
  unfold BX3_heardSteps_0
  refine s_Ildn 1 rfl 1 dX3_heardSteps_0 rfl ?_
  refine s_iflt 22 4 dX3_heardSteps_1 (by decide) rfl ?_ ?_
  · refine s_bipush 24 (-2) (by decide) dX3_heardSteps_22 rfl ?_
    exact s_iretP rfl dX3_heardSteps_24
  · refine s_Ildn 1 rfl 5 dX3_heardSteps_4 rfl ?_
    refine s_Aldn 0 rfl 6 dX3_heardSteps_5 rfl ?_
    refine s_get 3 6 9 clX3 (by decide) tw_247 dX3_heardSteps_6 rfl ?_
    refine s_len 10 dX3_heardSteps_9 rfl ?_
    refine s_cmpge 22 13 dX3_heardSteps_10 (by decide) rfl ?_ ?_
    · refine s_bipush 24 (-2) (by decide) dX3_heardSteps_22 rfl ?_
      exact s_iretP rfl dX3_heardSteps_24
    · refine s_Aldn 0 rfl 14 dX3_heardSteps_13 rfl ?_
      refine s_get 3 6 17 clX3 (by decide) tw_247 dX3_heardSteps_14 rfl ?_
      refine s_Ildn 1 rfl 18 dX3_heardSteps_17 rfl ?_
      refine s_Ia 19 dX3_heardSteps_18 rfl ?_
      refine s_goto 24 dX3_heardSteps_19 (by decide) ?_
      exact s_iretP rfl dX3_heardSteps_24
def EX3_heardSteps : List Value → HP → Option Int32 := en 2 BX3_heardSteps_0
theorem cmX3_heardSteps : CM XX3_heardSteps EX3_heardSteps fI 0 0 := CM.of rfl (by decide) rfl rfl sBX3_heardSteps_0
theorem yoX3_heardSteps : YO XX3_heardSteps 1 0 0 := ⟨tw_1075, rfl, tw_7, (by decide +kernel), rfl, rfl⟩
abbrev XX3_walker : MX := (yX3_walker, cX3_walker, 2, (Option.some (.object "MownMaze$Walker")), Cond.code yX3_walker cX3_walker 2 (Option.some (.object "MownMaze$Walker")) :: WS, { frames := 0, cells := 0, slots := 0, locals := 0 })
def BX3_walker_0 : KT Nat :=
  oIld 1 (oIflt (oAld 0 (oGet 3 7 (oConst (.int 0) (oQa (oAretP))))) (oIld 1 (oAld 0 (oGet 3 7 (oLen (oCmpge (oAld 0 (oGet 3 7 (oConst (.int 0) (oQa (oAretP))))) (oAld 0 (oGet 3 7 (oIld 1 (oQa (oAretP)))))))))))
set_option maxRecDepth 20000 in
theorem sBX3_walker_0 : Snd XX3_walker fA 0 (BX3_walker_0) (0) (0) := by
  unfold BX3_walker_0
  refine s_Ildn 1 rfl 1 dX3_walker_0 rfl ?_
  refine s_iflt 22 4 dX3_walker_1 (by decide) rfl ?_ ?_
  · refine s_Aldn 0 rfl 23 dX3_walker_22 rfl ?_
    refine s_get 3 7 26 clX3 (by decide) tw_248 dX3_walker_23 rfl ?_
    refine s_iconst 27 0 (by decide) dX3_walker_26 rfl ?_
    refine s_Qa 28 dX3_walker_27 rfl ?_
    exact s_aretP rfl dX3_walker_28
  · refine s_Ildn 1 rfl 5 dX3_walker_4 rfl ?_
    refine s_Aldn 0 rfl 6 dX3_walker_5 rfl ?_
    refine s_get 3 7 9 clX3 (by decide) tw_248 dX3_walker_6 rfl ?_
    refine s_len 10 dX3_walker_9 rfl ?_
    refine s_cmpge 22 13 dX3_walker_10 (by decide) rfl ?_ ?_
    · refine s_Aldn 0 rfl 23 dX3_walker_22 rfl ?_
      refine s_get 3 7 26 clX3 (by decide) tw_248 dX3_walker_23 rfl ?_
      refine s_iconst 27 0 (by decide) dX3_walker_26 rfl ?_
      refine s_Qa 28 dX3_walker_27 rfl ?_
      exact s_aretP rfl dX3_walker_28
    · refine s_Aldn 0 rfl 14 dX3_walker_13 rfl ?_
      refine s_get 3 7 17 clX3 (by decide) tw_248 dX3_walker_14 rfl ?_
      refine s_Ildn 1 rfl 18 dX3_walker_17 rfl ?_
      refine s_Qa 19 dX3_walker_18 rfl ?_
      refine s_goto 28 dX3_walker_19 (by decide) ?_
      exact s_aretP rfl dX3_walker_28
def EX3_walker : List Value → HP → Option Nat := en 2 BX3_walker_0
theorem cmX3_walker : CM XX3_walker EX3_walker fA 0 0 := CM.of rfl (by decide) rfl rfl sBX3_walker_0
theorem yoX3_walker : YO XX3_walker 1 0 0 := ⟨tw_311, rfl, tw_7, (by decide +kernel), rfl, rfl⟩
abbrev XX3_walkerCells : MX := (yX3_walkerCells, cX3_walkerCells, 4, (Option.some .long), Cond.code yX3_walkerCells cX3_walkerCells 4 (Option.some .long) :: WS, { frames := 1, cells := 0, slots := 0, locals := 20 })
def BX3_walkerCells_4 (k4 : KT Int64) : KT Int64 :=
  oIld 3 (oAld 0 (oGet 3 15 (oCmpge (oLld 1 (oLretP)) (oIld 3 (oAld 0 (oGet 3 7 (oLen (oCmpge (oLld 1 (oLretP)) (oLld 1 (oAld 0 (oGet 3 7 (oIld 3 (oQa (oGet 9 2 (oCal 1 none EX10_bit fL (olor (oLst 1 (oInc 3 1 (oPick [0, 1, 3] k4)))))))))))))))))))
set_option maxRecDepth 20000 in
theorem sBX3_walkerCells_4 {k4 : KT Int64} (hk4 : Snd XX3_walkerCells fL 4 k4 0 0) : Snd XX3_walkerCells fL 4 (BX3_walkerCells_4 k4) (0) (0) := by
  unfold BX3_walkerCells_4
  refine s_Ildn 3 rfl 5 dX3_walkerCells_4 rfl ?_
  refine s_Aldn 0 rfl 6 dX3_walkerCells_5 rfl ?_
  refine s_get 3 15 9 clX3 (by decide) tw_267 dX3_walkerCells_6 rfl ?_
  refine s_cmpge 42 12 dX3_walkerCells_9 (by decide) rfl ?_ ?_
  · refine s_Lldn 1 rfl 43 dX3_walkerCells_42 rfl ?_
    exact s_lretP rfl dX3_walkerCells_43
  · refine s_Ildn 3 rfl 13 dX3_walkerCells_12 rfl ?_
    refine s_Aldn 0 rfl 14 dX3_walkerCells_13 rfl ?_
    refine s_get 3 7 17 clX3 (by decide) tw_248 dX3_walkerCells_14 rfl ?_
    refine s_len 18 dX3_walkerCells_17 rfl ?_
    refine s_cmpge 42 21 dX3_walkerCells_18 (by decide) rfl ?_ ?_
    · refine s_Lldn 1 rfl 43 dX3_walkerCells_42 rfl ?_
      exact s_lretP rfl dX3_walkerCells_43
    · refine s_Lldn 1 rfl 22 dX3_walkerCells_21 rfl ?_
      refine s_Aldn 0 rfl 23 dX3_walkerCells_22 rfl ?_
      refine s_get 3 7 26 clX3 (by decide) tw_248 dX3_walkerCells_23 rfl ?_
      refine s_Ildn 3 rfl 27 dX3_walkerCells_26 rfl ?_
      refine s_Qa 28 dX3_walkerCells_27 rfl ?_
      refine s_getN 9 2 31 clX9 (by decide) nw_16 dX3_walkerCells_28 rfl ?_
      refine s_cal0 34 (run_SN (X := XX3_walkerCells) yoX10_bit nw_77 tw_432 (by decide) dX3_walkerCells_31) cmX10_bit (fun _ _ _ => rfl) rfl ?_
      refine s_lor 35 dX3_walkerCells_34 rfl ?_
      refine s_Lstn 1 rfl 36 (by decide) dX3_walkerCells_35 rfl ?_
      refine s_inc 3 1 39 (by decide) (by decide) dX3_walkerCells_36 rfl ?_
      refine s_goto 4 dX3_walkerCells_39 (by decide) ?_
      exact s_pick hk4
def BX3_walkerCells_0 : KT Int64 :=
  oConst (.long 0) (oLst 1 (oConst (.int 0) (oIst 3 (oPick [0, 1, 3] (lp (BX3_walkerCells_4) FU)))))
set_option maxRecDepth 20000 in
theorem sBX3_walkerCells_0 : Snd XX3_walkerCells fL 0 (BX3_walkerCells_0) (0) (0) := by
  unfold BX3_walkerCells_0
  refine s_lconst 1 0 (by decide) dX3_walkerCells_0 rfl ?_
  refine s_Lstn 1 rfl 2 (by decide) dX3_walkerCells_1 rfl ?_
  refine s_iconst 3 0 (by decide) dX3_walkerCells_2 rfl ?_
  refine s_Istn 3 rfl 4 (by decide) dX3_walkerCells_3 rfl ?_
  exact s_pick (s_lp (fun k hk => sBX3_walkerCells_4  hk) FU)
def EX3_walkerCells : List Value → HP → Option Int64 := en 4 BX3_walkerCells_0
theorem cmX3_walkerCells : CM XX3_walkerCells EX3_walkerCells fL 0 0 := CM.of rfl (by decide) rfl rfl sBX3_walkerCells_0
theorem yoX3_walkerCells : YO XX3_walkerCells 0 0 0 := ⟨tw_1034, rfl, tw_7, (by decide +kernel), rfl, rfl⟩
abbrev XX3_told : MX := (yX3_told, cX3_told, 2, (Option.some .int), Cond.code yX3_told cX3_told 2 (Option.some .int) :: WS, { frames := 0, cells := 0, slots := 0, locals := 0 })
def BX3_told_0 : KT Int32 :=
  oIld 1 (oTab 0 [(oAld 0 (oGet 3 0 (oGet 0 1 (oIretP)))), (oAld 0 (oGet 3 0 (oGet 0 2 (oIretP)))), (oAld 0 (oGet 3 8 (oIretP))), (oAld 0 (oGet 3 9 (oIretP))), (oAld 0 (oGet 3 11 (oIretP))), (oAld 0 (oGet 3 15 (oIretP))), (oAld 0 (oGet 3 14 (oIretP))), (oAld 0 (oGet 3 13 (oIretP)))] (oConst (.int (-1)) (oIretP)))
set_option maxRecDepth 20000 in
theorem sBX3_told_0 : Snd XX3_told fI 0 (BX3_told_0) (0) (0) := by
  unfold BX3_told_0
  refine s_Ildn 1 rfl 1 dX3_told_0 rfl ?_
  refine s_tab 0 7 0 [48, 56, 64, 69, 74, 79, 84, 89] 94 dX3_told_1 rfl (by decide) (by decide) (by decide) (by decide) (by decide) ?_ ?_
  · refine s_iconst 95 (-1) (by decide) dX3_told_94 rfl ?_
    exact s_iretP rfl dX3_told_95
  · refine Sall_cons ?_ ?_
    · refine s_Aldn 0 rfl 49 dX3_told_48 rfl ?_
      refine s_get 3 0 52 clX3 (by decide) tw_232 dX3_told_49 rfl ?_
      refine s_getN 0 1 55 clX0 (by decide) nw_1 dX3_told_52 rfl ?_
      exact s_iretP rfl dX3_told_55
    · refine Sall_cons ?_ ?_
      · refine s_Aldn 0 rfl 57 dX3_told_56 rfl ?_
        refine s_get 3 0 60 clX3 (by decide) tw_232 dX3_told_57 rfl ?_
        refine s_getN 0 2 63 clX0 (by decide) nw_2 dX3_told_60 rfl ?_
        exact s_iretP rfl dX3_told_63
      · refine Sall_cons ?_ ?_
        · refine s_Aldn 0 rfl 65 dX3_told_64 rfl ?_
          refine s_get 3 8 68 clX3 (by decide) tw_249 dX3_told_65 rfl ?_
          exact s_iretP rfl dX3_told_68
        · refine Sall_cons ?_ ?_
          · refine s_Aldn 0 rfl 70 dX3_told_69 rfl ?_
            refine s_get 3 9 73 clX3 (by decide) tw_252 dX3_told_70 rfl ?_
            exact s_iretP rfl dX3_told_73
          · refine Sall_cons ?_ ?_
            · refine s_Aldn 0 rfl 75 dX3_told_74 rfl ?_
              refine s_get 3 11 78 clX3 (by decide) tw_256 dX3_told_75 rfl ?_
              exact s_iretP rfl dX3_told_78
            · refine Sall_cons ?_ ?_
              · refine s_Aldn 0 rfl 80 dX3_told_79 rfl ?_
                refine s_get 3 15 83 clX3 (by decide) tw_267 dX3_told_80 rfl ?_
                exact s_iretP rfl dX3_told_83
              · refine Sall_cons ?_ ?_
                · refine s_Aldn 0 rfl 85 dX3_told_84 rfl ?_
                  refine s_get 3 14 88 clX3 (by decide) tw_265 dX3_told_85 rfl ?_
                  exact s_iretP rfl dX3_told_88
                · refine Sall_cons ?_ ?_
                  · refine s_Aldn 0 rfl 90 dX3_told_89 rfl ?_
                    refine s_get 3 13 93 clX3 (by decide) tw_262 dX3_told_90 rfl ?_
                    exact s_iretP rfl dX3_told_93
                  · exact Sall_nil
def EX3_told : List Value → HP → Option Int32 := en 2 BX3_told_0
theorem cmX3_told : CM XX3_told EX3_told fI 0 0 := CM.of rfl (by decide) rfl rfl sBX3_told_0
theorem yoX3_told : YO XX3_told 1 0 0 := ⟨tw_1203, rfl, tw_7, (by decide +kernel), rfl, rfl⟩
abbrev XX7_kindOf : MX := (yX7_kindOf, cX7_kindOf, 1, (Option.some .int), Cond.code yX7_kindOf cX7_kindOf 1 (Option.some .int) :: WS, { frames := 0, cells := 0, slots := 0, locals := 0 })
def BX7_kindOf_28 : KT Int32 :=
  oIld 0 (oConst (.int 59) (oCmpeq (oConst (.int 3) (oIretP)) (oIld 0 (oConst (.int 44) (oCmpne (oConst (.int 4) (oIretP)) (oConst (.int 3) (oIretP)))))))
set_option maxRecDepth 20000 in
theorem sBX7_kindOf_28 : Snd XX7_kindOf fI 28 (BX7_kindOf_28) (0) (0) := by
  unfold BX7_kindOf_28
  refine s_Ildn 0 rfl 29 dX7_kindOf_28 rfl ?_
  refine s_bipush 31 59 (by decide) dX7_kindOf_29 rfl ?_
  refine s_cmpeq 40 34 dX7_kindOf_31 (by decide) rfl ?_ ?_
  · refine s_iconst 41 3 (by decide) dX7_kindOf_40 rfl ?_
    refine s_goto 45 dX7_kindOf_41 (by decide) ?_
    exact s_iretP rfl dX7_kindOf_45
  · refine s_Ildn 0 rfl 35 dX7_kindOf_34 rfl ?_
    refine s_bipush 37 44 (by decide) dX7_kindOf_35 rfl ?_
    refine s_cmpne 44 40 dX7_kindOf_37 (by decide) rfl ?_ ?_
    · refine s_iconst 45 4 (by decide) dX7_kindOf_44 rfl ?_
      exact s_iretP rfl dX7_kindOf_45
    · refine s_iconst 41 3 (by decide) dX7_kindOf_40 rfl ?_
      refine s_goto 45 dX7_kindOf_41 (by decide) ?_
      exact s_iretP rfl dX7_kindOf_45
def BX7_kindOf_14 : KT Int32 :=
  oIld 0 (oConst (.int 48) (oCmplt (oPick [0] (BX7_kindOf_28)) (oIld 0 (oConst (.int 57) (oCmpgt (oPick [0] (BX7_kindOf_28)) (oConst (.int 2) (oIretP)))))))
set_option maxRecDepth 20000 in
theorem sBX7_kindOf_14 : Snd XX7_kindOf fI 14 (BX7_kindOf_14) (0) (0) := by
  unfold BX7_kindOf_14
  refine s_Ildn 0 rfl 15 dX7_kindOf_14 rfl ?_
  refine s_bipush 17 48 (by decide) dX7_kindOf_15 rfl ?_
  refine s_cmplt 28 20 dX7_kindOf_17 (by decide) rfl ?_ ?_
  · exact s_pick (sBX7_kindOf_28)
  · refine s_Ildn 0 rfl 21 dX7_kindOf_20 rfl ?_
    refine s_bipush 23 57 (by decide) dX7_kindOf_21 rfl ?_
    refine s_cmpgt 28 26 dX7_kindOf_23 (by decide) rfl ?_ ?_
    · exact s_pick (sBX7_kindOf_28)
    · refine s_iconst 27 2 (by decide) dX7_kindOf_26 rfl ?_
      exact s_iretP rfl dX7_kindOf_27
def BX7_kindOf_0 : KT Int32 :=
  oIld 0 (oConst (.int 97) (oCmplt (oPick [0] (BX7_kindOf_14)) (oIld 0 (oConst (.int 122) (oCmpgt (oPick [0] (BX7_kindOf_14)) (oConst (.int 1) (oIretP)))))))
set_option maxRecDepth 20000 in
theorem sBX7_kindOf_0 : Snd XX7_kindOf fI 0 (BX7_kindOf_0) (0) (0) := by
  unfold BX7_kindOf_0
  refine s_Ildn 0 rfl 1 dX7_kindOf_0 rfl ?_
  refine s_bipush 3 97 (by decide) dX7_kindOf_1 rfl ?_
  refine s_cmplt 14 6 dX7_kindOf_3 (by decide) rfl ?_ ?_
  · exact s_pick (sBX7_kindOf_14)
  · refine s_Ildn 0 rfl 7 dX7_kindOf_6 rfl ?_
    refine s_bipush 9 122 (by decide) dX7_kindOf_7 rfl ?_
    refine s_cmpgt 14 12 dX7_kindOf_9 (by decide) rfl ?_ ?_
    · exact s_pick (sBX7_kindOf_14)
    · refine s_iconst 13 1 (by decide) dX7_kindOf_12 rfl ?_
      exact s_iretP rfl dX7_kindOf_13
def EX7_kindOf : List Value → HP → Option Int32 := en 1 BX7_kindOf_0
theorem cmX7_kindOf : CM XX7_kindOf EX7_kindOf fI 0 0 := CM.of rfl (by decide) rfl rfl sBX7_kindOf_0
theorem yoX7_kindOf : YO XX7_kindOf 1 0 0 := ⟨tw_464, rfl, tw_4, (by decide +kernel), rfl, rfl⟩
abbrev XX7_mostBytes : MX := (yX7_mostBytes, cX7_mostBytes, 1, (Option.some .int), Cond.code yX7_mostBytes cX7_mostBytes 1 (Option.some .int) :: WS, { frames := 0, cells := 0, slots := 0, locals := 0 })
def BX7_mostBytes_0 : KT Int32 :=
  oAld 0 (oGet 7 3 (oConst (.int 1) (oCmpne (oAld 0 (oGet 7 3 (oConst (.int 2) (oCmpne (oConst (.int 1) (oIretP)) (oConst (.int 3) (oIretP)))))) (oConst (.int 8) (oIretP)))))
set_option maxRecDepth 20000 in
theorem sBX7_mostBytes_0 : Snd XX7_mostBytes fI 0 (BX7_mostBytes_0) (0) (0) := by
  unfold BX7_mostBytes_0
  refine s_Aldn 0 rfl 1 dX7_mostBytes_0 rfl ?_
  refine s_get 7 3 4 clX7 (by decide) tw_58 dX7_mostBytes_1 rfl ?_
  refine s_iconst 5 1 (by decide) dX7_mostBytes_4 rfl ?_
  refine s_cmpne 13 8 dX7_mostBytes_5 (by decide) rfl ?_ ?_
  · refine s_Aldn 0 rfl 14 dX7_mostBytes_13 rfl ?_
    refine s_get 7 3 17 clX7 (by decide) tw_58 dX7_mostBytes_14 rfl ?_
    refine s_iconst 18 2 (by decide) dX7_mostBytes_17 rfl ?_
    refine s_cmpne 25 21 dX7_mostBytes_18 (by decide) rfl ?_ ?_
    · refine s_iconst 26 1 (by decide) dX7_mostBytes_25 rfl ?_
      exact s_iretP rfl dX7_mostBytes_26
    · refine s_iconst 22 3 (by decide) dX7_mostBytes_21 rfl ?_
      refine s_goto 26 dX7_mostBytes_22 (by decide) ?_
      exact s_iretP rfl dX7_mostBytes_26
  · refine s_bipush 10 8 (by decide) dX7_mostBytes_8 rfl ?_
    refine s_goto 26 dX7_mostBytes_10 (by decide) ?_
    exact s_iretP rfl dX7_mostBytes_26
def EX7_mostBytes : List Value → HP → Option Int32 := en 1 BX7_mostBytes_0
theorem cmX7_mostBytes : CM XX7_mostBytes EX7_mostBytes fI 0 0 := CM.of rfl (by decide) rfl rfl sBX7_mostBytes_0
theorem yoX7_mostBytes : YO XX7_mostBytes 0 0 0 := ⟨tw_472, rfl, tw_4, (by decide +kernel), rfl, rfl⟩
abbrev XX7_goOn : MX := (yX7_goOn, cX7_goOn, 3, none, Cond.code yX7_goOn cX7_goOn 3 none :: WS, { frames := 1, cells := 0, slots := 0, locals := 21 })
def BX7_goOn_228 : KT HP :=
  oCal 1 (some 7) EX7_mostBytes fI (oCmple (oVretH) (oAld 0 (oConst (.int 4) (oPut 7 3 .int (oVretH)))))
set_option maxRecDepth 20000 in
theorem sBX7_goOn_228 : Snd XX7_goOn fVH 228 (BX7_goOn_228) (0) (0) := by
  unfold BX7_goOn_228
  refine s_cal0 231 (run_V (X := XX7_goOn) rfl clX7 yoX7_mostBytes rfl tw_469 tw_471 tw_p2 (by decide) dX7_goOn_228) cmX7_mostBytes (fun _ _ _ => rfl) rfl ?_
  refine s_cmple 239 234 dX7_goOn_231 (by decide) rfl ?_ ?_
  · exact s_vretH rfl dX7_goOn_239
  · refine s_Aldn 0 rfl 235 dX7_goOn_234 rfl ?_
    refine s_iconst 236 4 (by decide) dX7_goOn_235 rfl ?_
    refine s_put 7 3 239 clX7 (by decide) rfl rfl pVH tw_58 dX7_goOn_236 rfl ?_
    exact s_vretH rfl dX7_goOn_239
def BX7_goOn_218 : KT HP :=
  oAld 0 (oGet 7 2 (oAld 0 (oGet 7 4 (oisub (oAld 0 (oPick [0] (BX7_goOn_228)))))))
set_option maxRecDepth 20000 in
theorem sBX7_goOn_218 : Snd XX7_goOn fVH 218 (BX7_goOn_218) (0) (0) := by
  unfold BX7_goOn_218
  refine s_Aldn 0 rfl 219 dX7_goOn_218 rfl ?_
  refine s_get 7 2 222 clX7 (by decide) tw_57 dX7_goOn_219 rfl ?_
  refine s_Aldn 0 rfl 223 dX7_goOn_222 rfl ?_
  refine s_get 7 4 226 clX7 (by decide) tw_59 dX7_goOn_223 rfl ?_
  refine s_isub 227 dX7_goOn_226 rfl ?_
  refine s_Aldn 0 rfl 228 dX7_goOn_227 rfl ?_
  exact s_pick (sBX7_goOn_228)
def BX7_goOn_192 (k132 : KT HP) : KT HP :=
  oCal 2 (some 6) EX6_byteAt fI (oConst (.int 97) (oisub (oConst (.int 1) (oiadd (oi2l (oladd (oPut 7 6 .long (oAld 0 (oIld 2 (oConst (.int 1) (oiadd (oPut 7 2 .int (oInc 2 1 (oPick [0, 1, 2] k132))))))))))))))
set_option maxRecDepth 20000 in
theorem sBX7_goOn_192 {k132 : KT HP} (hk132 : Snd XX7_goOn fVH 132 k132 0 0) : Snd XX7_goOn fVH 192 (BX7_goOn_192 k132) (0) (0) := by
  unfold BX7_goOn_192
  refine s_cal0 195 (run_V (X := XX7_goOn) rfl clX6 yoX6_byteAt rfl tw_458 tw_459 tw_460 (by decide) dX7_goOn_192) cmX6_byteAt (fun _ _ _ => rfl) rfl ?_
  refine s_bipush 197 97 (by decide) dX7_goOn_195 rfl ?_
  refine s_isub 198 dX7_goOn_197 rfl ?_
  refine s_iconst 199 1 (by decide) dX7_goOn_198 rfl ?_
  refine s_iadd 200 dX7_goOn_199 rfl ?_
  refine s_i2l 201 dX7_goOn_200 rfl ?_
  refine s_ladd 202 dX7_goOn_201 rfl ?_
  refine s_put 7 6 205 clX7 (by decide) rfl rfl pVH tw_61 dX7_goOn_202 rfl ?_
  refine s_Aldn 0 rfl 206 dX7_goOn_205 rfl ?_
  refine s_Ildn 2 rfl 207 dX7_goOn_206 rfl ?_
  refine s_iconst 208 1 (by decide) dX7_goOn_207 rfl ?_
  refine s_iadd 209 dX7_goOn_208 rfl ?_
  refine s_put 7 2 212 clX7 (by decide) rfl rfl pVH tw_57 dX7_goOn_209 rfl ?_
  refine s_inc 2 1 215 (by decide) (by decide) dX7_goOn_212 rfl ?_
  refine s_goto 132 dX7_goOn_215 (by decide) ?_
  exact s_pick hk132
def BX7_goOn_168 (k132 : KT HP) : KT HP :=
  oCal 2 (some 6) EX6_byteAt fI (oConst (.int 48) (oisub (oiadd (oPut 7 5 .int (oAld 0 (oAld 0 (oGet 7 6 (oConst (.long 32) (olmul (oAld 0 (oGet 7 0 (oIld 2 (oPick [0, 1, 2] (BX7_goOn_192 k132))))))))))))))
set_option maxRecDepth 20000 in
theorem sBX7_goOn_168 {k132 : KT HP} (hk132 : Snd XX7_goOn fVH 132 k132 0 0) : Snd XX7_goOn fVH 168 (BX7_goOn_168 k132) (0) (0) := by
  unfold BX7_goOn_168
  refine s_cal0 171 (run_V (X := XX7_goOn) rfl clX6 yoX6_byteAt rfl tw_458 tw_459 tw_460 (by decide) dX7_goOn_168) cmX6_byteAt (fun _ _ _ => rfl) rfl ?_
  refine s_bipush 173 48 (by decide) dX7_goOn_171 rfl ?_
  refine s_isub 174 dX7_goOn_173 rfl ?_
  refine s_iadd 175 dX7_goOn_174 rfl ?_
  refine s_put 7 5 178 clX7 (by decide) rfl rfl pVH tw_60 dX7_goOn_175 rfl ?_
  refine s_Aldn 0 rfl 179 dX7_goOn_178 rfl ?_
  refine s_Aldn 0 rfl 180 dX7_goOn_179 rfl ?_
  refine s_get 7 6 183 clX7 (by decide) tw_61 dX7_goOn_180 rfl ?_
  refine s_ldc2 186 32 tw_468 dX7_goOn_183 rfl ?_
  refine s_lmul 187 dX7_goOn_186 rfl ?_
  refine s_Aldn 0 rfl 188 dX7_goOn_187 rfl ?_
  refine s_get 7 0 191 clX7 (by decide) tw_55 dX7_goOn_188 rfl ?_
  refine s_Ildn 2 rfl 192 dX7_goOn_191 rfl ?_
  exact s_pick (sBX7_goOn_192 hk132)
def BX7_goOn_145 (k132 : KT HP) : KT HP :=
  oCal 1 none EX7_kindOf fI (oAld 0 (oGet 7 3 (oCmpne (oPick [0] (BX7_goOn_218)) (oAld 0 (oAld 0 (oGet 7 5 (oConst (.int 10) (oimul (oAld 0 (oGet 7 0 (oIld 2 (oPick [0, 1, 2] (BX7_goOn_168 k132)))))))))))))
set_option maxRecDepth 20000 in
theorem sBX7_goOn_145 {k132 : KT HP} (hk132 : Snd XX7_goOn fVH 132 k132 0 0) : Snd XX7_goOn fVH 145 (BX7_goOn_145 k132) (0) (0) := by
  unfold BX7_goOn_145
  refine s_cal0 148 (run_S (X := XX7_goOn) yoX7_kindOf tw_462 tw_463 (by decide) dX7_goOn_145) cmX7_kindOf (fun _ _ _ => rfl) rfl ?_
  refine s_Aldn 0 rfl 149 dX7_goOn_148 rfl ?_
  refine s_get 7 3 152 clX7 (by decide) tw_58 dX7_goOn_149 rfl ?_
  refine s_cmpne 218 155 dX7_goOn_152 (by decide) rfl ?_ ?_
  · exact s_pick (sBX7_goOn_218)
  · refine s_Aldn 0 rfl 156 dX7_goOn_155 rfl ?_
    refine s_Aldn 0 rfl 157 dX7_goOn_156 rfl ?_
    refine s_get 7 5 160 clX7 (by decide) tw_60 dX7_goOn_157 rfl ?_
    refine s_bipush 162 10 (by decide) dX7_goOn_160 rfl ?_
    refine s_imul 163 dX7_goOn_162 rfl ?_
    refine s_Aldn 0 rfl 164 dX7_goOn_163 rfl ?_
    refine s_get 7 0 167 clX7 (by decide) tw_55 dX7_goOn_164 rfl ?_
    refine s_Ildn 2 rfl 168 dX7_goOn_167 rfl ?_
    exact s_pick (sBX7_goOn_168 hk132)
def BX7_goOn_142 (k132 : KT HP) : KT HP :=
  oCal 2 (some 6) EX6_byteAt fI (oPick [0, 1, 2] (BX7_goOn_145 k132))
set_option maxRecDepth 20000 in
theorem sBX7_goOn_142 {k132 : KT HP} (hk132 : Snd XX7_goOn fVH 132 k132 0 0) : Snd XX7_goOn fVH 142 (BX7_goOn_142 k132) (0) (0) := by
  unfold BX7_goOn_142
  refine s_cal0 145 (run_V (X := XX7_goOn) rfl clX6 yoX6_byteAt rfl tw_458 tw_459 tw_460 (by decide) dX7_goOn_142) cmX6_byteAt (fun _ _ _ => rfl) rfl ?_
  exact s_pick (sBX7_goOn_145 hk132)
def BX7_goOn_132 (k132 : KT HP) : KT HP :=
  oIld 2 (oIld 1 (oCmpge (oPick [0] (BX7_goOn_218)) (oAld 0 (oGet 7 0 (oIld 2 (oPick [0, 1, 2] (BX7_goOn_142 k132)))))))
set_option maxRecDepth 20000 in
theorem sBX7_goOn_132 {k132 : KT HP} (hk132 : Snd XX7_goOn fVH 132 k132 0 0) : Snd XX7_goOn fVH 132 (BX7_goOn_132 k132) (0) (0) := by
  unfold BX7_goOn_132
  refine s_Ildn 2 rfl 133 dX7_goOn_132 rfl ?_
  refine s_Ildn 1 rfl 134 dX7_goOn_133 rfl ?_
  refine s_cmpge 218 137 dX7_goOn_134 (by decide) rfl ?_ ?_
  · exact s_pick (sBX7_goOn_218)
  · refine s_Aldn 0 rfl 138 dX7_goOn_137 rfl ?_
    refine s_get 7 0 141 clX7 (by decide) tw_55 dX7_goOn_138 rfl ?_
    refine s_Ildn 2 rfl 142 dX7_goOn_141 rfl ?_
    exact s_pick (sBX7_goOn_142 hk132)
def BX7_goOn_77 : KT HP :=
  oPut 7 3 .int (oAld 0 (oConst (.int 0) (oPut 7 5 .int (oAld 0 (oConst (.long 0) (oPut 7 6 .long (oAld 0 (oGet 7 3 (oConst (.int 1) (oCmpeq (oAld 0 (oGet 7 1 (oIst 1 (oAld 0 (oGet 7 4 (oIst 2 (oPick [0, 1, 2] (lp (BX7_goOn_132) FU)))))))) (oAld 0 (oGet 7 3 (oConst (.int 2) (oCmpne (oAld 0 (oGet 7 1 (oAld 0 (oGet 7 4 (oConst (.int 1) (oiadd (oMin (oIst 1 (oAld 0 (oGet 7 4 (oIst 2 (oPick [0, 1, 2] (lp (BX7_goOn_132) FU))))))))))))) (oAld 0 (oGet 7 1 (oIst 1 (oAld 0 (oGet 7 4 (oIst 2 (oPick [0, 1, 2] (lp (BX7_goOn_132) FU))))))))))))))))))))))
set_option maxRecDepth 20000 in
theorem sBX7_goOn_77 : Snd XX7_goOn fVH 77 (BX7_goOn_77) (0) (0) := by
  unfold BX7_goOn_77
  refine s_put 7 3 80 clX7 (by decide) rfl rfl pVH tw_58 dX7_goOn_77 rfl ?_
  refine s_Aldn 0 rfl 81 dX7_goOn_80 rfl ?_
  refine s_iconst 82 0 (by decide) dX7_goOn_81 rfl ?_
  refine s_put 7 5 85 clX7 (by decide) rfl rfl pVH tw_60 dX7_goOn_82 rfl ?_
  refine s_Aldn 0 rfl 86 dX7_goOn_85 rfl ?_
  refine s_lconst 87 0 (by decide) dX7_goOn_86 rfl ?_
  refine s_put 7 6 90 clX7 (by decide) rfl rfl pVH tw_61 dX7_goOn_87 rfl ?_
  refine s_Aldn 0 rfl 91 dX7_goOn_90 rfl ?_
  refine s_get 7 3 94 clX7 (by decide) tw_58 dX7_goOn_91 rfl ?_
  refine s_iconst 95 1 (by decide) dX7_goOn_94 rfl ?_
  refine s_cmpeq 106 98 dX7_goOn_95 (by decide) rfl ?_ ?_
  · refine s_Aldn 0 rfl 107 dX7_goOn_106 rfl ?_
    refine s_get 7 1 110 clX7 (by decide) tw_56 dX7_goOn_107 rfl ?_
    refine s_goto 126 dX7_goOn_110 (by decide) ?_
    refine s_Istn 1 rfl 127 (by decide) dX7_goOn_126 rfl ?_
    refine s_Aldn 0 rfl 128 dX7_goOn_127 rfl ?_
    refine s_get 7 4 131 clX7 (by decide) tw_59 dX7_goOn_128 rfl ?_
    refine s_Istn 2 rfl 132 (by decide) dX7_goOn_131 rfl ?_
    exact s_pick (s_lp (fun k hk => sBX7_goOn_132  hk) FU)
  · refine s_Aldn 0 rfl 99 dX7_goOn_98 rfl ?_
    refine s_get 7 3 102 clX7 (by decide) tw_58 dX7_goOn_99 rfl ?_
    refine s_iconst 103 2 (by decide) dX7_goOn_102 rfl ?_
    refine s_cmpne 113 106 dX7_goOn_103 (by decide) rfl ?_ ?_
    · refine s_Aldn 0 rfl 114 dX7_goOn_113 rfl ?_
      refine s_get 7 1 117 clX7 (by decide) tw_56 dX7_goOn_114 rfl ?_
      refine s_Aldn 0 rfl 118 dX7_goOn_117 rfl ?_
      refine s_get 7 4 121 clX7 (by decide) tw_59 dX7_goOn_118 rfl ?_
      refine s_iconst 122 1 (by decide) dX7_goOn_121 rfl ?_
      refine s_iadd 123 dX7_goOn_122 rfl ?_
      refine s_min 126 tw_465 tw_466 tw_13 tw_467 (by decide) (by decide) dX7_goOn_123 rfl ?_
      refine s_Istn 1 rfl 127 (by decide) dX7_goOn_126 rfl ?_
      refine s_Aldn 0 rfl 128 dX7_goOn_127 rfl ?_
      refine s_get 7 4 131 clX7 (by decide) tw_59 dX7_goOn_128 rfl ?_
      refine s_Istn 2 rfl 132 (by decide) dX7_goOn_131 rfl ?_
      exact s_pick (s_lp (fun k hk => sBX7_goOn_132  hk) FU)
    · refine s_Aldn 0 rfl 107 dX7_goOn_106 rfl ?_
      refine s_get 7 1 110 clX7 (by decide) tw_56 dX7_goOn_107 rfl ?_
      refine s_goto 126 dX7_goOn_110 (by decide) ?_
      refine s_Istn 1 rfl 127 (by decide) dX7_goOn_126 rfl ?_
      refine s_Aldn 0 rfl 128 dX7_goOn_127 rfl ?_
      refine s_get 7 4 131 clX7 (by decide) tw_59 dX7_goOn_128 rfl ?_
      refine s_Istn 2 rfl 132 (by decide) dX7_goOn_131 rfl ?_
      exact s_pick (s_lp (fun k hk => sBX7_goOn_132  hk) FU)
def BX7_goOn_70 : KT HP :=
  oCal 1 none EX7_kindOf fI (oPick [0] (BX7_goOn_77))
set_option maxRecDepth 20000 in
theorem sBX7_goOn_70 : Snd XX7_goOn fVH 70 (BX7_goOn_70) (0) (0) := by
  unfold BX7_goOn_70
  refine s_cal0 73 (run_S (X := XX7_goOn) yoX7_kindOf tw_462 tw_463 (by decide) dX7_goOn_70) cmX7_kindOf (fun _ _ _ => rfl) rfl ?_
  refine s_goto 77 dX7_goOn_73 (by decide) ?_
  exact s_pick (sBX7_goOn_77)
def BX7_goOn_67 : KT HP :=
  oCal 2 (some 6) EX6_byteAt fI (oPick [0] (BX7_goOn_70))
set_option maxRecDepth 20000 in
theorem sBX7_goOn_67 : Snd XX7_goOn fVH 67 (BX7_goOn_67) (0) (0) := by
  unfold BX7_goOn_67
  refine s_cal0 70 (run_V (X := XX7_goOn) rfl clX6 yoX6_byteAt rfl tw_458 tw_459 tw_460 (by decide) dX7_goOn_67) cmX6_byteAt (fun _ _ _ => rfl) rfl ?_
  exact s_pick (sBX7_goOn_70)
def BX7_goOn_39 : KT HP :=
  oAld 0 (oAld 0 (oGet 7 2 (oPut 7 4 .int (oAld 0 (oAld 0 (oGet 7 4 (oAld 0 (oGet 7 1 (oCmpge (oConst (.int 0) (oPick [0] (BX7_goOn_77))) (oAld 0 (oGet 7 0 (oAld 0 (oGet 7 4 (oPick [0] (BX7_goOn_67)))))))))))))))
set_option maxRecDepth 20000 in
theorem sBX7_goOn_39 : Snd XX7_goOn fVH 39 (BX7_goOn_39) (0) (0) := by
  unfold BX7_goOn_39
  refine s_Aldn 0 rfl 40 dX7_goOn_39 rfl ?_
  refine s_Aldn 0 rfl 41 dX7_goOn_40 rfl ?_
  refine s_get 7 2 44 clX7 (by decide) tw_57 dX7_goOn_41 rfl ?_
  refine s_put 7 4 47 clX7 (by decide) rfl rfl pVH tw_59 dX7_goOn_44 rfl ?_
  refine s_Aldn 0 rfl 48 dX7_goOn_47 rfl ?_
  refine s_Aldn 0 rfl 49 dX7_goOn_48 rfl ?_
  refine s_get 7 4 52 clX7 (by decide) tw_59 dX7_goOn_49 rfl ?_
  refine s_Aldn 0 rfl 53 dX7_goOn_52 rfl ?_
  refine s_get 7 1 56 clX7 (by decide) tw_56 dX7_goOn_53 rfl ?_
  refine s_cmpge 76 59 dX7_goOn_56 (by decide) rfl ?_ ?_
  · refine s_iconst 77 0 (by decide) dX7_goOn_76 rfl ?_
    exact s_pick (sBX7_goOn_77)
  · refine s_Aldn 0 rfl 60 dX7_goOn_59 rfl ?_
    refine s_get 7 0 63 clX7 (by decide) tw_55 dX7_goOn_60 rfl ?_
    refine s_Aldn 0 rfl 64 dX7_goOn_63 rfl ?_
    refine s_get 7 4 67 clX7 (by decide) tw_59 dX7_goOn_64 rfl ?_
    exact s_pick (sBX7_goOn_67)
def BX7_goOn_18 (k5 : KT HP) : KT HP :=
  oCal 2 (some 6) EX6_byteAt fI (oConst (.int 32) (oCmpne (oPick [0] (BX7_goOn_39)) (oAld 0 (oIld 1 (oConst (.int 1) (oiadd (oPut 7 2 .int (oInc 1 1 (oPick [0, 1] k5)))))))))
set_option maxRecDepth 20000 in
theorem sBX7_goOn_18 {k5 : KT HP} (hk5 : Snd XX7_goOn fVH 5 k5 0 0) : Snd XX7_goOn fVH 18 (BX7_goOn_18 k5) (0) (0) := by
  unfold BX7_goOn_18
  refine s_cal0 21 (run_V (X := XX7_goOn) rfl clX6 yoX6_byteAt rfl tw_458 tw_459 tw_460 (by decide) dX7_goOn_18) cmX6_byteAt (fun _ _ _ => rfl) rfl ?_
  refine s_bipush 23 32 (by decide) dX7_goOn_21 rfl ?_
  refine s_cmpne 39 26 dX7_goOn_23 (by decide) rfl ?_ ?_
  · exact s_pick (sBX7_goOn_39)
  · refine s_Aldn 0 rfl 27 dX7_goOn_26 rfl ?_
    refine s_Ildn 1 rfl 28 dX7_goOn_27 rfl ?_
    refine s_iconst 29 1 (by decide) dX7_goOn_28 rfl ?_
    refine s_iadd 30 dX7_goOn_29 rfl ?_
    refine s_put 7 2 33 clX7 (by decide) rfl rfl pVH tw_57 dX7_goOn_30 rfl ?_
    refine s_inc 1 1 36 (by decide) (by decide) dX7_goOn_33 rfl ?_
    refine s_goto 5 dX7_goOn_36 (by decide) ?_
    exact s_pick hk5
def BX7_goOn_5 (k5 : KT HP) : KT HP :=
  oIld 1 (oAld 0 (oGet 7 1 (oCmpge (oPick [0] (BX7_goOn_39)) (oAld 0 (oGet 7 0 (oIld 1 (oPick [0, 1] (BX7_goOn_18 k5))))))))
set_option maxRecDepth 20000 in
theorem sBX7_goOn_5 {k5 : KT HP} (hk5 : Snd XX7_goOn fVH 5 k5 0 0) : Snd XX7_goOn fVH 5 (BX7_goOn_5 k5) (0) (0) := by
  unfold BX7_goOn_5
  refine s_Ildn 1 rfl 6 dX7_goOn_5 rfl ?_
  refine s_Aldn 0 rfl 7 dX7_goOn_6 rfl ?_
  refine s_get 7 1 10 clX7 (by decide) tw_56 dX7_goOn_7 rfl ?_
  refine s_cmpge 39 13 dX7_goOn_10 (by decide) rfl ?_ ?_
  · exact s_pick (sBX7_goOn_39)
  · refine s_Aldn 0 rfl 14 dX7_goOn_13 rfl ?_
    refine s_get 7 0 17 clX7 (by decide) tw_55 dX7_goOn_14 rfl ?_
    refine s_Ildn 1 rfl 18 dX7_goOn_17 rfl ?_
    exact s_pick (sBX7_goOn_18 hk5)
def BX7_goOn_0 : KT HP :=
  oAld 0 (oGet 7 2 (oIst 1 (oPick [0, 1] (lp (BX7_goOn_5) FU))))
set_option maxRecDepth 20000 in
theorem sBX7_goOn_0 : Snd XX7_goOn fVH 0 (BX7_goOn_0) (0) (0) := by
  unfold BX7_goOn_0
  refine s_Aldn 0 rfl 1 dX7_goOn_0 rfl ?_
  refine s_get 7 2 4 clX7 (by decide) tw_57 dX7_goOn_1 rfl ?_
  refine s_Istn 1 rfl 5 (by decide) dX7_goOn_4 rfl ?_
  exact s_pick (s_lp (fun k hk => sBX7_goOn_5  hk) FU)
def EX7_goOn : List Value → HP → Option HP := en 3 BX7_goOn_0
theorem cmX7_goOn : CM XX7_goOn EX7_goOn fVH 0 0 := CM.of rfl (by decide) rfl rfl sBX7_goOn_0
theorem yoX7_goOn : YO XX7_goOn 0 0 0 := ⟨tw_457, rfl, tw_4, (by decide +kernel), rfl, rfl⟩
abbrev XX7_open : MX := (yX7_open, cX7_open, 2, none, Cond.code yX7_open cX7_open 2 none :: WS, { frames := 2, cells := 0, slots := 0, locals := 43 })
def BX7_open_11 : KT HP :=
  oCal 1 (some 7) EX7_goOn fVH (oVretH)
set_option maxRecDepth 20000 in
theorem sBX7_open_11 : Snd XX7_open fVH 11 (BX7_open_11) (0) (0) := by
  unfold BX7_open_11
  refine s_cal0 14 (run_V (X := XX7_open) rfl clX7 yoX7_goOn rfl tw_454 tw_455 tw_456 (by decide) dX7_open_11) cmX7_goOn (fun _ _ _ => rfl) rfl ?_
  exact s_vretH rfl dX7_open_14
def BX7_open_0 : KT HP :=
  oAld 0 (oIld 1 (oPut 7 1 .int (oAld 0 (oConst (.int 0) (oPut 7 2 .int (oAld 0 (oPick [] (BX7_open_11))))))))
set_option maxRecDepth 20000 in
theorem sBX7_open_0 : Snd XX7_open fVH 0 (BX7_open_0) (0) (0) := by
  unfold BX7_open_0
  refine s_Aldn 0 rfl 1 dX7_open_0 rfl ?_
  refine s_Ildn 1 rfl 2 dX7_open_1 rfl ?_
  refine s_put 7 1 5 clX7 (by decide) rfl rfl pVH tw_56 dX7_open_2 rfl ?_
  refine s_Aldn 0 rfl 6 dX7_open_5 rfl ?_
  refine s_iconst 7 0 (by decide) dX7_open_6 rfl ?_
  refine s_put 7 2 10 clX7 (by decide) rfl rfl pVH tw_57 dX7_open_7 rfl ?_
  refine s_Aldn 0 rfl 11 dX7_open_10 rfl ?_
  exact s_pick (sBX7_open_11)
def EX7_open : List Value → HP → Option HP := en 2 BX7_open_0
theorem cmX7_open : CM XX7_open EX7_open fVH 0 0 := CM.of rfl (by decide) rfl rfl sBX7_open_0
theorem yoX7_open : YO XX7_open 1 0 0 := ⟨tw_453, rfl, tw_4, (by decide +kernel), rfl, rfl⟩
abbrev XX7_codeOf : MX := (yX7_codeOf, cX7_codeOf, 6, (Option.some .long), Cond.code yX7_codeOf cX7_codeOf 6 (Option.some .long) :: WS, { frames := 4, cells := 0, slots := 0, locals := 85 })
def BX7_codeOf_28 (k5 : KT Int64) : KT Int64 :=
  oCal 2 (some 99) EJ0_charAt_5068e fI (oConst (.int 97) (oisub (oConst (.int 1) (oiadd (oi2l (oladd (oLst 3 (oInc 5 1 (oPick [0, 2, 3, 5] k5)))))))))
set_option maxRecDepth 20000 in
theorem sBX7_codeOf_28 {k5 : KT Int64} (hk5 : Snd XX7_codeOf fL 5 k5 0 0) : Snd XX7_codeOf fL 28 (BX7_codeOf_28 k5) (0) (0) := by
  unfold BX7_codeOf_28
  refine s_cal0 31 (run_VS (X := XX7_codeOf) yoJ0_charAt_5068e rfl tw_492 tw_493 tw_494 (by decide) dX7_codeOf_28) cmJ0_charAt_5068e (fun _ _ _ => rfl) rfl ?_
  refine s_bipush 33 97 (by decide) dX7_codeOf_31 rfl ?_
  refine s_isub 34 dX7_codeOf_33 rfl ?_
  refine s_iconst 35 1 (by decide) dX7_codeOf_34 rfl ?_
  refine s_iadd 36 dX7_codeOf_35 rfl ?_
  refine s_i2l 37 dX7_codeOf_36 rfl ?_
  refine s_ladd 38 dX7_codeOf_37 rfl ?_
  refine s_Lstn 3 rfl 39 (by decide) dX7_codeOf_38 rfl ?_
  refine s_inc 5 1 42 (by decide) (by decide) dX7_codeOf_39 rfl ?_
  refine s_goto 5 dX7_codeOf_42 (by decide) ?_
  exact s_pick hk5
def BX7_codeOf_14 (k5 : KT Int64) : KT Int64 :=
  oCal 1 (some 99) EJ0_length_8abf5 fI (oCmpge (oLld 3 (oLretP)) (oLld 3 (oConst (.long 32) (olmul (oAld 0 (oIld 5 (oPick [0, 2, 5] (BX7_codeOf_28 k5))))))))
set_option maxRecDepth 20000 in
theorem sBX7_codeOf_14 {k5 : KT Int64} (hk5 : Snd XX7_codeOf fL 5 k5 0 0) : Snd XX7_codeOf fL 14 (BX7_codeOf_14 k5) (0) (0) := by
  unfold BX7_codeOf_14
  refine s_cal0 17 (run_VS (X := XX7_codeOf) yoJ0_length_8abf5 rfl tw_482 tw_483 tw_484 (by decide) dX7_codeOf_14) cmJ0_length_8abf5 (fun _ _ _ => rfl) rfl ?_
  refine s_cmpge 45 20 dX7_codeOf_17 (by decide) rfl ?_ ?_
  · refine s_Lldn 3 rfl 46 dX7_codeOf_45 rfl ?_
    exact s_lretP rfl dX7_codeOf_46
  · refine s_Lldn 3 rfl 21 dX7_codeOf_20 rfl ?_
    refine s_ldc2 24 32 tw_468 dX7_codeOf_21 rfl ?_
    refine s_lmul 25 dX7_codeOf_24 rfl ?_
    refine s_Aldn 0 rfl 26 dX7_codeOf_25 rfl ?_
    refine s_Ild 5 28 dX7_codeOf_26 rfl ?_
    exact s_pick (sBX7_codeOf_28 hk5)
def BX7_codeOf_5 (k5 : KT Int64) : KT Int64 :=
  oIld 5 (oIld 2 (oCmpge (oLld 3 (oLretP)) (oIld 5 (oAld 0 (oPick [0, 2, 3, 5] (BX7_codeOf_14 k5))))))
set_option maxRecDepth 20000 in
theorem sBX7_codeOf_5 {k5 : KT Int64} (hk5 : Snd XX7_codeOf fL 5 k5 0 0) : Snd XX7_codeOf fL 5 (BX7_codeOf_5 k5) (0) (0) := by
  unfold BX7_codeOf_5
  refine s_Ild 5 7 dX7_codeOf_5 rfl ?_
  refine s_Ildn 2 rfl 8 dX7_codeOf_7 rfl ?_
  refine s_cmpge 45 11 dX7_codeOf_8 (by decide) rfl ?_ ?_
  · refine s_Lldn 3 rfl 46 dX7_codeOf_45 rfl ?_
    exact s_lretP rfl dX7_codeOf_46
  · refine s_Ild 5 13 dX7_codeOf_11 rfl ?_
    refine s_Aldn 0 rfl 14 dX7_codeOf_13 rfl ?_
    exact s_pick (sBX7_codeOf_14 hk5)
def BX7_codeOf_0 : KT Int64 :=
  oConst (.long 0) (oLst 3 (oIld 1 (oIst 5 (oPick [0, 2, 3, 5] (lp (BX7_codeOf_5) FU)))))
set_option maxRecDepth 20000 in
theorem sBX7_codeOf_0 : Snd XX7_codeOf fL 0 (BX7_codeOf_0) (0) (0) := by
  unfold BX7_codeOf_0
  refine s_lconst 1 0 (by decide) dX7_codeOf_0 rfl ?_
  refine s_Lstn 3 rfl 2 (by decide) dX7_codeOf_1 rfl ?_
  refine s_Ildn 1 rfl 3 dX7_codeOf_2 rfl ?_
  refine s_Ist 5 5 (by decide) dX7_codeOf_3 rfl ?_
  exact s_pick (s_lp (fun k hk => sBX7_codeOf_5  hk) FU)
def EX7_codeOf : List Value → HP → Option Int64 := en 6 BX7_codeOf_0
theorem cmX7_codeOf : CM XX7_codeOf EX7_codeOf fL 0 0 := CM.of rfl (by decide) rfl rfl sBX7_codeOf_0
theorem yoX7_codeOf : YO XX7_codeOf 3 0 0 := ⟨tw_532, rfl, tw_4, (by decide +kernel), rfl, rfl⟩
abbrev XX7_numberIn : MX := (yX7_numberIn, cX7_numberIn, 5, (Option.some .int), Cond.code yX7_numberIn cX7_numberIn 5 (Option.some .int) :: WS, { frames := 5, cells := 0, slots := 0, locals := 110 })
def BX7_numberIn_52 (k7 : KT Int32) : KT Int32 :=
  oCal 3 none EX7_codeOf fL (olcmp (oIfne (oInc 2 1 (oIld 4 (oConst (.int 1) (oiadd (oIst 3 (oInc 4 1 (oPick [0, 1, 2, 3, 4] k7))))))) (oIld 2 (oIretP))))
set_option maxRecDepth 20000 in
theorem sBX7_numberIn_52 {k7 : KT Int32} (hk7 : Snd XX7_numberIn fI 7 k7 0 0) : Snd XX7_numberIn fI 52 (BX7_numberIn_52 k7) (0) (0) := by
  unfold BX7_numberIn_52
  refine s_cal0 55 (run_S (X := XX7_numberIn) yoX7_codeOf tw_530 tw_531 (by decide) dX7_numberIn_52) cmX7_codeOf (fun _ _ _ => rfl) rfl ?_
  refine s_lcmp 56 dX7_numberIn_55 rfl ?_
  refine s_ifne 61 59 dX7_numberIn_56 (by decide) rfl ?_ ?_
  · refine s_inc 2 1 64 (by decide) (by decide) dX7_numberIn_61 rfl ?_
    refine s_Ild 4 66 dX7_numberIn_64 rfl ?_
    refine s_iconst 67 1 (by decide) dX7_numberIn_66 rfl ?_
    refine s_iadd 68 dX7_numberIn_67 rfl ?_
    refine s_Istn 3 rfl 69 (by decide) dX7_numberIn_68 rfl ?_
    refine s_inc 4 1 72 (by decide) (by decide) dX7_numberIn_69 rfl ?_
    refine s_goto 7 dX7_numberIn_72 (by decide) ?_
    exact s_pick hk7
  · refine s_Ildn 2 rfl 60 dX7_numberIn_59 rfl ?_
    exact s_iretP rfl dX7_numberIn_60
def BX7_numberIn_36 (k7 : KT Int32) : KT Int32 :=
  oAld 0 (oGet 7 3 (oConst (.int 1) (oCmpne (oInc 2 1 (oIld 4 (oConst (.int 1) (oiadd (oIst 3 (oInc 4 1 (oPick [0, 1, 2, 3, 4] k7))))))) (oAld 0 (oGet 7 6 (oAld 1 (oIld 3 (oIld 4 (oPick [0, 1, 2, 4] (BX7_numberIn_52 k7))))))))))
set_option maxRecDepth 20000 in
theorem sBX7_numberIn_36 {k7 : KT Int32} (hk7 : Snd XX7_numberIn fI 7 k7 0 0) : Snd XX7_numberIn fI 36 (BX7_numberIn_36 k7) (0) (0) := by
  unfold BX7_numberIn_36
  refine s_Aldn 0 rfl 37 dX7_numberIn_36 rfl ?_
  refine s_get 7 3 40 clX7 (by decide) tw_58 dX7_numberIn_37 rfl ?_
  refine s_iconst 41 1 (by decide) dX7_numberIn_40 rfl ?_
  refine s_cmpne 61 44 dX7_numberIn_41 (by decide) rfl ?_ ?_
  · refine s_inc 2 1 64 (by decide) (by decide) dX7_numberIn_61 rfl ?_
    refine s_Ild 4 66 dX7_numberIn_64 rfl ?_
    refine s_iconst 67 1 (by decide) dX7_numberIn_66 rfl ?_
    refine s_iadd 68 dX7_numberIn_67 rfl ?_
    refine s_Istn 3 rfl 69 (by decide) dX7_numberIn_68 rfl ?_
    refine s_inc 4 1 72 (by decide) (by decide) dX7_numberIn_69 rfl ?_
    refine s_goto 7 dX7_numberIn_72 (by decide) ?_
    exact s_pick hk7
  · refine s_Aldn 0 rfl 45 dX7_numberIn_44 rfl ?_
    refine s_get 7 6 48 clX7 (by decide) tw_61 dX7_numberIn_45 rfl ?_
    refine s_Aldn 1 rfl 49 dX7_numberIn_48 rfl ?_
    refine s_Ildn 3 rfl 50 dX7_numberIn_49 rfl ?_
    refine s_Ild 4 52 dX7_numberIn_50 rfl ?_
    exact s_pick (sBX7_numberIn_52 hk7)
def BX7_numberIn_28 (k7 : KT Int32) : KT Int32 :=
  oCal 2 (some 99) EJ0_charAt_5068e fI (oConst (.int 32) (oCmpne (oInc 4 1 (oPick [0, 1, 2, 3, 4] k7)) (oPick [0, 1, 2, 3, 4] (BX7_numberIn_36 k7))))
set_option maxRecDepth 20000 in
theorem sBX7_numberIn_28 {k7 : KT Int32} (hk7 : Snd XX7_numberIn fI 7 k7 0 0) : Snd XX7_numberIn fI 28 (BX7_numberIn_28 k7) (0) (0) := by
  unfold BX7_numberIn_28
  refine s_cal0 31 (run_VS (X := XX7_numberIn) yoJ0_charAt_5068e rfl tw_492 tw_493 tw_494 (by decide) dX7_numberIn_28) cmJ0_charAt_5068e (fun _ _ _ => rfl) rfl ?_
  refine s_bipush 33 32 (by decide) dX7_numberIn_31 rfl ?_
  refine s_cmpne 69 36 dX7_numberIn_33 (by decide) rfl ?_ ?_
  · refine s_inc 4 1 72 (by decide) (by decide) dX7_numberIn_69 rfl ?_
    refine s_goto 7 dX7_numberIn_72 (by decide) ?_
    exact s_pick hk7
  · exact s_pick (sBX7_numberIn_36 hk7)
def BX7_numberIn_19 (k7 : KT Int32) : KT Int32 :=
  oCal 1 (some 99) EJ0_length_8abf5 fI (oCmpeq (oPick [0, 1, 2, 3, 4] (BX7_numberIn_36 k7)) (oAld 1 (oIld 4 (oPick [0, 1, 2, 3, 4] (BX7_numberIn_28 k7)))))
set_option maxRecDepth 20000 in
theorem sBX7_numberIn_19 {k7 : KT Int32} (hk7 : Snd XX7_numberIn fI 7 k7 0 0) : Snd XX7_numberIn fI 19 (BX7_numberIn_19 k7) (0) (0) := by
  unfold BX7_numberIn_19
  refine s_cal0 22 (run_VS (X := XX7_numberIn) yoJ0_length_8abf5 rfl tw_482 tw_483 tw_484 (by decide) dX7_numberIn_19) cmJ0_length_8abf5 (fun _ _ _ => rfl) rfl ?_
  refine s_cmpeq 36 25 dX7_numberIn_22 (by decide) rfl ?_ ?_
  · exact s_pick (sBX7_numberIn_36 hk7)
  · refine s_Aldn 1 rfl 26 dX7_numberIn_25 rfl ?_
    refine s_Ild 4 28 dX7_numberIn_26 rfl ?_
    exact s_pick (sBX7_numberIn_28 hk7)
def BX7_numberIn_10 (k7 : KT Int32) : KT Int32 :=
  oCal 1 (some 99) EJ0_length_8abf5 fI (oCmpgt (oConst (.int (-1)) (oIretP)) (oIld 4 (oAld 1 (oPick [0, 1, 2, 3, 4] (BX7_numberIn_19 k7)))))
set_option maxRecDepth 20000 in
theorem sBX7_numberIn_10 {k7 : KT Int32} (hk7 : Snd XX7_numberIn fI 7 k7 0 0) : Snd XX7_numberIn fI 10 (BX7_numberIn_10 k7) (0) (0) := by
  unfold BX7_numberIn_10
  refine s_cal0 13 (run_VS (X := XX7_numberIn) yoJ0_length_8abf5 rfl tw_482 tw_483 tw_484 (by decide) dX7_numberIn_10) cmJ0_length_8abf5 (fun _ _ _ => rfl) rfl ?_
  refine s_cmpgt 75 16 dX7_numberIn_13 (by decide) rfl ?_ ?_
  · refine s_iconst 76 (-1) (by decide) dX7_numberIn_75 rfl ?_
    exact s_iretP rfl dX7_numberIn_76
  · refine s_Ild 4 18 dX7_numberIn_16 rfl ?_
    refine s_Aldn 1 rfl 19 dX7_numberIn_18 rfl ?_
    exact s_pick (sBX7_numberIn_19 hk7)
def BX7_numberIn_7 (k7 : KT Int32) : KT Int32 :=
  oIld 4 (oAld 1 (oPick [0, 1, 2, 3, 4] (BX7_numberIn_10 k7)))
set_option maxRecDepth 20000 in
theorem sBX7_numberIn_7 {k7 : KT Int32} (hk7 : Snd XX7_numberIn fI 7 k7 0 0) : Snd XX7_numberIn fI 7 (BX7_numberIn_7 k7) (0) (0) := by
  unfold BX7_numberIn_7
  refine s_Ild 4 9 dX7_numberIn_7 rfl ?_
  refine s_Aldn 1 rfl 10 dX7_numberIn_9 rfl ?_
  exact s_pick (sBX7_numberIn_10 hk7)
def BX7_numberIn_0 : KT Int32 :=
  oConst (.int 0) (oIst 2 (oConst (.int 0) (oIst 3 (oConst (.int 0) (oIst 4 (oPick [0, 1, 2, 3, 4] (lp (BX7_numberIn_7) FU)))))))
set_option maxRecDepth 20000 in
theorem sBX7_numberIn_0 : Snd XX7_numberIn fI 0 (BX7_numberIn_0) (0) (0) := by
  unfold BX7_numberIn_0
  refine s_iconst 1 0 (by decide) dX7_numberIn_0 rfl ?_
  refine s_Istn 2 rfl 2 (by decide) dX7_numberIn_1 rfl ?_
  refine s_iconst 3 0 (by decide) dX7_numberIn_2 rfl ?_
  refine s_Istn 3 rfl 4 (by decide) dX7_numberIn_3 rfl ?_
  refine s_iconst 5 0 (by decide) dX7_numberIn_4 rfl ?_
  refine s_Ist 4 7 (by decide) dX7_numberIn_5 rfl ?_
  exact s_pick (s_lp (fun k hk => sBX7_numberIn_7  hk) FU)
def EX7_numberIn : List Value → HP → Option Int32 := en 5 BX7_numberIn_0
theorem cmX7_numberIn : CM XX7_numberIn EX7_numberIn fI 0 0 := CM.of rfl (by decide) rfl rfl sBX7_numberIn_0
theorem yoX7_numberIn : YO XX7_numberIn 1 0 0 := ⟨tw_481, rfl, tw_4, (by decide +kernel), rfl, rfl⟩
abbrev XX7_start : MX := (yX7_start, cX7_start, 1, (Option.some .int), Cond.code yX7_start cX7_start 1 (Option.some .int) :: WS, { frames := 0, cells := 0, slots := 0, locals := 0 })
def BX7_start_0 : KT Int32 :=
  oAld 0 (oGet 7 4 (oIretP))
set_option maxRecDepth 20000 in
theorem sBX7_start_0 : Snd XX7_start fI 0 (BX7_start_0) (0) (0) := by
  unfold BX7_start_0
  refine s_Aldn 0 rfl 1 dX7_start_0 rfl ?_
  refine s_get 7 4 4 clX7 (by decide) tw_59 dX7_start_1 rfl ?_
  exact s_iretP rfl dX7_start_4
def EX7_start : List Value → HP → Option Int32 := en 1 BX7_start_0
theorem cmX7_start : CM XX7_start EX7_start fI 0 0 := CM.of rfl (by decide) rfl rfl sBX7_start_0
theorem yoX7_start : YO XX7_start 0 0 0 := ⟨tw_540, rfl, tw_4, (by decide +kernel), rfl, rfl⟩
abbrev XX7_letterCount : MX := (yX7_letterCount, cX7_letterCount, 1, (Option.some .int), Cond.code yX7_letterCount cX7_letterCount 1 (Option.some .int) :: WS, { frames := 0, cells := 0, slots := 0, locals := 0 })
def BX7_letterCount_0 : KT Int32 :=
  oAld 0 (oGet 7 2 (oAld 0 (oGet 7 4 (oisub (oIretP)))))
set_option maxRecDepth 20000 in
theorem sBX7_letterCount_0 : Snd XX7_letterCount fI 0 (BX7_letterCount_0) (0) (0) := by
  unfold BX7_letterCount_0
  refine s_Aldn 0 rfl 1 dX7_letterCount_0 rfl ?_
  refine s_get 7 2 4 clX7 (by decide) tw_57 dX7_letterCount_1 rfl ?_
  refine s_Aldn 0 rfl 5 dX7_letterCount_4 rfl ?_
  refine s_get 7 4 8 clX7 (by decide) tw_59 dX7_letterCount_5 rfl ?_
  refine s_isub 9 dX7_letterCount_8 rfl ?_
  exact s_iretP rfl dX7_letterCount_9
def EX7_letterCount : List Value → HP → Option Int32 := en 1 BX7_letterCount_0
theorem cmX7_letterCount : CM XX7_letterCount EX7_letterCount fI 0 0 := CM.of rfl (by decide) rfl rfl sBX7_letterCount_0
theorem yoX7_letterCount : YO XX7_letterCount 0 0 0 := ⟨tw_570, rfl, tw_4, (by decide +kernel), rfl, rfl⟩
abbrev XX7_isWord : MX := (yX7_isWord, cX7_isWord, 4, (Option.some .boolean), Cond.code yX7_isWord cX7_isWord 4 (Option.some .boolean) :: WS, { frames := 4, cells := 0, slots := 0, locals := 85 })
def BX7_isWord_54 (k27 : KT Bool) : KT Bool :=
  oCal 2 (some 99) EJ0_charAt_5068e fI (oCmpne (oConst (.int 0) (oIst 2 (oInc 3 1 (oPick [0, 1, 2, 3] k27)))) (oConst (.int 1) (oIst 2 (oInc 3 1 (oPick [0, 1, 2, 3] k27)))))
set_option maxRecDepth 20000 in
theorem sBX7_isWord_54 {k27 : KT Bool} (hk27 : Snd XX7_isWord fZ 27 k27 0 0) : Snd XX7_isWord fZ 54 (BX7_isWord_54 k27) (0) (0) := by
  unfold BX7_isWord_54
  refine s_cal0 57 (run_VS (X := XX7_isWord) yoJ0_charAt_5068e rfl tw_492 tw_493 tw_494 (by decide) dX7_isWord_54) cmJ0_charAt_5068e (fun _ _ _ => rfl) rfl ?_
  refine s_cmpne 64 60 dX7_isWord_57 (by decide) rfl ?_ ?_
  · refine s_iconst 65 0 (by decide) dX7_isWord_64 rfl ?_
    refine s_Istn 2 rfl 66 (by decide) dX7_isWord_65 rfl ?_
    refine s_inc 3 1 69 (by decide) (by decide) dX7_isWord_66 rfl ?_
    refine s_goto 27 dX7_isWord_69 (by decide) ?_
    exact s_pick hk27
  · refine s_iconst 61 1 (by decide) dX7_isWord_60 rfl ?_
    refine s_goto 65 dX7_isWord_61 (by decide) ?_
    refine s_Istn 2 rfl 66 (by decide) dX7_isWord_65 rfl ?_
    refine s_inc 3 1 69 (by decide) (by decide) dX7_isWord_66 rfl ?_
    refine s_goto 27 dX7_isWord_69 (by decide) ?_
    exact s_pick hk27
def BX7_isWord_49 (k27 : KT Bool) : KT Bool :=
  oCal 2 (some 6) EX6_byteAt fI (oAld 1 (oIld 3 (oPick [0, 1, 3] (BX7_isWord_54 k27))))
set_option maxRecDepth 20000 in
theorem sBX7_isWord_49 {k27 : KT Bool} (hk27 : Snd XX7_isWord fZ 27 k27 0 0) : Snd XX7_isWord fZ 49 (BX7_isWord_49 k27) (0) (0) := by
  unfold BX7_isWord_49
  refine s_cal0 52 (run_V (X := XX7_isWord) rfl clX6 yoX6_byteAt rfl tw_458 tw_459 tw_460 (by decide) dX7_isWord_49) cmX6_byteAt (fun _ _ _ => rfl) rfl ?_
  refine s_Aldn 1 rfl 53 dX7_isWord_52 rfl ?_
  refine s_Ildn 3 rfl 54 dX7_isWord_53 rfl ?_
  exact s_pick (sBX7_isWord_54 hk27)
def BX7_isWord_33 (k27 : KT Bool) : KT Bool :=
  oCal 1 (some 99) EJ0_length_8abf5 fI (oCmpge (oIld 2 (oZretP)) (oAld 0 (oGet 7 0 (oAld 0 (oGet 7 4 (oIld 3 (oiadd (oPick [0, 1, 3] (BX7_isWord_49 k27)))))))))
set_option maxRecDepth 20000 in
theorem sBX7_isWord_33 {k27 : KT Bool} (hk27 : Snd XX7_isWord fZ 27 k27 0 0) : Snd XX7_isWord fZ 33 (BX7_isWord_33 k27) (0) (0) := by
  unfold BX7_isWord_33
  refine s_cal0 36 (run_VS (X := XX7_isWord) yoJ0_length_8abf5 rfl tw_482 tw_483 tw_484 (by decide) dX7_isWord_33) cmJ0_length_8abf5 (fun _ _ _ => rfl) rfl ?_
  refine s_cmpge 72 39 dX7_isWord_36 (by decide) rfl ?_ ?_
  · refine s_Ildn 2 rfl 73 dX7_isWord_72 rfl ?_
    exact s_zretP rfl dX7_isWord_73
  · refine s_Aldn 0 rfl 40 dX7_isWord_39 rfl ?_
    refine s_get 7 0 43 clX7 (by decide) tw_55 dX7_isWord_40 rfl ?_
    refine s_Aldn 0 rfl 44 dX7_isWord_43 rfl ?_
    refine s_get 7 4 47 clX7 (by decide) tw_59 dX7_isWord_44 rfl ?_
    refine s_Ildn 3 rfl 48 dX7_isWord_47 rfl ?_
    refine s_iadd 49 dX7_isWord_48 rfl ?_
    exact s_pick (sBX7_isWord_49 hk27)
def BX7_isWord_27 (k27 : KT Bool) : KT Bool :=
  oIld 2 (oIfeq (oIld 2 (oZretP)) (oIld 3 (oAld 1 (oPick [0, 1, 2, 3] (BX7_isWord_33 k27)))))
set_option maxRecDepth 20000 in
theorem sBX7_isWord_27 {k27 : KT Bool} (hk27 : Snd XX7_isWord fZ 27 k27 0 0) : Snd XX7_isWord fZ 27 (BX7_isWord_27 k27) (0) (0) := by
  unfold BX7_isWord_27
  refine s_Ildn 2 rfl 28 dX7_isWord_27 rfl ?_
  refine s_ifeq 72 31 dX7_isWord_28 (by decide) rfl ?_ ?_
  · refine s_Ildn 2 rfl 73 dX7_isWord_72 rfl ?_
    exact s_zretP rfl dX7_isWord_73
  · refine s_Ildn 3 rfl 32 dX7_isWord_31 rfl ?_
    refine s_Aldn 1 rfl 33 dX7_isWord_32 rfl ?_
    exact s_pick (sBX7_isWord_33 hk27)
def BX7_isWord_13 : KT Bool :=
  oCal 1 (some 99) EJ0_length_8abf5 fI (oCmpne (oConst (.int 0) (oIst 2 (oConst (.int 0) (oIst 3 (oPick [0, 1, 2, 3] (lp (BX7_isWord_27) FU)))))) (oConst (.int 1) (oIst 2 (oConst (.int 0) (oIst 3 (oPick [0, 1, 2, 3] (lp (BX7_isWord_27) FU)))))))
set_option maxRecDepth 20000 in
theorem sBX7_isWord_13 : Snd XX7_isWord fZ 13 (BX7_isWord_13) (0) (0) := by
  unfold BX7_isWord_13
  refine s_cal0 16 (run_VS (X := XX7_isWord) yoJ0_length_8abf5 rfl tw_482 tw_483 tw_484 (by decide) dX7_isWord_13) cmJ0_length_8abf5 (fun _ _ _ => rfl) rfl ?_
  refine s_cmpne 23 19 dX7_isWord_16 (by decide) rfl ?_ ?_
  · refine s_iconst 24 0 (by decide) dX7_isWord_23 rfl ?_
    refine s_Istn 2 rfl 25 (by decide) dX7_isWord_24 rfl ?_
    refine s_iconst 26 0 (by decide) dX7_isWord_25 rfl ?_
    refine s_Istn 3 rfl 27 (by decide) dX7_isWord_26 rfl ?_
    exact s_pick (s_lp (fun k hk => sBX7_isWord_27  hk) FU)
  · refine s_iconst 20 1 (by decide) dX7_isWord_19 rfl ?_
    refine s_goto 24 dX7_isWord_20 (by decide) ?_
    refine s_Istn 2 rfl 25 (by decide) dX7_isWord_24 rfl ?_
    refine s_iconst 26 0 (by decide) dX7_isWord_25 rfl ?_
    refine s_Istn 3 rfl 27 (by decide) dX7_isWord_26 rfl ?_
    exact s_pick (s_lp (fun k hk => sBX7_isWord_27  hk) FU)
def BX7_isWord_0 : KT Bool :=
  oAld 0 (oGet 7 3 (oConst (.int 1) (oCmpne (oConst (.int 0) (oIst 2 (oConst (.int 0) (oIst 3 (oPick [0, 1, 2, 3] (lp (BX7_isWord_27) FU)))))) (oAld 0 (oCal 1 (some 7) EX7_letterCount fI (oAld 1 (oPick [0, 1] (BX7_isWord_13))))))))
set_option maxRecDepth 20000 in
theorem sBX7_isWord_0 : Snd XX7_isWord fZ 0 (BX7_isWord_0) (0) (0) := by
  unfold BX7_isWord_0
  refine s_Aldn 0 rfl 1 dX7_isWord_0 rfl ?_
  refine s_get 7 3 4 clX7 (by decide) tw_58 dX7_isWord_1 rfl ?_
  refine s_iconst 5 1 (by decide) dX7_isWord_4 rfl ?_
  refine s_cmpne 23 8 dX7_isWord_5 (by decide) rfl ?_ ?_
  · refine s_iconst 24 0 (by decide) dX7_isWord_23 rfl ?_
    refine s_Istn 2 rfl 25 (by decide) dX7_isWord_24 rfl ?_
    refine s_iconst 26 0 (by decide) dX7_isWord_25 rfl ?_
    refine s_Istn 3 rfl 27 (by decide) dX7_isWord_26 rfl ?_
    exact s_pick (s_lp (fun k hk => sBX7_isWord_27  hk) FU)
  · refine s_Aldn 0 rfl 9 dX7_isWord_8 rfl ?_
    refine s_cal0 12 (run_V (X := XX7_isWord) rfl clX7 yoX7_letterCount rfl tw_567 tw_568 tw_569 (by decide) dX7_isWord_9) cmX7_letterCount (fun _ _ _ => rfl) rfl ?_
    refine s_Aldn 1 rfl 13 dX7_isWord_12 rfl ?_
    exact s_pick (sBX7_isWord_13)
def EX7_isWord : List Value → HP → Option Bool := en 4 BX7_isWord_0
theorem cmX7_isWord : CM XX7_isWord EX7_isWord fZ 0 0 := CM.of rfl (by decide) rfl rfl sBX7_isWord_0
theorem yoX7_isWord : YO XX7_isWord 1 0 0 := ⟨tw_566, rfl, tw_4, (by decide +kernel), rfl, rfl⟩
abbrev XX7_kind : MX := (yX7_kind, cX7_kind, 1, (Option.some .int), Cond.code yX7_kind cX7_kind 1 (Option.some .int) :: WS, { frames := 0, cells := 0, slots := 0, locals := 0 })
def BX7_kind_0 : KT Int32 :=
  oAld 0 (oGet 7 3 (oIretP))
set_option maxRecDepth 20000 in
theorem sBX7_kind_0 : Snd XX7_kind fI 0 (BX7_kind_0) (0) (0) := by
  unfold BX7_kind_0
  refine s_Aldn 0 rfl 1 dX7_kind_0 rfl ?_
  refine s_get 7 3 4 clX7 (by decide) tw_58 dX7_kind_1 rfl ?_
  exact s_iretP rfl dX7_kind_4
def EX7_kind : List Value → HP → Option Int32 := en 1 BX7_kind_0
theorem cmX7_kind : CM XX7_kind EX7_kind fI 0 0 := CM.of rfl (by decide) rfl rfl sBX7_kind_0
theorem yoX7_kind : YO XX7_kind 0 0 0 := ⟨tw_578, rfl, tw_4, (by decide +kernel), rfl, rfl⟩
abbrev XX7_value : MX := (yX7_value, cX7_value, 1, (Option.some .int), Cond.code yX7_value cX7_value 1 (Option.some .int) :: WS, { frames := 0, cells := 0, slots := 0, locals := 0 })
def BX7_value_0 : KT Int32 :=
  oAld 0 (oGet 7 5 (oIretP))
set_option maxRecDepth 20000 in
theorem sBX7_value_0 : Snd XX7_value fI 0 (BX7_value_0) (0) (0) := by
  unfold BX7_value_0
  refine s_Aldn 0 rfl 1 dX7_value_0 rfl ?_
  refine s_get 7 5 4 clX7 (by decide) tw_60 dX7_value_1 rfl ?_
  exact s_iretP rfl dX7_value_4
def EX7_value : List Value → HP → Option Int32 := en 1 BX7_value_0
theorem cmX7_value : CM XX7_value EX7_value fI 0 0 := CM.of rfl (by decide) rfl rfl sBX7_value_0
theorem yoX7_value : YO XX7_value 0 0 0 := ⟨tw_582, rfl, tw_4, (by decide +kernel), rfl, rfl⟩
abbrev XX7_letter : MX := (yX7_letter, cX7_letter, 2, (Option.some .int), Cond.code yX7_letter cX7_letter 2 (Option.some .int) :: WS, { frames := 1, cells := 0, slots := 0, locals := 21 })
def BX7_letter_10 : KT Int32 :=
  oCal 2 (some 6) EX6_byteAt fI (oIretP)
set_option maxRecDepth 20000 in
theorem sBX7_letter_10 : Snd XX7_letter fI 10 (BX7_letter_10) (0) (0) := by
  unfold BX7_letter_10
  refine s_cal0 13 (run_V (X := XX7_letter) rfl clX6 yoX6_byteAt rfl tw_458 tw_459 tw_460 (by decide) dX7_letter_10) cmX6_byteAt (fun _ _ _ => rfl) rfl ?_
  exact s_iretP rfl dX7_letter_13
def BX7_letter_0 : KT Int32 :=
  oAld 0 (oGet 7 0 (oAld 0 (oGet 7 4 (oIld 1 (oiadd (oPick [] (BX7_letter_10)))))))
set_option maxRecDepth 20000 in
theorem sBX7_letter_0 : Snd XX7_letter fI 0 (BX7_letter_0) (0) (0) := by
  unfold BX7_letter_0
  refine s_Aldn 0 rfl 1 dX7_letter_0 rfl ?_
  refine s_get 7 0 4 clX7 (by decide) tw_55 dX7_letter_1 rfl ?_
  refine s_Aldn 0 rfl 5 dX7_letter_4 rfl ?_
  refine s_get 7 4 8 clX7 (by decide) tw_59 dX7_letter_5 rfl ?_
  refine s_Ildn 1 rfl 9 dX7_letter_8 rfl ?_
  refine s_iadd 10 dX7_letter_9 rfl ?_
  exact s_pick (sBX7_letter_10)
def EX7_letter : List Value → HP → Option Int32 := en 2 BX7_letter_0
theorem cmX7_letter : CM XX7_letter EX7_letter fI 0 0 := CM.of rfl (by decide) rfl rfl sBX7_letter_0
theorem yoX7_letter : YO XX7_letter 1 0 0 := ⟨tw_607, rfl, tw_4, (by decide +kernel), rfl, rfl⟩
abbrev XX7_isSign : MX := (yX7_isSign, cX7_isSign, 2, (Option.some .boolean), Cond.code yX7_isSign cX7_isSign 2 (Option.some .boolean) :: WS, { frames := 1, cells := 0, slots := 0, locals := 21 })
def BX7_isSign_16 : KT Bool :=
  oCal 2 (some 6) EX6_byteAt fI (oIld 1 (oCmpne (oConst (.int 0) (oZretP)) (oConst (.int 1) (oZretP))))
set_option maxRecDepth 20000 in
theorem sBX7_isSign_16 : Snd XX7_isSign fZ 16 (BX7_isSign_16) (0) (0) := by
  unfold BX7_isSign_16
  refine s_cal0 19 (run_V (X := XX7_isSign) rfl clX6 yoX6_byteAt rfl tw_458 tw_459 tw_460 (by decide) dX7_isSign_16) cmX6_byteAt (fun _ _ _ => rfl) rfl ?_
  refine s_Ildn 1 rfl 20 dX7_isSign_19 rfl ?_
  refine s_cmpne 27 23 dX7_isSign_20 (by decide) rfl ?_ ?_
  · refine s_iconst 28 0 (by decide) dX7_isSign_27 rfl ?_
    exact s_zretP rfl dX7_isSign_28
  · refine s_iconst 24 1 (by decide) dX7_isSign_23 rfl ?_
    refine s_goto 28 dX7_isSign_24 (by decide) ?_
    exact s_zretP rfl dX7_isSign_28
def BX7_isSign_0 : KT Bool :=
  oAld 0 (oGet 7 3 (oConst (.int 3) (oCmpne (oConst (.int 0) (oZretP)) (oAld 0 (oGet 7 0 (oAld 0 (oGet 7 4 (oPick [1] (BX7_isSign_16)))))))))
set_option maxRecDepth 20000 in
theorem sBX7_isSign_0 : Snd XX7_isSign fZ 0 (BX7_isSign_0) (0) (0) := by
  unfold BX7_isSign_0
  refine s_Aldn 0 rfl 1 dX7_isSign_0 rfl ?_
  refine s_get 7 3 4 clX7 (by decide) tw_58 dX7_isSign_1 rfl ?_
  refine s_iconst 5 3 (by decide) dX7_isSign_4 rfl ?_
  refine s_cmpne 27 8 dX7_isSign_5 (by decide) rfl ?_ ?_
  · refine s_iconst 28 0 (by decide) dX7_isSign_27 rfl ?_
    exact s_zretP rfl dX7_isSign_28
  · refine s_Aldn 0 rfl 9 dX7_isSign_8 rfl ?_
    refine s_get 7 0 12 clX7 (by decide) tw_55 dX7_isSign_9 rfl ?_
    refine s_Aldn 0 rfl 13 dX7_isSign_12 rfl ?_
    refine s_get 7 4 16 clX7 (by decide) tw_59 dX7_isSign_13 rfl ?_
    exact s_pick (sBX7_isSign_16)
def EX7_isSign : List Value → HP → Option Bool := en 2 BX7_isSign_0
theorem cmX7_isSign : CM XX7_isSign EX7_isSign fZ 0 0 := CM.of rfl (by decide) rfl rfl sBX7_isSign_0
theorem yoX7_isSign : YO XX7_isSign 1 0 0 := ⟨tw_629, rfl, tw_4, (by decide +kernel), rfl, rfl⟩
abbrev XX7_code : MX := (yX7_code, cX7_code, 1, (Option.some .long), Cond.code yX7_code cX7_code 1 (Option.some .long) :: WS, { frames := 0, cells := 0, slots := 0, locals := 0 })
def BX7_code_0 : KT Int64 :=
  oAld 0 (oGet 7 6 (oLretP))
set_option maxRecDepth 20000 in
theorem sBX7_code_0 : Snd XX7_code fL 0 (BX7_code_0) (0) (0) := by
  unfold BX7_code_0
  refine s_Aldn 0 rfl 1 dX7_code_0 rfl ?_
  refine s_get 7 6 4 clX7 (by decide) tw_61 dX7_code_1 rfl ?_
  exact s_lretP rfl dX7_code_4
def EX7_code : List Value → HP → Option Int64 := en 1 BX7_code_0
theorem cmX7_code : CM XX7_code EX7_code fL 0 0 := CM.of rfl (by decide) rfl rfl sBX7_code_0
theorem yoX7_code : YO XX7_code 0 0 0 := ⟨tw_658, rfl, tw_4, (by decide +kernel), rfl, rfl⟩
abbrev XX7_init : MX := (yX7_init, cX7_init, 2, none, Cond.code yX7_init cX7_init 2 none :: WS, { frames := 1, cells := 0, slots := 0, locals := 20 })
def BX7_init_0 : KT HP :=
  oAld 0 (oPopA (oAld 0 (oAld 1 (oPut 7 0 (.object "MownMaze$Tape") (oVretH)))))
set_option maxRecDepth 20000 in
theorem sBX7_init_0 : Snd XX7_init fVH 0 (BX7_init_0) (0) (0) := by
  unfold BX7_init_0
  refine s_Aldn 0 rfl 1 dX7_init_0 rfl ?_
  refine s_objI 4 tw_54 tw_31 tw_32 (by decide) (by decide) dX7_init_1 rfl ?_
  refine s_Aldn 0 rfl 5 dX7_init_4 rfl ?_
  refine s_Aldn 1 rfl 6 dX7_init_5 rfl ?_
  refine s_putF 7 0 9 clX7 (by decide) rfl rfl rfl rfl pVH tw_55 dX7_init_6 rfl ?_
  exact s_vretH rfl dX7_init_9
def EX7_init : List Value → HP → Option HP := en 2 BX7_init_0
theorem cmX7_init : CM XX7_init EX7_init fVH 0 0 := CM.of rfl (by decide) rfl rfl sBX7_init_0
theorem yoX7_init : YO XX7_init 1 0 0 := ⟨tw_53, rfl, tw_4, (by decide +kernel), rfl, rfl⟩
end
