noncomputable section
abbrev XX4_init : MX := (yX4_init, cX4_init, 2, none, Cond.code yX4_init cX4_init 2 none :: WS, { frames := 1, cells := 0, slots := 0, locals := 20 })
def BX4_init_0 : KT HP :=
  oAld 0 (oPopA (oAld 0 (oAld 1 (oPut 4 0 (.object "MownMaze$Tokens") (oVretH)))))
set_option maxRecDepth 20000 in
theorem sBX4_init_0 : Snd XX4_init fVH 0 (BX4_init_0) (0) (0) := by
  unfold BX4_init_0
  refine s_Aldn 0 rfl 1 dX4_init_0 rfl ?_
  refine s_objI 4 tw_80 tw_31 tw_32 (by decide) (by decide) dX4_init_1 rfl ?_
  refine s_Aldn 0 rfl 5 dX4_init_4 rfl ?_
  refine s_Aldn 1 rfl 6 dX4_init_5 rfl ?_
  refine s_putF 4 0 9 clX4 (by decide) rfl rfl rfl rfl pVH tw_81 dX4_init_6 rfl ?_
  exact s_vretH rfl dX4_init_9
def EX4_init : List Value → HP → Option HP := en 2 BX4_init_0
theorem cmX4_init : CM XX4_init EX4_init fVH 0 0 := CM.of rfl (by decide) rfl rfl sBX4_init_0
theorem yoX4_init : YO XX4_init 1 0 0 := ⟨tw_79, rfl, tw_3, (by decide +kernel), rfl, rfl⟩
abbrev XX4_faultFound : MX := (yX4_faultFound, cX4_faultFound, 1, (Option.some .int), Cond.code yX4_faultFound cX4_faultFound 1 (Option.some .int) :: WS, { frames := 0, cells := 0, slots := 0, locals := 0 })
def BX4_faultFound_0 : KT Int32 :=
  oAld 0 (oGet 4 1 (oIretP))
set_option maxRecDepth 20000 in
theorem sBX4_faultFound_0 : Snd XX4_faultFound fI 0 (BX4_faultFound_0) (0) (0) := by
  unfold BX4_faultFound_0
  refine s_Aldn 0 rfl 1 dX4_faultFound_0 rfl ?_
  refine s_get 4 1 4 clX4 (by decide) tw_82 dX4_faultFound_1 rfl ?_
  exact s_iretP rfl dX4_faultFound_4
def EX4_faultFound : List Value → HP → Option Int32 := en 1 BX4_faultFound_0
theorem cmX4_faultFound : CM XX4_faultFound EX4_faultFound fI 0 0 := CM.of rfl (by decide) rfl rfl sBX4_faultFound_0
theorem yoX4_faultFound : YO XX4_faultFound 0 0 0 := ⟨tw_687, rfl, tw_3, (by decide +kernel), rfl, rfl⟩
abbrev XX4_placeOfFault : MX := (yX4_placeOfFault, cX4_placeOfFault, 1, (Option.some .int), Cond.code yX4_placeOfFault cX4_placeOfFault 1 (Option.some .int) :: WS, { frames := 0, cells := 0, slots := 0, locals := 0 })
def BX4_placeOfFault_0 : KT Int32 :=
  oAld 0 (oGet 4 2 (oIretP))
set_option maxRecDepth 20000 in
theorem sBX4_placeOfFault_0 : Snd XX4_placeOfFault fI 0 (BX4_placeOfFault_0) (0) (0) := by
  unfold BX4_placeOfFault_0
  refine s_Aldn 0 rfl 1 dX4_placeOfFault_0 rfl ?_
  refine s_get 4 2 4 clX4 (by decide) tw_83 dX4_placeOfFault_1 rfl ?_
  exact s_iretP rfl dX4_placeOfFault_4
def EX4_placeOfFault : List Value → HP → Option Int32 := en 1 BX4_placeOfFault_0
theorem cmX4_placeOfFault : CM XX4_placeOfFault EX4_placeOfFault fI 0 0 := CM.of rfl (by decide) rfl rfl sBX4_placeOfFault_0
theorem yoX4_placeOfFault : YO XX4_placeOfFault 0 0 0 := ⟨tw_691, rfl, tw_3, (by decide +kernel), rfl, rfl⟩
abbrev XX4_failAt : MX := (yX4_failAt, cX4_failAt, 3, (Option.some .boolean), Cond.code yX4_failAt cX4_failAt 3 (Option.some .boolean) :: WS, { frames := 0, cells := 0, slots := 0, locals := 0 })
def BX4_failAt_0 : KT (Bool × HP) :=
  oAld 0 (oIld 1 (oPut 4 1 .int (oAld 0 (oIld 2 (oPut 4 2 .int (oConst (.int 0) (oZretH)))))))
set_option maxRecDepth 20000 in
theorem sBX4_failAt_0 : Snd XX4_failAt fZH 0 (BX4_failAt_0) (0) (0) := by
  unfold BX4_failAt_0
  refine s_Aldn 0 rfl 1 dX4_failAt_0 rfl ?_
  refine s_Ildn 1 rfl 2 dX4_failAt_1 rfl ?_
  refine s_put 4 1 5 clX4 (by decide) rfl rfl pZH tw_82 dX4_failAt_2 rfl ?_
  refine s_Aldn 0 rfl 6 dX4_failAt_5 rfl ?_
  refine s_Ildn 2 rfl 7 dX4_failAt_6 rfl ?_
  refine s_put 4 2 10 clX4 (by decide) rfl rfl pZH tw_83 dX4_failAt_7 rfl ?_
  refine s_iconst 11 0 (by decide) dX4_failAt_10 rfl ?_
  exact s_zretH rfl dX4_failAt_11
def EX4_failAt : List Value → HP → Option (Bool × HP) := en 3 BX4_failAt_0
theorem cmX4_failAt : CM XX4_failAt EX4_failAt fZH 0 0 := CM.of rfl (by decide) rfl rfl sBX4_failAt_0
theorem yoX4_failAt : YO XX4_failAt 2 0 0 := ⟨tw_544, rfl, tw_3, (by decide +kernel), rfl, rfl⟩
abbrev XX4_fail : MX := (yX4_fail, cX4_fail, 2, (Option.some .boolean), Cond.code yX4_fail cX4_fail 2 (Option.some .boolean) :: WS, { frames := 1, cells := 0, slots := 0, locals := 22 })
def BX4_fail_0 : KT (Bool × HP) :=
  oAld 0 (oIld 1 (oAld 0 (oGet 4 0 (oCal 1 (some 7) EX7_start fI (oCal 3 (some 4) EX4_failAt fZH (oZretH))))))
set_option maxRecDepth 20000 in
theorem sBX4_fail_0 : Snd XX4_fail fZH 0 (BX4_fail_0) (0) (0) := by
  unfold BX4_fail_0
  refine s_Aldn 0 rfl 1 dX4_fail_0 rfl ?_
  refine s_Ildn 1 rfl 2 dX4_fail_1 rfl ?_
  refine s_Aldn 0 rfl 3 dX4_fail_2 rfl ?_
  refine s_get 4 0 6 clX4 (by decide) tw_81 dX4_fail_3 rfl ?_
  refine s_cal0 9 (run_V (X := XX4_fail) rfl clX7 yoX7_start rfl tw_537 tw_538 tw_539 (by decide) dX4_fail_6) cmX7_start (fun _ _ _ => rfl) rfl ?_
  refine s_cal0 12 (run_V (X := XX4_fail) rfl clX4 yoX4_failAt rfl tw_541 tw_543 tw_p5 (by decide) dX4_fail_9) cmX4_failAt (fun _ _ _ => rfl) rfl ?_
  exact s_zretH rfl dX4_fail_12
def EX4_fail : List Value → HP → Option (Bool × HP) := en 2 BX4_fail_0
theorem cmX4_fail : CM XX4_fail EX4_fail fZH 0 0 := CM.of rfl (by decide) rfl rfl sBX4_fail_0
theorem yoX4_fail : YO XX4_fail 1 0 0 := ⟨tw_536, rfl, tw_3, (by decide +kernel), rfl, rfl⟩
abbrev XX4_takeWord : MX := (yX4_takeWord, cX4_takeWord, 2, (Option.some .boolean), Cond.code yX4_takeWord cX4_takeWord 2 (Option.some .boolean) :: WS, { frames := 5, cells := 0, slots := 0, locals := 108 })
def BX4_takeWord_21 : KT (Bool × HP) :=
  oCal 1 (some 7) EX7_goOn fVH (oConst (.int 1) (oZretH))
set_option maxRecDepth 20000 in
theorem sBX4_takeWord_21 : Snd XX4_takeWord fZH 21 (BX4_takeWord_21) (0) (0) := by
  unfold BX4_takeWord_21
  refine s_cal0 24 (run_V (X := XX4_takeWord) rfl clX7 yoX7_goOn rfl tw_553 tw_455 tw_456 (by decide) dX4_takeWord_21) cmX7_goOn (fun _ _ _ => rfl) rfl ?_
  refine s_iconst 25 1 (by decide) dX4_takeWord_24 rfl ?_
  exact s_zretH rfl dX4_takeWord_25
def BX4_takeWord_5 : KT (Bool × HP) :=
  oCal 2 (some 7) EX7_isWord fZ (oIfne (oAld 0 (oGet 4 0 (oPick [] (BX4_takeWord_21)))) (oAld 0 (oConst (.int 1) (oCal 2 (some 4) EX4_fail fZH (oZretH)))))
set_option maxRecDepth 20000 in
theorem sBX4_takeWord_5 : Snd XX4_takeWord fZH 5 (BX4_takeWord_5) (0) (0) := by
  unfold BX4_takeWord_5
  refine s_cal0 8 (run_V (X := XX4_takeWord) rfl clX7 yoX7_isWord rfl tw_563 tw_564 tw_565 (by decide) dX4_takeWord_5) cmX7_isWord (fun _ _ _ => rfl) rfl ?_
  refine s_ifne 17 11 dX4_takeWord_8 (by decide) rfl ?_ ?_
  · refine s_Aldn 0 rfl 18 dX4_takeWord_17 rfl ?_
    refine s_get 4 0 21 clX4 (by decide) tw_81 dX4_takeWord_18 rfl ?_
    exact s_pick (sBX4_takeWord_21)
  · refine s_Aldn 0 rfl 12 dX4_takeWord_11 rfl ?_
    refine s_iconst 13 1 (by decide) dX4_takeWord_12 rfl ?_
    refine s_cal0 16 (run_V (X := XX4_takeWord) rfl clX4 yoX4_fail rfl tw_533 tw_535 tw_p4 (by decide) dX4_takeWord_13) cmX4_fail (fun _ _ _ => rfl) rfl ?_
    exact s_zretH rfl dX4_takeWord_16
def BX4_takeWord_0 : KT (Bool × HP) :=
  oAld 0 (oGet 4 0 (oAld 1 (oPick [0] (BX4_takeWord_5))))
set_option maxRecDepth 20000 in
theorem sBX4_takeWord_0 : Snd XX4_takeWord fZH 0 (BX4_takeWord_0) (0) (0) := by
  unfold BX4_takeWord_0
  refine s_Aldn 0 rfl 1 dX4_takeWord_0 rfl ?_
  refine s_get 4 0 4 clX4 (by decide) tw_81 dX4_takeWord_1 rfl ?_
  refine s_Aldn 1 rfl 5 dX4_takeWord_4 rfl ?_
  exact s_pick (sBX4_takeWord_5)
def EX4_takeWord : List Value → HP → Option (Bool × HP) := en 2 BX4_takeWord_0
theorem cmX4_takeWord : CM XX4_takeWord EX4_takeWord fZH 0 0 := CM.of rfl (by decide) rfl rfl sBX4_takeWord_0
theorem yoX4_takeWord : YO XX4_takeWord 1 0 0 := ⟨tw_562, rfl, tw_3, (by decide +kernel), rfl, rfl⟩
abbrev XX4_takeWhole : MX := (yX4_takeWhole, cX4_takeWhole, 3, (Option.some .boolean), Cond.code yX4_takeWhole cX4_takeWhole 3 (Option.some .boolean) :: WS, { frames := 2, cells := 0, slots := 0, locals := 43 })
def BX4_takeWhole_54 : KT (Bool × HP) :=
  oCal 1 (some 7) EX7_goOn fVH (oConst (.int 1) (oZretH))
set_option maxRecDepth 20000 in
theorem sBX4_takeWhole_54 : Snd XX4_takeWhole fZH 54 (BX4_takeWhole_54) (0) (0) := by
  unfold BX4_takeWhole_54
  refine s_cal0 57 (run_V (X := XX4_takeWhole) rfl clX7 yoX7_goOn rfl tw_553 tw_455 tw_456 (by decide) dX4_takeWhole_54) cmX7_goOn (fun _ _ _ => rfl) rfl ?_
  refine s_iconst 58 1 (by decide) dX4_takeWhole_57 rfl ?_
  exact s_zretH rfl dX4_takeWhole_58
def BX4_takeWhole_0 : KT (Bool × HP) :=
  oAld 0 (oGet 4 0 (oCal 1 (some 7) EX7_kind fI (oConst (.int 2) (oCmpeq (oAld 0 (oAld 0 (oGet 4 0 (oCal 1 (some 7) EX7_value fI (oPut 4 3 .int (oAld 0 (oGet 4 3 (oIld 1 (oCmplt (oAld 0 (oConst (.int 4) (oCal 2 (some 4) EX4_fail fZH (oZretH)))) (oAld 0 (oGet 4 3 (oIld 2 (oCmple (oAld 0 (oGet 4 0 (oPick [] (BX4_takeWhole_54)))) (oAld 0 (oConst (.int 4) (oCal 2 (some 4) EX4_fail fZH (oZretH))))))))))))))))) (oAld 0 (oConst (.int 1) (oCal 2 (some 4) EX4_fail fZH (oZretH))))))))
set_option maxRecDepth 20000 in
theorem sBX4_takeWhole_0 : Snd XX4_takeWhole fZH 0 (BX4_takeWhole_0) (0) (0) := by
  unfold BX4_takeWhole_0
  refine s_Aldn 0 rfl 1 dX4_takeWhole_0 rfl ?_
  refine s_get 4 0 4 clX4 (by decide) tw_81 dX4_takeWhole_1 rfl ?_
  refine s_cal0 7 (run_V (X := XX4_takeWhole) rfl clX7 yoX7_kind rfl tw_575 tw_576 tw_577 (by decide) dX4_takeWhole_4) cmX7_kind (fun _ _ _ => rfl) rfl ?_
  refine s_iconst 8 2 (by decide) dX4_takeWhole_7 rfl ?_
  refine s_cmpeq 17 11 dX4_takeWhole_8 (by decide) rfl ?_ ?_
  · refine s_Aldn 0 rfl 18 dX4_takeWhole_17 rfl ?_
    refine s_Aldn 0 rfl 19 dX4_takeWhole_18 rfl ?_
    refine s_get 4 0 22 clX4 (by decide) tw_81 dX4_takeWhole_19 rfl ?_
    refine s_cal0 25 (run_V (X := XX4_takeWhole) rfl clX7 yoX7_value rfl tw_579 tw_580 tw_581 (by decide) dX4_takeWhole_22) cmX7_value (fun _ _ _ => rfl) rfl ?_
    refine s_put 4 3 28 clX4 (by decide) rfl rfl pZH tw_84 dX4_takeWhole_25 rfl ?_
    refine s_Aldn 0 rfl 29 dX4_takeWhole_28 rfl ?_
    refine s_get 4 3 32 clX4 (by decide) tw_84 dX4_takeWhole_29 rfl ?_
    refine s_Ildn 1 rfl 33 dX4_takeWhole_32 rfl ?_
    refine s_cmplt 44 36 dX4_takeWhole_33 (by decide) rfl ?_ ?_
    · refine s_Aldn 0 rfl 45 dX4_takeWhole_44 rfl ?_
      refine s_iconst 46 4 (by decide) dX4_takeWhole_45 rfl ?_
      refine s_cal0 49 (run_V (X := XX4_takeWhole) rfl clX4 yoX4_fail rfl tw_533 tw_535 tw_p4 (by decide) dX4_takeWhole_46) cmX4_fail (fun _ _ _ => rfl) rfl ?_
      exact s_zretH rfl dX4_takeWhole_49
    · refine s_Aldn 0 rfl 37 dX4_takeWhole_36 rfl ?_
      refine s_get 4 3 40 clX4 (by decide) tw_84 dX4_takeWhole_37 rfl ?_
      refine s_Ildn 2 rfl 41 dX4_takeWhole_40 rfl ?_
      refine s_cmple 50 44 dX4_takeWhole_41 (by decide) rfl ?_ ?_
      · refine s_Aldn 0 rfl 51 dX4_takeWhole_50 rfl ?_
        refine s_get 4 0 54 clX4 (by decide) tw_81 dX4_takeWhole_51 rfl ?_
        exact s_pick (sBX4_takeWhole_54)
      · refine s_Aldn 0 rfl 45 dX4_takeWhole_44 rfl ?_
        refine s_iconst 46 4 (by decide) dX4_takeWhole_45 rfl ?_
        refine s_cal0 49 (run_V (X := XX4_takeWhole) rfl clX4 yoX4_fail rfl tw_533 tw_535 tw_p4 (by decide) dX4_takeWhole_46) cmX4_fail (fun _ _ _ => rfl) rfl ?_
        exact s_zretH rfl dX4_takeWhole_49
  · refine s_Aldn 0 rfl 12 dX4_takeWhole_11 rfl ?_
    refine s_iconst 13 1 (by decide) dX4_takeWhole_12 rfl ?_
    refine s_cal0 16 (run_V (X := XX4_takeWhole) rfl clX4 yoX4_fail rfl tw_533 tw_535 tw_p4 (by decide) dX4_takeWhole_13) cmX4_fail (fun _ _ _ => rfl) rfl ?_
    exact s_zretH rfl dX4_takeWhole_16
def EX4_takeWhole : List Value → HP → Option (Bool × HP) := en 3 BX4_takeWhole_0
theorem cmX4_takeWhole : CM XX4_takeWhole EX4_takeWhole fZH 0 0 := CM.of rfl (by decide) rfl rfl sBX4_takeWhole_0
theorem yoX4_takeWhole : YO XX4_takeWhole 2 0 0 := ⟨tw_574, rfl, tw_3, (by decide +kernel), rfl, rfl⟩
abbrev XX4_takeNamed : MX := (yX4_takeNamed, cX4_takeNamed, 4, (Option.some .boolean), Cond.code yX4_takeNamed cX4_takeNamed 4 (Option.some .boolean) :: WS, { frames := 6, cells := 0, slots := 0, locals := 129 })
def BX4_takeNamed_11 : KT (Bool × HP) :=
  oCal 3 (some 4) EX4_takeWhole fZH (oIfeq (oConst (.int 0) (oZretH)) (oConst (.int 1) (oZretH)))
set_option maxRecDepth 20000 in
theorem sBX4_takeNamed_11 : Snd XX4_takeNamed fZH 11 (BX4_takeNamed_11) (0) (0) := by
  unfold BX4_takeNamed_11
  refine s_cal0 14 (run_V (X := XX4_takeNamed) rfl clX4 yoX4_takeWhole rfl tw_571 tw_573 tw_p9 (by decide) dX4_takeNamed_11) cmX4_takeWhole (fun _ _ _ => rfl) rfl ?_
  refine s_ifeq 21 17 dX4_takeNamed_14 (by decide) rfl ?_ ?_
  · refine s_iconst 22 0 (by decide) dX4_takeNamed_21 rfl ?_
    exact s_zretH rfl dX4_takeNamed_22
  · refine s_iconst 18 1 (by decide) dX4_takeNamed_17 rfl ?_
    refine s_goto 22 dX4_takeNamed_18 (by decide) ?_
    exact s_zretH rfl dX4_takeNamed_22
def BX4_takeNamed_2 : KT (Bool × HP) :=
  oCal 2 (some 4) EX4_takeWord fZH (oIfeq (oConst (.int 0) (oZretH)) (oAld 0 (oIld 2 (oIld 3 (oPick [] (BX4_takeNamed_11))))))
set_option maxRecDepth 20000 in
theorem sBX4_takeNamed_2 : Snd XX4_takeNamed fZH 2 (BX4_takeNamed_2) (0) (0) := by
  unfold BX4_takeNamed_2
  refine s_cal0 5 (run_V (X := XX4_takeNamed) rfl clX4 yoX4_takeWord rfl tw_559 tw_561 tw_p8 (by decide) dX4_takeNamed_2) cmX4_takeWord (fun _ _ _ => rfl) rfl ?_
  refine s_ifeq 21 8 dX4_takeNamed_5 (by decide) rfl ?_ ?_
  · refine s_iconst 22 0 (by decide) dX4_takeNamed_21 rfl ?_
    exact s_zretH rfl dX4_takeNamed_22
  · refine s_Aldn 0 rfl 9 dX4_takeNamed_8 rfl ?_
    refine s_Ildn 2 rfl 10 dX4_takeNamed_9 rfl ?_
    refine s_Ildn 3 rfl 11 dX4_takeNamed_10 rfl ?_
    exact s_pick (sBX4_takeNamed_11)
def BX4_takeNamed_0 : KT (Bool × HP) :=
  oAld 0 (oAld 1 (oPick [0, 2, 3] (BX4_takeNamed_2)))
set_option maxRecDepth 20000 in
theorem sBX4_takeNamed_0 : Snd XX4_takeNamed fZH 0 (BX4_takeNamed_0) (0) (0) := by
  unfold BX4_takeNamed_0
  refine s_Aldn 0 rfl 1 dX4_takeNamed_0 rfl ?_
  refine s_Aldn 1 rfl 2 dX4_takeNamed_1 rfl ?_
  exact s_pick (sBX4_takeNamed_2)
def EX4_takeNamed : List Value → HP → Option (Bool × HP) := en 4 BX4_takeNamed_0
theorem cmX4_takeNamed : CM XX4_takeNamed EX4_takeNamed fZH 0 0 := CM.of rfl (by decide) rfl rfl sBX4_takeNamed_0
theorem yoX4_takeNamed : YO XX4_takeNamed 3 0 0 := ⟨tw_558, rfl, tw_3, (by decide +kernel), rfl, rfl⟩
abbrev XX4_readSizes : MX := (yX4_readSizes, cX4_readSizes, 6, (Option.some .boolean), Cond.code yX4_readSizes cX4_readSizes 6 (Option.some .boolean) :: WS, { frames := 7, cells := 0, slots := 0, locals := 152 })
def BX4_readSizes_110 : KT (Bool × HP) :=
  oCal 6 (some 3) EX3_lay fVH (oConst (.int 1) (oZretH))
set_option maxRecDepth 20000 in
theorem sBX4_readSizes_110 : Snd XX4_readSizes fZH 110 (BX4_readSizes_110) (0) (0) := by
  unfold BX4_readSizes_110
  refine s_cal0 113 (run_V (X := XX4_readSizes) rfl clX3 yoX3_lay rfl tw_587 tw_588 tw_589 (by decide) dX4_readSizes_110) cmX3_lay (fun _ _ _ => rfl) rfl ?_
  refine s_iconst 114 1 (by decide) dX4_readSizes_113 rfl ?_
  exact s_zretH rfl dX4_readSizes_114
def BX4_readSizes_91 : KT (Bool × HP) :=
  oCal 4 (some 4) EX4_takeNamed fZH (oIfne (oAld 1 (oIld 2 (oIld 3 (oIld 4 (oIld 5 (oAld 0 (oGet 4 3 (oPick [] (BX4_readSizes_110))))))))) (oConst (.int 0) (oZretH)))
set_option maxRecDepth 20000 in
theorem sBX4_readSizes_91 : Snd XX4_readSizes fZH 91 (BX4_readSizes_91) (0) (0) := by
  unfold BX4_readSizes_91
  refine s_cal0 94 (run_V (X := XX4_readSizes) rfl clX4 yoX4_takeNamed rfl tw_555 tw_557 tw_p7 (by decide) dX4_readSizes_91) cmX4_takeNamed (fun _ _ _ => rfl) rfl ?_
  refine s_ifne 99 97 dX4_readSizes_94 (by decide) rfl ?_ ?_
  · refine s_Aldn 1 rfl 100 dX4_readSizes_99 rfl ?_
    refine s_Ildn 2 rfl 101 dX4_readSizes_100 rfl ?_
    refine s_Ildn 3 rfl 102 dX4_readSizes_101 rfl ?_
    refine s_Ild 4 104 dX4_readSizes_102 rfl ?_
    refine s_Ild 5 106 dX4_readSizes_104 rfl ?_
    refine s_Aldn 0 rfl 107 dX4_readSizes_106 rfl ?_
    refine s_get 4 3 110 clX4 (by decide) tw_84 dX4_readSizes_107 rfl ?_
    exact s_pick (sBX4_readSizes_110)
  · refine s_iconst 98 0 (by decide) dX4_readSizes_97 rfl ?_
    exact s_zretH rfl dX4_readSizes_98
def BX4_readSizes_72 : KT (Bool × HP) :=
  oCal 4 (some 4) EX4_takeNamed fZH (oIfne (oAld 0 (oGet 4 3 (oIst 5 (oAld 0 (oConst (.ref 2005) (oConst (.int 1) (oConst (.int 4) (oPick [0, 1, 2, 3, 4, 5] (BX4_readSizes_91))))))))) (oConst (.int 0) (oZretH)))
set_option maxRecDepth 20000 in
theorem sBX4_readSizes_72 : Snd XX4_readSizes fZH 72 (BX4_readSizes_72) (0) (0) := by
  unfold BX4_readSizes_72
  refine s_cal0 75 (run_V (X := XX4_readSizes) rfl clX4 yoX4_takeNamed rfl tw_555 tw_557 tw_p7 (by decide) dX4_readSizes_72) cmX4_takeNamed (fun _ _ _ => rfl) rfl ?_
  refine s_ifne 80 78 dX4_readSizes_75 (by decide) rfl ?_ ?_
  · refine s_Aldn 0 rfl 81 dX4_readSizes_80 rfl ?_
    refine s_get 4 3 84 clX4 (by decide) tw_84 dX4_readSizes_81 rfl ?_
    refine s_Ist 5 86 (by decide) dX4_readSizes_84 rfl ?_
    refine s_Aldn 0 rfl 87 dX4_readSizes_86 rfl ?_
    refine s_ldcS 89 5 2005 rfl sr_MownMaze_Reader_115 dX4_readSizes_87 rfl ?_
    refine s_iconst 90 1 (by decide) dX4_readSizes_89 rfl ?_
    refine s_iconst 91 4 (by decide) dX4_readSizes_90 rfl ?_
    exact s_pick (sBX4_readSizes_91)
  · refine s_iconst 79 0 (by decide) dX4_readSizes_78 rfl ?_
    exact s_zretH rfl dX4_readSizes_79
def BX4_readSizes_52 : KT (Bool × HP) :=
  oCal 4 (some 4) EX4_takeNamed fZH (oIfne (oAld 0 (oGet 4 3 (oIst 4 (oAld 0 (oConst (.ref 2004) (oConst (.int 0) (oConst (.int 99) (oPick [0, 1, 2, 3, 4] (BX4_readSizes_72))))))))) (oConst (.int 0) (oZretH)))
set_option maxRecDepth 20000 in
theorem sBX4_readSizes_52 : Snd XX4_readSizes fZH 52 (BX4_readSizes_52) (0) (0) := by
  unfold BX4_readSizes_52
  refine s_cal0 55 (run_V (X := XX4_readSizes) rfl clX4 yoX4_takeNamed rfl tw_555 tw_557 tw_p7 (by decide) dX4_readSizes_52) cmX4_takeNamed (fun _ _ _ => rfl) rfl ?_
  refine s_ifne 60 58 dX4_readSizes_55 (by decide) rfl ?_ ?_
  · refine s_Aldn 0 rfl 61 dX4_readSizes_60 rfl ?_
    refine s_get 4 3 64 clX4 (by decide) tw_84 dX4_readSizes_61 rfl ?_
    refine s_Ist 4 66 (by decide) dX4_readSizes_64 rfl ?_
    refine s_Aldn 0 rfl 67 dX4_readSizes_66 rfl ?_
    refine s_ldcS 69 4 2004 rfl sr_MownMaze_Reader_113 dX4_readSizes_67 rfl ?_
    refine s_iconst 70 0 (by decide) dX4_readSizes_69 rfl ?_
    refine s_bipush 72 99 (by decide) dX4_readSizes_70 rfl ?_
    exact s_pick (sBX4_readSizes_72)
  · refine s_iconst 59 0 (by decide) dX4_readSizes_58 rfl ?_
    exact s_zretH rfl dX4_readSizes_59
def BX4_readSizes_32 : KT (Bool × HP) :=
  oCal 4 (some 4) EX4_takeNamed fZH (oIfne (oAld 0 (oGet 4 3 (oIst 3 (oAld 0 (oConst (.ref 2003) (oConst (.int 1) (oConst (.int 200) (oPick [0, 1, 2, 3] (BX4_readSizes_52))))))))) (oConst (.int 0) (oZretH)))
set_option maxRecDepth 20000 in
theorem sBX4_readSizes_32 : Snd XX4_readSizes fZH 32 (BX4_readSizes_32) (0) (0) := by
  unfold BX4_readSizes_32
  refine s_cal0 35 (run_V (X := XX4_readSizes) rfl clX4 yoX4_takeNamed rfl tw_555 tw_557 tw_p7 (by decide) dX4_readSizes_32) cmX4_takeNamed (fun _ _ _ => rfl) rfl ?_
  refine s_ifne 40 38 dX4_readSizes_35 (by decide) rfl ?_ ?_
  · refine s_Aldn 0 rfl 41 dX4_readSizes_40 rfl ?_
    refine s_get 4 3 44 clX4 (by decide) tw_84 dX4_readSizes_41 rfl ?_
    refine s_Istn 3 rfl 45 (by decide) dX4_readSizes_44 rfl ?_
    refine s_Aldn 0 rfl 46 dX4_readSizes_45 rfl ?_
    refine s_ldcS 48 3 2003 rfl sr_MownMaze_Reader_111 dX4_readSizes_46 rfl ?_
    refine s_iconst 49 1 (by decide) dX4_readSizes_48 rfl ?_
    refine s_sipush 52 200 (by decide) dX4_readSizes_49 rfl ?_
    exact s_pick (sBX4_readSizes_52)
  · refine s_iconst 39 0 (by decide) dX4_readSizes_38 rfl ?_
    exact s_zretH rfl dX4_readSizes_39
def BX4_readSizes_13 : KT (Bool × HP) :=
  oCal 4 (some 4) EX4_takeNamed fZH (oIfne (oAld 0 (oGet 4 3 (oIst 2 (oAld 0 (oConst (.ref 2002) (oConst (.int 2) (oConst (.int 6) (oPick [0, 1, 2] (BX4_readSizes_32))))))))) (oConst (.int 0) (oZretH)))
set_option maxRecDepth 20000 in
theorem sBX4_readSizes_13 : Snd XX4_readSizes fZH 13 (BX4_readSizes_13) (0) (0) := by
  unfold BX4_readSizes_13
  refine s_cal0 16 (run_V (X := XX4_readSizes) rfl clX4 yoX4_takeNamed rfl tw_555 tw_557 tw_p7 (by decide) dX4_readSizes_13) cmX4_takeNamed (fun _ _ _ => rfl) rfl ?_
  refine s_ifne 21 19 dX4_readSizes_16 (by decide) rfl ?_ ?_
  · refine s_Aldn 0 rfl 22 dX4_readSizes_21 rfl ?_
    refine s_get 4 3 25 clX4 (by decide) tw_84 dX4_readSizes_22 rfl ?_
    refine s_Istn 2 rfl 26 (by decide) dX4_readSizes_25 rfl ?_
    refine s_Aldn 0 rfl 27 dX4_readSizes_26 rfl ?_
    refine s_ldcS 29 2 2002 rfl sr_MownMaze_Reader_109 dX4_readSizes_27 rfl ?_
    refine s_iconst 30 2 (by decide) dX4_readSizes_29 rfl ?_
    refine s_bipush 32 6 (by decide) dX4_readSizes_30 rfl ?_
    exact s_pick (sBX4_readSizes_32)
  · refine s_iconst 20 0 (by decide) dX4_readSizes_19 rfl ?_
    exact s_zretH rfl dX4_readSizes_20
def BX4_readSizes_4 : KT (Bool × HP) :=
  oCal 1 (some 7) EX7_goOn fVH (oAld 0 (oConst (.ref 2001) (oConst (.int 2) (oConst (.int 8) (oPick [0, 1] (BX4_readSizes_13))))))
set_option maxRecDepth 20000 in
theorem sBX4_readSizes_4 : Snd XX4_readSizes fZH 4 (BX4_readSizes_4) (0) (0) := by
  unfold BX4_readSizes_4
  refine s_cal0 7 (run_V (X := XX4_readSizes) rfl clX7 yoX7_goOn rfl tw_553 tw_455 tw_456 (by decide) dX4_readSizes_4) cmX7_goOn (fun _ _ _ => rfl) rfl ?_
  refine s_Aldn 0 rfl 8 dX4_readSizes_7 rfl ?_
  refine s_ldcS 10 1 2001 rfl sr_MownMaze_Reader_100 dX4_readSizes_8 rfl ?_
  refine s_iconst 11 2 (by decide) dX4_readSizes_10 rfl ?_
  refine s_bipush 13 8 (by decide) dX4_readSizes_11 rfl ?_
  exact s_pick (sBX4_readSizes_13)
def BX4_readSizes_0 : KT (Bool × HP) :=
  oAld 0 (oGet 4 0 (oPick [0, 1] (BX4_readSizes_4)))
set_option maxRecDepth 20000 in
theorem sBX4_readSizes_0 : Snd XX4_readSizes fZH 0 (BX4_readSizes_0) (0) (0) := by
  unfold BX4_readSizes_0
  refine s_Aldn 0 rfl 1 dX4_readSizes_0 rfl ?_
  refine s_get 4 0 4 clX4 (by decide) tw_81 dX4_readSizes_1 rfl ?_
  exact s_pick (sBX4_readSizes_4)
def EX4_readSizes : List Value → HP → Option (Bool × HP) := en 6 BX4_readSizes_0
theorem cmX4_readSizes : CM XX4_readSizes EX4_readSizes fZH 0 0 := CM.of rfl (by decide) rfl rfl sBX4_readSizes_0
theorem yoX4_readSizes : YO XX4_readSizes 1 0 0 := ⟨tw_552, rfl, tw_3, (by decide +kernel), rfl, rfl⟩
abbrev XX4_readRow : MX := (yX4_readRow, cX4_readRow, 7, (Option.some .boolean), Cond.code yX4_readRow cX4_readRow 7 (Option.some .boolean) :: WS, { frames := 2, cells := 0, slots := 0, locals := 43 })
def BX4_readRow_137 : KT (Bool × HP) :=
  oCal 1 (some 7) EX7_goOn fVH (oConst (.int 1) (oZretH))
set_option maxRecDepth 20000 in
theorem sBX4_readRow_137 : Snd XX4_readRow fZH 137 (BX4_readRow_137) (0) (0) := by
  unfold BX4_readRow_137
  refine s_cal0 140 (run_V (X := XX4_readRow) rfl clX7 yoX7_goOn rfl tw_553 tw_455 tw_456 (by decide) dX4_readRow_137) cmX7_goOn (fun _ _ _ => rfl) rfl ?_
  refine s_iconst 141 1 (by decide) dX4_readRow_140 rfl ?_
  exact s_zretH rfl dX4_readRow_141
def BX4_readRow_114 (k48 : KT (Bool × HP)) : KT (Bool × HP) :=
  oCal 3 (some 2) EX2_tell fVH (oInc 5 1 (oPick [0, 1, 2, 3, 4, 5] k48))
set_option maxRecDepth 20000 in
theorem sBX4_readRow_114 {k48 : KT (Bool × HP)} (hk48 : Snd XX4_readRow fZH 48 k48 0 0) : Snd XX4_readRow fZH 114 (BX4_readRow_114 k48) (0) (0) := by
  unfold BX4_readRow_114
  refine s_cal0 117 (run_V (X := XX4_readRow) rfl clX2 yoX2_tell rfl tw_609 tw_610 tw_611 (by decide) dX4_readRow_114) cmX2_tell (fun _ _ _ => rfl) rfl ?_
  refine s_inc 5 1 120 (by decide) (by decide) dX4_readRow_117 rfl ?_
  refine s_goto 48 dX4_readRow_120 (by decide) ?_
  exact s_pick hk48
def BX4_readRow_61 (k48 : KT (Bool × HP)) : KT (Bool × HP) :=
  oCal 2 (some 7) EX7_letter fI (oIst 6 (oIld 6 (oConst (.int 109) (oCmpeq (oAld 2 (oAld 1 (oGet 3 0 (oIld 5 (oAld 2 (oGet 2 2 (oCal 3 (some 0) EX0_number fI (oIld 6 (oPick [0, 1, 2, 3, 4, 5] (BX4_readRow_114 k48)))))))))) (oIld 6 (oConst (.int 115) (oCmpeq (oAld 2 (oAld 1 (oGet 3 0 (oIld 5 (oAld 2 (oGet 2 2 (oCal 3 (some 0) EX0_number fI (oIld 6 (oPick [0, 1, 2, 3, 4, 5] (BX4_readRow_114 k48)))))))))) (oIld 3 (oIfeq (oAld 0 (oConst (.int 7) (oCal 2 (some 4) EX4_fail fZH (oZretH)))) (oIld 6 (oConst (.int 97) (oCmpeq (oAld 2 (oAld 1 (oGet 3 0 (oIld 5 (oAld 2 (oGet 2 2 (oCal 3 (some 0) EX0_number fI (oIld 6 (oPick [0, 1, 2, 3, 4, 5] (BX4_readRow_114 k48)))))))))) (oAld 0 (oConst (.int 7) (oCal 2 (some 4) EX4_fail fZH (oZretH))))))))))))))))
set_option maxRecDepth 20000 in
theorem sBX4_readRow_61 {k48 : KT (Bool × HP)} (hk48 : Snd XX4_readRow fZH 48 k48 0 0) : Snd XX4_readRow fZH 61 (BX4_readRow_61 k48) (0) (0) := by
  unfold BX4_readRow_61
  refine s_cal0 64 (run_V (X := XX4_readRow) rfl clX7 yoX7_letter rfl tw_604 tw_605 tw_606 (by decide) dX4_readRow_61) cmX7_letter (fun _ _ _ => rfl) rfl ?_
  refine s_Ist 6 66 (by decide) dX4_readRow_64 rfl ?_
  refine s_Ild 6 68 dX4_readRow_66 rfl ?_
  refine s_bipush 70 109 (by decide) dX4_readRow_68 rfl ?_
  refine s_cmpeq 98 73 dX4_readRow_70 (by decide) rfl ?_ ?_
  · refine s_Aldn 2 rfl 99 dX4_readRow_98 rfl ?_
    refine s_Aldn 1 rfl 100 dX4_readRow_99 rfl ?_
    refine s_getN 3 0 103 clX3 (by decide) nw_22 dX4_readRow_100 rfl ?_
    refine s_Ild 5 105 dX4_readRow_103 rfl ?_
    refine s_Aldn 2 rfl 106 dX4_readRow_105 rfl ?_
    refine s_getN 2 2 109 clX2 (by decide) nw_10 dX4_readRow_106 rfl ?_
    refine s_cal0 112 (run_V (X := XX4_readRow) rfl clX0 yoX0_number rfl tw_608 tw_435 tw_436 (by decide) dX4_readRow_109) cmX0_number (fun _ _ _ => rfl) rfl ?_
    refine s_Ild 6 114 dX4_readRow_112 rfl ?_
    exact s_pick (sBX4_readRow_114 hk48)
  · refine s_Ild 6 75 dX4_readRow_73 rfl ?_
    refine s_bipush 77 115 (by decide) dX4_readRow_75 rfl ?_
    refine s_cmpeq 98 80 dX4_readRow_77 (by decide) rfl ?_ ?_
    · refine s_Aldn 2 rfl 99 dX4_readRow_98 rfl ?_
      refine s_Aldn 1 rfl 100 dX4_readRow_99 rfl ?_
      refine s_getN 3 0 103 clX3 (by decide) nw_22 dX4_readRow_100 rfl ?_
      refine s_Ild 5 105 dX4_readRow_103 rfl ?_
      refine s_Aldn 2 rfl 106 dX4_readRow_105 rfl ?_
      refine s_getN 2 2 109 clX2 (by decide) nw_10 dX4_readRow_106 rfl ?_
      refine s_cal0 112 (run_V (X := XX4_readRow) rfl clX0 yoX0_number rfl tw_608 tw_435 tw_436 (by decide) dX4_readRow_109) cmX0_number (fun _ _ _ => rfl) rfl ?_
      refine s_Ild 6 114 dX4_readRow_112 rfl ?_
      exact s_pick (sBX4_readRow_114 hk48)
    · refine s_Ildn 3 rfl 81 dX4_readRow_80 rfl ?_
      refine s_ifeq 91 84 dX4_readRow_81 (by decide) rfl ?_ ?_
      · refine s_Aldn 0 rfl 92 dX4_readRow_91 rfl ?_
        refine s_bipush 94 7 (by decide) dX4_readRow_92 rfl ?_
        refine s_cal0 97 (run_V (X := XX4_readRow) rfl clX4 yoX4_fail rfl tw_533 tw_535 tw_p4 (by decide) dX4_readRow_94) cmX4_fail (fun _ _ _ => rfl) rfl ?_
        exact s_zretH rfl dX4_readRow_97
      · refine s_Ild 6 86 dX4_readRow_84 rfl ?_
        refine s_bipush 88 97 (by decide) dX4_readRow_86 rfl ?_
        refine s_cmpeq 98 91 dX4_readRow_88 (by decide) rfl ?_ ?_
        · refine s_Aldn 2 rfl 99 dX4_readRow_98 rfl ?_
          refine s_Aldn 1 rfl 100 dX4_readRow_99 rfl ?_
          refine s_getN 3 0 103 clX3 (by decide) nw_22 dX4_readRow_100 rfl ?_
          refine s_Ild 5 105 dX4_readRow_103 rfl ?_
          refine s_Aldn 2 rfl 106 dX4_readRow_105 rfl ?_
          refine s_getN 2 2 109 clX2 (by decide) nw_10 dX4_readRow_106 rfl ?_
          refine s_cal0 112 (run_V (X := XX4_readRow) rfl clX0 yoX0_number rfl tw_608 tw_435 tw_436 (by decide) dX4_readRow_109) cmX0_number (fun _ _ _ => rfl) rfl ?_
          refine s_Ild 6 114 dX4_readRow_112 rfl ?_
          exact s_pick (sBX4_readRow_114 hk48)
        · refine s_Aldn 0 rfl 92 dX4_readRow_91 rfl ?_
          refine s_bipush 94 7 (by decide) dX4_readRow_92 rfl ?_
          refine s_cal0 97 (run_V (X := XX4_readRow) rfl clX4 yoX4_fail rfl tw_533 tw_535 tw_p4 (by decide) dX4_readRow_94) cmX4_fail (fun _ _ _ => rfl) rfl ?_
          exact s_zretH rfl dX4_readRow_97
def BX4_readRow_48 (k48 : KT (Bool × HP)) : KT (Bool × HP) :=
  oIld 5 (oIld 4 (oCmpge (oAld 2 (odup (oGet 2 2 (oConst (.int 1) (oiadd (oPut 2 2 .int (oAld 0 (oGet 4 0 (oPick [] (BX4_readRow_137)))))))))) (oAld 0 (oGet 4 0 (oIld 5 (oPick [0, 1, 2, 3, 4, 5] (BX4_readRow_61 k48)))))))
set_option maxRecDepth 20000 in
theorem sBX4_readRow_48 {k48 : KT (Bool × HP)} (hk48 : Snd XX4_readRow fZH 48 k48 0 0) : Snd XX4_readRow fZH 48 (BX4_readRow_48 k48) (0) (0) := by
  unfold BX4_readRow_48
  refine s_Ild 5 50 dX4_readRow_48 rfl ?_
  refine s_Ild 4 52 dX4_readRow_50 rfl ?_
  refine s_cmpge 123 55 dX4_readRow_52 (by decide) rfl ?_ ?_
  · refine s_Aldn 2 rfl 124 dX4_readRow_123 rfl ?_
    refine s_dup 125 dX4_readRow_124 rfl ?_
    refine s_getN 2 2 128 clX2 (by decide) nw_10 dX4_readRow_125 rfl ?_
    refine s_iconst 129 1 (by decide) dX4_readRow_128 rfl ?_
    refine s_iadd 130 dX4_readRow_129 rfl ?_
    refine s_putN 2 2 133 clX2 (by decide) rfl rfl pZH nw_10 dX4_readRow_130 rfl ?_
    refine s_Aldn 0 rfl 134 dX4_readRow_133 rfl ?_
    refine s_get 4 0 137 clX4 (by decide) tw_81 dX4_readRow_134 rfl ?_
    exact s_pick (sBX4_readRow_137)
  · refine s_Aldn 0 rfl 56 dX4_readRow_55 rfl ?_
    refine s_get 4 0 59 clX4 (by decide) tw_81 dX4_readRow_56 rfl ?_
    refine s_Ild 5 61 dX4_readRow_59 rfl ?_
    exact s_pick (sBX4_readRow_61 hk48)
def BX4_readRow_0 : KT (Bool × HP) :=
  oAld 0 (oGet 4 0 (oCal 1 (some 7) EX7_kind fI (oConst (.int 1) (oCmpeq (oAld 1 (oGet 3 0 (oGet 0 1 (oIst 4 (oAld 0 (oGet 4 0 (oCal 1 (some 7) EX7_letterCount fI (oIld 4 (oCmpeq (oConst (.int 0) (oIst 5 (oPick [0, 1, 2, 3, 4, 5] (lp (BX4_readRow_48) FU)))) (oAld 0 (oConst (.int 7) (oCal 2 (some 4) EX4_fail fZH (oZretH))))))))))))) (oAld 0 (oConst (.int 1) (oCal 2 (some 4) EX4_fail fZH (oZretH))))))))
set_option maxRecDepth 20000 in
theorem sBX4_readRow_0 : Snd XX4_readRow fZH 0 (BX4_readRow_0) (0) (0) := by
  unfold BX4_readRow_0
  refine s_Aldn 0 rfl 1 dX4_readRow_0 rfl ?_
  refine s_get 4 0 4 clX4 (by decide) tw_81 dX4_readRow_1 rfl ?_
  refine s_cal0 7 (run_V (X := XX4_readRow) rfl clX7 yoX7_kind rfl tw_575 tw_576 tw_577 (by decide) dX4_readRow_4) cmX7_kind (fun _ _ _ => rfl) rfl ?_
  refine s_iconst 8 1 (by decide) dX4_readRow_7 rfl ?_
  refine s_cmpeq 17 11 dX4_readRow_8 (by decide) rfl ?_ ?_
  · refine s_Aldn 1 rfl 18 dX4_readRow_17 rfl ?_
    refine s_getN 3 0 21 clX3 (by decide) nw_22 dX4_readRow_18 rfl ?_
    refine s_getN 0 1 24 clX0 (by decide) nw_0 dX4_readRow_21 rfl ?_
    refine s_Ist 4 26 (by decide) dX4_readRow_24 rfl ?_
    refine s_Aldn 0 rfl 27 dX4_readRow_26 rfl ?_
    refine s_get 4 0 30 clX4 (by decide) tw_81 dX4_readRow_27 rfl ?_
    refine s_cal0 33 (run_V (X := XX4_readRow) rfl clX7 yoX7_letterCount rfl tw_603 tw_568 tw_569 (by decide) dX4_readRow_30) cmX7_letterCount (fun _ _ _ => rfl) rfl ?_
    refine s_Ild 4 35 dX4_readRow_33 rfl ?_
    refine s_cmpeq 45 38 dX4_readRow_35 (by decide) rfl ?_ ?_
    · refine s_iconst 46 0 (by decide) dX4_readRow_45 rfl ?_
      refine s_Ist 5 48 (by decide) dX4_readRow_46 rfl ?_
      exact s_pick (s_lp (fun k hk => sBX4_readRow_48  hk) FU)
    · refine s_Aldn 0 rfl 39 dX4_readRow_38 rfl ?_
      refine s_bipush 41 7 (by decide) dX4_readRow_39 rfl ?_
      refine s_cal0 44 (run_V (X := XX4_readRow) rfl clX4 yoX4_fail rfl tw_533 tw_535 tw_p4 (by decide) dX4_readRow_41) cmX4_fail (fun _ _ _ => rfl) rfl ?_
      exact s_zretH rfl dX4_readRow_44
  · refine s_Aldn 0 rfl 12 dX4_readRow_11 rfl ?_
    refine s_iconst 13 1 (by decide) dX4_readRow_12 rfl ?_
    refine s_cal0 16 (run_V (X := XX4_readRow) rfl clX4 yoX4_fail rfl tw_533 tw_535 tw_p4 (by decide) dX4_readRow_13) cmX4_fail (fun _ _ _ => rfl) rfl ?_
    exact s_zretH rfl dX4_readRow_16
def EX4_readRow : List Value → HP → Option (Bool × HP) := en 7 BX4_readRow_0
theorem cmX4_readRow : CM XX4_readRow EX4_readRow fZH 0 0 := CM.of rfl (by decide) rfl rfl sBX4_readRow_0
theorem yoX4_readRow : YO XX4_readRow 3 0 0 := ⟨tw_602, rfl, tw_3, (by decide +kernel), rfl, rfl⟩
abbrev XX4_takeSign : MX := (yX4_takeSign, cX4_takeSign, 2, (Option.some .boolean), Cond.code yX4_takeSign cX4_takeSign 2 (Option.some .boolean) :: WS, { frames := 2, cells := 0, slots := 0, locals := 43 })
def BX4_takeSign_21 : KT (Bool × HP) :=
  oCal 1 (some 7) EX7_goOn fVH (oConst (.int 1) (oZretH))
set_option maxRecDepth 20000 in
theorem sBX4_takeSign_21 : Snd XX4_takeSign fZH 21 (BX4_takeSign_21) (0) (0) := by
  unfold BX4_takeSign_21
  refine s_cal0 24 (run_V (X := XX4_takeSign) rfl clX7 yoX7_goOn rfl tw_553 tw_455 tw_456 (by decide) dX4_takeSign_21) cmX7_goOn (fun _ _ _ => rfl) rfl ?_
  refine s_iconst 25 1 (by decide) dX4_takeSign_24 rfl ?_
  exact s_zretH rfl dX4_takeSign_25
def BX4_takeSign_5 : KT (Bool × HP) :=
  oCal 2 (some 7) EX7_isSign fZ (oIfne (oAld 0 (oGet 4 0 (oPick [] (BX4_takeSign_21)))) (oAld 0 (oConst (.int 1) (oCal 2 (some 4) EX4_fail fZH (oZretH)))))
set_option maxRecDepth 20000 in
theorem sBX4_takeSign_5 : Snd XX4_takeSign fZH 5 (BX4_takeSign_5) (0) (0) := by
  unfold BX4_takeSign_5
  refine s_cal0 8 (run_V (X := XX4_takeSign) rfl clX7 yoX7_isSign rfl tw_626 tw_627 tw_628 (by decide) dX4_takeSign_5) cmX7_isSign (fun _ _ _ => rfl) rfl ?_
  refine s_ifne 17 11 dX4_takeSign_8 (by decide) rfl ?_ ?_
  · refine s_Aldn 0 rfl 18 dX4_takeSign_17 rfl ?_
    refine s_get 4 0 21 clX4 (by decide) tw_81 dX4_takeSign_18 rfl ?_
    exact s_pick (sBX4_takeSign_21)
  · refine s_Aldn 0 rfl 12 dX4_takeSign_11 rfl ?_
    refine s_iconst 13 1 (by decide) dX4_takeSign_12 rfl ?_
    refine s_cal0 16 (run_V (X := XX4_takeSign) rfl clX4 yoX4_fail rfl tw_533 tw_535 tw_p4 (by decide) dX4_takeSign_13) cmX4_fail (fun _ _ _ => rfl) rfl ?_
    exact s_zretH rfl dX4_takeSign_16
def BX4_takeSign_0 : KT (Bool × HP) :=
  oAld 0 (oGet 4 0 (oIld 1 (oPick [0] (BX4_takeSign_5))))
set_option maxRecDepth 20000 in
theorem sBX4_takeSign_0 : Snd XX4_takeSign fZH 0 (BX4_takeSign_0) (0) (0) := by
  unfold BX4_takeSign_0
  refine s_Aldn 0 rfl 1 dX4_takeSign_0 rfl ?_
  refine s_get 4 0 4 clX4 (by decide) tw_81 dX4_takeSign_1 rfl ?_
  refine s_Ildn 1 rfl 5 dX4_takeSign_4 rfl ?_
  exact s_pick (sBX4_takeSign_5)
def EX4_takeSign : List Value → HP → Option (Bool × HP) := en 2 BX4_takeSign_0
theorem cmX4_takeSign : CM XX4_takeSign EX4_takeSign fZH 0 0 := CM.of rfl (by decide) rfl rfl sBX4_takeSign_0
theorem yoX4_takeSign : YO XX4_takeSign 1 0 0 := ⟨tw_625, rfl, tw_3, (by decide +kernel), rfl, rfl⟩
abbrev XX4_takeCell : MX := (yX4_takeCell, cX4_takeCell, 3, (Option.some .boolean), Cond.code yX4_takeCell cX4_takeCell 3 (Option.some .boolean) :: WS, { frames := 3, cells := 0, slots := 0, locals := 65 })
def BX4_takeCell_51 : KT (Bool × HP) :=
  oCal 3 (some 4) EX4_takeWhole fZH (oIfne (oAld 0 (oAld 1 (oIld 2 (oAld 0 (oGet 4 3 (oCal 3 (some 0) EX0_number fI (oPut 4 4 .int (oConst (.int 1) (oZretH))))))))) (oConst (.int 0) (oZretH)))
set_option maxRecDepth 20000 in
theorem sBX4_takeCell_51 : Snd XX4_takeCell fZH 51 (BX4_takeCell_51) (0) (0) := by
  unfold BX4_takeCell_51
  refine s_cal0 54 (run_V (X := XX4_takeCell) rfl clX4 yoX4_takeWhole rfl tw_571 tw_573 tw_p9 (by decide) dX4_takeCell_51) cmX4_takeWhole (fun _ _ _ => rfl) rfl ?_
  refine s_ifne 59 57 dX4_takeCell_54 (by decide) rfl ?_ ?_
  · refine s_Aldn 0 rfl 60 dX4_takeCell_59 rfl ?_
    refine s_Aldn 1 rfl 61 dX4_takeCell_60 rfl ?_
    refine s_Ildn 2 rfl 62 dX4_takeCell_61 rfl ?_
    refine s_Aldn 0 rfl 63 dX4_takeCell_62 rfl ?_
    refine s_get 4 3 66 clX4 (by decide) tw_84 dX4_takeCell_63 rfl ?_
    refine s_cal0 69 (run_V (X := XX4_takeCell) rfl clX0 yoX0_number rfl tw_608 tw_435 tw_436 (by decide) dX4_takeCell_66) cmX0_number (fun _ _ _ => rfl) rfl ?_
    refine s_put 4 4 72 clX4 (by decide) rfl rfl pZH tw_85 dX4_takeCell_69 rfl ?_
    refine s_iconst 73 1 (by decide) dX4_takeCell_72 rfl ?_
    exact s_zretH rfl dX4_takeCell_73
  · refine s_iconst 58 0 (by decide) dX4_takeCell_57 rfl ?_
    exact s_zretH rfl dX4_takeCell_58
def BX4_takeCell_24 : KT (Bool × HP) :=
  oCal 2 (some 4) EX4_takeSign fZH (oIfne (oAld 0 (oAld 0 (oGet 4 0 (oCal 1 (some 7) EX7_start fI (oPut 4 5 .int (oAld 0 (oConst (.int 0) (oAld 1 (oGet 0 2 (oConst (.int 1) (oisub (oPick [0, 1, 2] (BX4_takeCell_51))))))))))))) (oConst (.int 0) (oZretH)))
set_option maxRecDepth 20000 in
theorem sBX4_takeCell_24 : Snd XX4_takeCell fZH 24 (BX4_takeCell_24) (0) (0) := by
  unfold BX4_takeCell_24
  refine s_cal0 27 (run_V (X := XX4_takeCell) rfl clX4 yoX4_takeSign rfl tw_622 tw_624 tw_p13 (by decide) dX4_takeCell_24) cmX4_takeSign (fun _ _ _ => rfl) rfl ?_
  refine s_ifne 32 30 dX4_takeCell_27 (by decide) rfl ?_ ?_
  · refine s_Aldn 0 rfl 33 dX4_takeCell_32 rfl ?_
    refine s_Aldn 0 rfl 34 dX4_takeCell_33 rfl ?_
    refine s_get 4 0 37 clX4 (by decide) tw_81 dX4_takeCell_34 rfl ?_
    refine s_cal0 40 (run_V (X := XX4_takeCell) rfl clX7 yoX7_start rfl tw_537 tw_538 tw_539 (by decide) dX4_takeCell_37) cmX7_start (fun _ _ _ => rfl) rfl ?_
    refine s_put 4 5 43 clX4 (by decide) rfl rfl pZH tw_86 dX4_takeCell_40 rfl ?_
    refine s_Aldn 0 rfl 44 dX4_takeCell_43 rfl ?_
    refine s_iconst 45 0 (by decide) dX4_takeCell_44 rfl ?_
    refine s_Aldn 1 rfl 46 dX4_takeCell_45 rfl ?_
    refine s_getN 0 2 49 clX0 (by decide) nw_3 dX4_takeCell_46 rfl ?_
    refine s_iconst 50 1 (by decide) dX4_takeCell_49 rfl ?_
    refine s_isub 51 dX4_takeCell_50 rfl ?_
    exact s_pick (sBX4_takeCell_51)
  · refine s_iconst 31 0 (by decide) dX4_takeCell_30 rfl ?_
    exact s_zretH rfl dX4_takeCell_31
def BX4_takeCell_8 : KT (Bool × HP) :=
  oCal 3 (some 4) EX4_takeWhole fZH (oIfne (oAld 0 (oGet 4 3 (oIst 2 (oAld 0 (oConst (.int 44) (oPick [0, 1, 2] (BX4_takeCell_24))))))) (oConst (.int 0) (oZretH)))
set_option maxRecDepth 20000 in
theorem sBX4_takeCell_8 : Snd XX4_takeCell fZH 8 (BX4_takeCell_8) (0) (0) := by
  unfold BX4_takeCell_8
  refine s_cal0 11 (run_V (X := XX4_takeCell) rfl clX4 yoX4_takeWhole rfl tw_571 tw_573 tw_p9 (by decide) dX4_takeCell_8) cmX4_takeWhole (fun _ _ _ => rfl) rfl ?_
  refine s_ifne 16 14 dX4_takeCell_11 (by decide) rfl ?_ ?_
  · refine s_Aldn 0 rfl 17 dX4_takeCell_16 rfl ?_
    refine s_get 4 3 20 clX4 (by decide) tw_84 dX4_takeCell_17 rfl ?_
    refine s_Istn 2 rfl 21 (by decide) dX4_takeCell_20 rfl ?_
    refine s_Aldn 0 rfl 22 dX4_takeCell_21 rfl ?_
    refine s_bipush 24 44 (by decide) dX4_takeCell_22 rfl ?_
    exact s_pick (sBX4_takeCell_24)
  · refine s_iconst 15 0 (by decide) dX4_takeCell_14 rfl ?_
    exact s_zretH rfl dX4_takeCell_15
def BX4_takeCell_0 : KT (Bool × HP) :=
  oAld 0 (oConst (.int 0) (oAld 1 (oGet 0 1 (oConst (.int 1) (oisub (oPick [0, 1] (BX4_takeCell_8)))))))
set_option maxRecDepth 20000 in
theorem sBX4_takeCell_0 : Snd XX4_takeCell fZH 0 (BX4_takeCell_0) (0) (0) := by
  unfold BX4_takeCell_0
  refine s_Aldn 0 rfl 1 dX4_takeCell_0 rfl ?_
  refine s_iconst 2 0 (by decide) dX4_takeCell_1 rfl ?_
  refine s_Aldn 1 rfl 3 dX4_takeCell_2 rfl ?_
  refine s_getN 0 1 6 clX0 (by decide) nw_0 dX4_takeCell_3 rfl ?_
  refine s_iconst 7 1 (by decide) dX4_takeCell_6 rfl ?_
  refine s_isub 8 dX4_takeCell_7 rfl ?_
  exact s_pick (sBX4_takeCell_8)
def EX4_takeCell : List Value → HP → Option (Bool × HP) := en 3 BX4_takeCell_0
theorem cmX4_takeCell : CM XX4_takeCell EX4_takeCell fZH 0 0 := CM.of rfl (by decide) rfl rfl sBX4_takeCell_0
theorem yoX4_takeCell : YO XX4_takeCell 1 0 0 := ⟨tw_621, rfl, tw_3, (by decide +kernel), rfl, rfl⟩
abbrev XX4_readGate : MX := (yX4_readGate, cX4_readGate, 2, (Option.some .boolean), Cond.code yX4_readGate cX4_readGate 2 (Option.some .boolean) :: WS, { frames := 4, cells := 0, slots := 0, locals := 87 })
def BX4_readGate_42 : KT (Bool × HP) :=
  oCal 2 (some 3) EX3_addGate fVH (oConst (.int 1) (oZretH))
set_option maxRecDepth 20000 in
theorem sBX4_readGate_42 : Snd XX4_readGate fZH 42 (BX4_readGate_42) (0) (0) := by
  unfold BX4_readGate_42
  refine s_cal0 45 (run_V (X := XX4_readGate) rfl clX3 yoX3_addGate rfl tw_633 tw_634 tw_635 (by decide) dX4_readGate_42) cmX3_addGate (fun _ _ _ => rfl) rfl ?_
  refine s_iconst 46 1 (by decide) dX4_readGate_45 rfl ?_
  exact s_zretH rfl dX4_readGate_46
def BX4_readGate_21 : KT (Bool × HP) :=
  oCal 2 none EX10_isIn fZ (oIfeq (oAld 1 (oAld 0 (oGet 4 4 (oPick [] (BX4_readGate_42))))) (oAld 0 (oConst (.int 3) (oAld 0 (oGet 4 5 (oCal 3 (some 4) EX4_failAt fZH (oZretH)))))))
set_option maxRecDepth 20000 in
theorem sBX4_readGate_21 : Snd XX4_readGate fZH 21 (BX4_readGate_21) (0) (0) := by
  unfold BX4_readGate_21
  refine s_cal0 24 (run_SN (X := XX4_readGate) yoX10_isIn nw_76 tw_631 (by decide) dX4_readGate_21) cmX10_isIn (fun _ _ _ => rfl) rfl ?_
  refine s_ifeq 37 27 dX4_readGate_24 (by decide) rfl ?_ ?_
  · refine s_Aldn 1 rfl 38 dX4_readGate_37 rfl ?_
    refine s_Aldn 0 rfl 39 dX4_readGate_38 rfl ?_
    refine s_get 4 4 42 clX4 (by decide) tw_85 dX4_readGate_39 rfl ?_
    exact s_pick (sBX4_readGate_42)
  · refine s_Aldn 0 rfl 28 dX4_readGate_27 rfl ?_
    refine s_iconst 29 3 (by decide) dX4_readGate_28 rfl ?_
    refine s_Aldn 0 rfl 30 dX4_readGate_29 rfl ?_
    refine s_get 4 5 33 clX4 (by decide) tw_86 dX4_readGate_30 rfl ?_
    refine s_cal0 36 (run_V (X := XX4_readGate) rfl clX4 yoX4_failAt rfl tw_541 tw_543 tw_p5 (by decide) dX4_readGate_33) cmX4_failAt (fun _ _ _ => rfl) rfl ?_
    exact s_zretH rfl dX4_readGate_36
def BX4_readGate_5 : KT (Bool × HP) :=
  oCal 2 (some 4) EX4_takeCell fZH (oIfne (oAld 1 (oGet 3 12 (oAld 0 (oGet 4 4 (oPick [0, 1] (BX4_readGate_21)))))) (oConst (.int 0) (oZretH)))
set_option maxRecDepth 20000 in
theorem sBX4_readGate_5 : Snd XX4_readGate fZH 5 (BX4_readGate_5) (0) (0) := by
  unfold BX4_readGate_5
  refine s_cal0 8 (run_V (X := XX4_readGate) rfl clX4 yoX4_takeCell rfl tw_618 tw_620 tw_p12 (by decide) dX4_readGate_5) cmX4_takeCell (fun _ _ _ => rfl) rfl ?_
  refine s_ifne 13 11 dX4_readGate_8 (by decide) rfl ?_ ?_
  · refine s_Aldn 1 rfl 14 dX4_readGate_13 rfl ?_
    refine s_getN 3 12 17 clX3 (by decide) nw_35 dX4_readGate_14 rfl ?_
    refine s_Aldn 0 rfl 18 dX4_readGate_17 rfl ?_
    refine s_get 4 4 21 clX4 (by decide) tw_85 dX4_readGate_18 rfl ?_
    exact s_pick (sBX4_readGate_21)
  · refine s_iconst 12 0 (by decide) dX4_readGate_11 rfl ?_
    exact s_zretH rfl dX4_readGate_12
def BX4_readGate_0 : KT (Bool × HP) :=
  oAld 0 (oAld 1 (oGet 3 0 (oPick [0, 1] (BX4_readGate_5))))
set_option maxRecDepth 20000 in
theorem sBX4_readGate_0 : Snd XX4_readGate fZH 0 (BX4_readGate_0) (0) (0) := by
  unfold BX4_readGate_0
  refine s_Aldn 0 rfl 1 dX4_readGate_0 rfl ?_
  refine s_Aldn 1 rfl 2 dX4_readGate_1 rfl ?_
  refine s_getN 3 0 5 clX3 (by decide) nw_22 dX4_readGate_2 rfl ?_
  exact s_pick (sBX4_readGate_5)
def EX4_readGate : List Value → HP → Option (Bool × HP) := en 2 BX4_readGate_0
theorem cmX4_readGate : CM XX4_readGate EX4_readGate fZH 0 0 := CM.of rfl (by decide) rfl rfl sBX4_readGate_0
theorem yoX4_readGate : YO XX4_readGate 1 0 0 := ⟨tw_617, rfl, tw_3, (by decide +kernel), rfl, rfl⟩
abbrev XX4_readNoise : MX := (yX4_readNoise, cX4_readNoise, 2, (Option.some .boolean), Cond.code yX4_readNoise cX4_readNoise 2 (Option.some .boolean) :: WS, { frames := 4, cells := 0, slots := 0, locals := 87 })
def BX4_readNoise_5 : KT (Bool × HP) :=
  oCal 2 (some 4) EX4_takeCell fZH (oIfne (oAld 1 (oAld 0 (oGet 4 4 (oPut 3 13 .int (oConst (.int 1) (oZretH)))))) (oConst (.int 0) (oZretH)))
set_option maxRecDepth 20000 in
theorem sBX4_readNoise_5 : Snd XX4_readNoise fZH 5 (BX4_readNoise_5) (0) (0) := by
  unfold BX4_readNoise_5
  refine s_cal0 8 (run_V (X := XX4_readNoise) rfl clX4 yoX4_takeCell rfl tw_618 tw_620 tw_p12 (by decide) dX4_readNoise_5) cmX4_takeCell (fun _ _ _ => rfl) rfl ?_
  refine s_ifne 13 11 dX4_readNoise_8 (by decide) rfl ?_ ?_
  · refine s_Aldn 1 rfl 14 dX4_readNoise_13 rfl ?_
    refine s_Aldn 0 rfl 15 dX4_readNoise_14 rfl ?_
    refine s_get 4 4 18 clX4 (by decide) tw_85 dX4_readNoise_15 rfl ?_
    refine s_putN 3 13 21 clX3 (by decide) rfl rfl pZH nw_39 dX4_readNoise_18 rfl ?_
    refine s_iconst 22 1 (by decide) dX4_readNoise_21 rfl ?_
    exact s_zretH rfl dX4_readNoise_22
  · refine s_iconst 12 0 (by decide) dX4_readNoise_11 rfl ?_
    exact s_zretH rfl dX4_readNoise_12
def BX4_readNoise_0 : KT (Bool × HP) :=
  oAld 0 (oAld 1 (oGet 3 0 (oPick [0, 1] (BX4_readNoise_5))))
set_option maxRecDepth 20000 in
theorem sBX4_readNoise_0 : Snd XX4_readNoise fZH 0 (BX4_readNoise_0) (0) (0) := by
  unfold BX4_readNoise_0
  refine s_Aldn 0 rfl 1 dX4_readNoise_0 rfl ?_
  refine s_Aldn 1 rfl 2 dX4_readNoise_1 rfl ?_
  refine s_getN 3 0 5 clX3 (by decide) nw_22 dX4_readNoise_2 rfl ?_
  exact s_pick (sBX4_readNoise_5)
def EX4_readNoise : List Value → HP → Option (Bool × HP) := en 2 BX4_readNoise_0
theorem cmX4_readNoise : CM XX4_readNoise EX4_readNoise fZH 0 0 := CM.of rfl (by decide) rfl rfl sBX4_readNoise_0
theorem yoX4_readNoise : YO XX4_readNoise 1 0 0 := ⟨tw_641, rfl, tw_3, (by decide +kernel), rfl, rfl⟩
abbrev XX4_readHeard : MX := (yX4_readHeard, cX4_readHeard, 3, (Option.some .boolean), Cond.code yX4_readHeard cX4_readHeard 3 (Option.some .boolean) :: WS, { frames := 6, cells := 0, slots := 0, locals := 129 })
def BX4_readHeard_45 : KT (Bool × HP) :=
  oCal 3 (some 3) EX3_addHeard fVH (oConst (.int 1) (oZretH))
set_option maxRecDepth 20000 in
theorem sBX4_readHeard_45 : Snd XX4_readHeard fZH 45 (BX4_readHeard_45) (0) (0) := by
  unfold BX4_readHeard_45
  refine s_cal0 48 (run_V (X := XX4_readHeard) rfl clX3 yoX3_addHeard rfl tw_647 tw_648 tw_649 (by decide) dX4_readHeard_45) cmX3_addHeard (fun _ _ _ => rfl) rfl ?_
  refine s_iconst 49 1 (by decide) dX4_readHeard_48 rfl ?_
  exact s_zretH rfl dX4_readHeard_49
def BX4_readHeard_31 : KT (Bool × HP) :=
  oCal 2 (some 4) EX4_takeCell fZH (oIfne (oAld 1 (oIld 2 (oAld 0 (oGet 4 4 (oPick [] (BX4_readHeard_45)))))) (oConst (.int 0) (oZretH)))
set_option maxRecDepth 20000 in
theorem sBX4_readHeard_31 : Snd XX4_readHeard fZH 31 (BX4_readHeard_31) (0) (0) := by
  unfold BX4_readHeard_31
  refine s_cal0 34 (run_V (X := XX4_readHeard) rfl clX4 yoX4_takeCell rfl tw_618 tw_620 tw_p12 (by decide) dX4_readHeard_31) cmX4_takeCell (fun _ _ _ => rfl) rfl ?_
  refine s_ifne 39 37 dX4_readHeard_34 (by decide) rfl ?_ ?_
  · refine s_Aldn 1 rfl 40 dX4_readHeard_39 rfl ?_
    refine s_Ildn 2 rfl 41 dX4_readHeard_40 rfl ?_
    refine s_Aldn 0 rfl 42 dX4_readHeard_41 rfl ?_
    refine s_get 4 4 45 clX4 (by decide) tw_85 dX4_readHeard_42 rfl ?_
    exact s_pick (sBX4_readHeard_45)
  · refine s_iconst 38 0 (by decide) dX4_readHeard_37 rfl ?_
    exact s_zretH rfl dX4_readHeard_38
def BX4_readHeard_20 : KT (Bool × HP) :=
  oCal 2 (some 4) EX4_takeWord fZH (oIfeq (oConst (.int 0) (oZretH)) (oAld 0 (oAld 1 (oGet 3 0 (oPick [0, 1, 2] (BX4_readHeard_31))))))
set_option maxRecDepth 20000 in
theorem sBX4_readHeard_20 : Snd XX4_readHeard fZH 20 (BX4_readHeard_20) (0) (0) := by
  unfold BX4_readHeard_20
  refine s_cal0 23 (run_V (X := XX4_readHeard) rfl clX4 yoX4_takeWord rfl tw_559 tw_561 tw_p8 (by decide) dX4_readHeard_20) cmX4_takeWord (fun _ _ _ => rfl) rfl ?_
  refine s_ifeq 37 26 dX4_readHeard_23 (by decide) rfl ?_ ?_
  · refine s_iconst 38 0 (by decide) dX4_readHeard_37 rfl ?_
    exact s_zretH rfl dX4_readHeard_38
  · refine s_Aldn 0 rfl 27 dX4_readHeard_26 rfl ?_
    refine s_Aldn 1 rfl 28 dX4_readHeard_27 rfl ?_
    refine s_getN 3 0 31 clX3 (by decide) nw_22 dX4_readHeard_28 rfl ?_
    exact s_pick (sBX4_readHeard_31)
def BX4_readHeard_4 : KT (Bool × HP) :=
  oCal 3 (some 4) EX4_takeWhole fZH (oIfne (oAld 0 (oGet 4 3 (oIst 2 (oAld 0 (oConst (.ref 2006) (oPick [0, 1, 2] (BX4_readHeard_20))))))) (oConst (.int 0) (oZretH)))
set_option maxRecDepth 20000 in
theorem sBX4_readHeard_4 : Snd XX4_readHeard fZH 4 (BX4_readHeard_4) (0) (0) := by
  unfold BX4_readHeard_4
  refine s_cal0 7 (run_V (X := XX4_readHeard) rfl clX4 yoX4_takeWhole rfl tw_571 tw_573 tw_p9 (by decide) dX4_readHeard_4) cmX4_takeWhole (fun _ _ _ => rfl) rfl ?_
  refine s_ifne 12 10 dX4_readHeard_7 (by decide) rfl ?_ ?_
  · refine s_Aldn 0 rfl 13 dX4_readHeard_12 rfl ?_
    refine s_get 4 3 16 clX4 (by decide) tw_84 dX4_readHeard_13 rfl ?_
    refine s_Istn 2 rfl 17 (by decide) dX4_readHeard_16 rfl ?_
    refine s_Aldn 0 rfl 18 dX4_readHeard_17 rfl ?_
    refine s_ldcS 20 6 2006 rfl sr_MownMaze_Reader_179 dX4_readHeard_18 rfl ?_
    exact s_pick (sBX4_readHeard_20)
  · refine s_iconst 11 0 (by decide) dX4_readHeard_10 rfl ?_
    exact s_zretH rfl dX4_readHeard_11
def BX4_readHeard_0 : KT (Bool × HP) :=
  oAld 0 (oConst (.int 0) (oConst (.int 60) (oPick [0, 1] (BX4_readHeard_4))))
set_option maxRecDepth 20000 in
theorem sBX4_readHeard_0 : Snd XX4_readHeard fZH 0 (BX4_readHeard_0) (0) (0) := by
  unfold BX4_readHeard_0
  refine s_Aldn 0 rfl 1 dX4_readHeard_0 rfl ?_
  refine s_iconst 2 0 (by decide) dX4_readHeard_1 rfl ?_
  refine s_bipush 4 60 (by decide) dX4_readHeard_2 rfl ?_
  exact s_pick (sBX4_readHeard_4)
def EX4_readHeard : List Value → HP → Option (Bool × HP) := en 3 BX4_readHeard_0
theorem cmX4_readHeard : CM XX4_readHeard EX4_readHeard fZH 0 0 := CM.of rfl (by decide) rfl rfl sBX4_readHeard_0
theorem yoX4_readHeard : YO XX4_readHeard 1 0 0 := ⟨tw_645, rfl, tw_3, (by decide +kernel), rfl, rfl⟩
abbrev XX4_takeOneOf : MX := (yX4_takeOneOf, cX4_takeOneOf, 2, (Option.some .boolean), Cond.code yX4_takeOneOf cX4_takeOneOf 2 (Option.some .boolean) :: WS, { frames := 6, cells := 0, slots := 0, locals := 134 })
def BX4_takeOneOf_30 : KT (Bool × HP) :=
  oCal 1 (some 7) EX7_goOn fVH (oConst (.int 1) (oZretH))
set_option maxRecDepth 20000 in
theorem sBX4_takeOneOf_30 : Snd XX4_takeOneOf fZH 30 (BX4_takeOneOf_30) (0) (0) := by
  unfold BX4_takeOneOf_30
  refine s_cal0 33 (run_V (X := XX4_takeOneOf) rfl clX7 yoX7_goOn rfl tw_553 tw_455 tw_456 (by decide) dX4_takeOneOf_30) cmX7_goOn (fun _ _ _ => rfl) rfl ?_
  refine s_iconst 34 1 (by decide) dX4_takeOneOf_33 rfl ?_
  exact s_zretH rfl dX4_takeOneOf_34
def BX4_takeOneOf_6 : KT (Bool × HP) :=
  oCal 2 (some 7) EX7_numberIn fI (oPut 4 3 .int (oAld 0 (oGet 4 3 (oConst (.int (-1)) (oCmpne (oAld 0 (oGet 4 0 (oPick [] (BX4_takeOneOf_30)))) (oAld 0 (oConst (.int 1) (oCal 2 (some 4) EX4_fail fZH (oZretH)))))))))
set_option maxRecDepth 20000 in
theorem sBX4_takeOneOf_6 : Snd XX4_takeOneOf fZH 6 (BX4_takeOneOf_6) (0) (0) := by
  unfold BX4_takeOneOf_6
  refine s_cal0 9 (run_V (X := XX4_takeOneOf) rfl clX7 yoX7_numberIn rfl tw_478 tw_479 tw_480 (by decide) dX4_takeOneOf_6) cmX7_numberIn (fun _ _ _ => rfl) rfl ?_
  refine s_put 4 3 12 clX4 (by decide) rfl rfl pZH tw_84 dX4_takeOneOf_9 rfl ?_
  refine s_Aldn 0 rfl 13 dX4_takeOneOf_12 rfl ?_
  refine s_get 4 3 16 clX4 (by decide) tw_84 dX4_takeOneOf_13 rfl ?_
  refine s_iconst 17 (-1) (by decide) dX4_takeOneOf_16 rfl ?_
  refine s_cmpne 26 20 dX4_takeOneOf_17 (by decide) rfl ?_ ?_
  · refine s_Aldn 0 rfl 27 dX4_takeOneOf_26 rfl ?_
    refine s_get 4 0 30 clX4 (by decide) tw_81 dX4_takeOneOf_27 rfl ?_
    exact s_pick (sBX4_takeOneOf_30)
  · refine s_Aldn 0 rfl 21 dX4_takeOneOf_20 rfl ?_
    refine s_iconst 22 1 (by decide) dX4_takeOneOf_21 rfl ?_
    refine s_cal0 25 (run_V (X := XX4_takeOneOf) rfl clX4 yoX4_fail rfl tw_533 tw_535 tw_p4 (by decide) dX4_takeOneOf_22) cmX4_fail (fun _ _ _ => rfl) rfl ?_
    exact s_zretH rfl dX4_takeOneOf_25
def BX4_takeOneOf_0 : KT (Bool × HP) :=
  oAld 0 (oAld 0 (oGet 4 0 (oAld 1 (oPick [0] (BX4_takeOneOf_6)))))
set_option maxRecDepth 20000 in
theorem sBX4_takeOneOf_0 : Snd XX4_takeOneOf fZH 0 (BX4_takeOneOf_0) (0) (0) := by
  unfold BX4_takeOneOf_0
  refine s_Aldn 0 rfl 1 dX4_takeOneOf_0 rfl ?_
  refine s_Aldn 0 rfl 2 dX4_takeOneOf_1 rfl ?_
  refine s_get 4 0 5 clX4 (by decide) tw_81 dX4_takeOneOf_2 rfl ?_
  refine s_Aldn 1 rfl 6 dX4_takeOneOf_5 rfl ?_
  exact s_pick (sBX4_takeOneOf_6)
def EX4_takeOneOf : List Value → HP → Option (Bool × HP) := en 2 BX4_takeOneOf_0
theorem cmX4_takeOneOf : CM XX4_takeOneOf EX4_takeOneOf fZH 0 0 := CM.of rfl (by decide) rfl rfl sBX4_takeOneOf_0
theorem yoX4_takeOneOf : YO XX4_takeOneOf 1 0 0 := ⟨tw_667, rfl, tw_3, (by decide +kernel), rfl, rfl⟩
abbrev XX4_readWalker : MX := (yX4_readWalker, cX4_readWalker, 6, (Option.some .boolean), Cond.code yX4_readWalker cX4_readWalker 6 (Option.some .boolean) :: WS, { frames := 7, cells := 0, slots := 0, locals := 155 })
def BX4_readWalker_150 : KT (Bool × HP) :=
  oCal 6 (some 3) EX3_addWalker fVH (oConst (.int 1) (oZretH))
set_option maxRecDepth 20000 in
theorem sBX4_readWalker_150 : Snd XX4_readWalker fZH 150 (BX4_readWalker_150) (0) (0) := by
  unfold BX4_readWalker_150
  refine s_cal0 153 (run_V (X := XX4_readWalker) rfl clX3 yoX3_addWalker rfl tw_672 tw_673 tw_674 (by decide) dX4_readWalker_150) cmX3_addWalker (fun _ _ _ => rfl) rfl ?_
  refine s_iconst 154 1 (by decide) dX4_readWalker_153 rfl ?_
  exact s_zretH rfl dX4_readWalker_154
def BX4_readWalker_128 : KT (Bool × HP) :=
  oCal 4 (some 4) EX4_takeNamed fZH (oIfne (oAld 1 (oLld 2 (oIld 4 (oAld 0 (oGet 4 4 (oIld 5 (oAld 0 (oGet 4 3 (oPick [] (BX4_readWalker_150)))))))))) (oConst (.int 0) (oZretH)))
set_option maxRecDepth 20000 in
theorem sBX4_readWalker_128 : Snd XX4_readWalker fZH 128 (BX4_readWalker_128) (0) (0) := by
  unfold BX4_readWalker_128
  refine s_cal0 131 (run_V (X := XX4_readWalker) rfl clX4 yoX4_takeNamed rfl tw_555 tw_557 tw_p7 (by decide) dX4_readWalker_128) cmX4_takeNamed (fun _ _ _ => rfl) rfl ?_
  refine s_ifne 136 134 dX4_readWalker_131 (by decide) rfl ?_ ?_
  · refine s_Aldn 1 rfl 137 dX4_readWalker_136 rfl ?_
    refine s_Lldn 2 rfl 138 dX4_readWalker_137 rfl ?_
    refine s_Ild 4 140 dX4_readWalker_138 rfl ?_
    refine s_Aldn 0 rfl 141 dX4_readWalker_140 rfl ?_
    refine s_get 4 4 144 clX4 (by decide) tw_85 dX4_readWalker_141 rfl ?_
    refine s_Ild 5 146 dX4_readWalker_144 rfl ?_
    refine s_Aldn 0 rfl 147 dX4_readWalker_146 rfl ?_
    refine s_get 4 3 150 clX4 (by decide) tw_84 dX4_readWalker_147 rfl ?_
    exact s_pick (sBX4_readWalker_150)
  · refine s_iconst 135 0 (by decide) dX4_readWalker_134 rfl ?_
    exact s_zretH rfl dX4_readWalker_135
def BX4_readWalker_108 : KT (Bool × HP) :=
  oCal 2 (some 4) EX4_takeOneOf fZH (oIfne (oAld 0 (oGet 4 3 (oIst 5 (oAld 0 (oConst (.ref 2011) (oConst (.int 0) (oConst (.int 99) (oPick [0, 1, 2, 4, 5] (BX4_readWalker_128))))))))) (oConst (.int 0) (oZretH)))
set_option maxRecDepth 20000 in
theorem sBX4_readWalker_108 : Snd XX4_readWalker fZH 108 (BX4_readWalker_108) (0) (0) := by
  unfold BX4_readWalker_108
  refine s_cal0 111 (run_V (X := XX4_readWalker) rfl clX4 yoX4_takeOneOf rfl tw_664 tw_666 tw_p17 (by decide) dX4_readWalker_108) cmX4_takeOneOf (fun _ _ _ => rfl) rfl ?_
  refine s_ifne 116 114 dX4_readWalker_111 (by decide) rfl ?_ ?_
  · refine s_Aldn 0 rfl 117 dX4_readWalker_116 rfl ?_
    refine s_get 4 3 120 clX4 (by decide) tw_84 dX4_readWalker_117 rfl ?_
    refine s_Ist 5 122 (by decide) dX4_readWalker_120 rfl ?_
    refine s_Aldn 0 rfl 123 dX4_readWalker_122 rfl ?_
    refine s_ldcS 125 11 2011 rfl sr_MownMaze_Reader_207 dX4_readWalker_123 rfl ?_
    refine s_iconst 126 0 (by decide) dX4_readWalker_125 rfl ?_
    refine s_bipush 128 99 (by decide) dX4_readWalker_126 rfl ?_
    exact s_pick (sBX4_readWalker_128)
  · refine s_iconst 115 0 (by decide) dX4_readWalker_114 rfl ?_
    exact s_zretH rfl dX4_readWalker_115
def BX4_readWalker_99 : KT (Bool × HP) :=
  oCal 2 (some 4) EX4_takeWord fZH (oIfeq (oConst (.int 0) (oZretH)) (oAld 0 (oConst (.ref 2010) (oPick [0, 1, 2, 4] (BX4_readWalker_108)))))
set_option maxRecDepth 20000 in
theorem sBX4_readWalker_99 : Snd XX4_readWalker fZH 99 (BX4_readWalker_99) (0) (0) := by
  unfold BX4_readWalker_99
  refine s_cal0 102 (run_V (X := XX4_readWalker) rfl clX4 yoX4_takeWord rfl tw_559 tw_561 tw_p8 (by decide) dX4_readWalker_99) cmX4_takeWord (fun _ _ _ => rfl) rfl ?_
  refine s_ifeq 114 105 dX4_readWalker_102 (by decide) rfl ?_ ?_
  · refine s_iconst 115 0 (by decide) dX4_readWalker_114 rfl ?_
    exact s_zretH rfl dX4_readWalker_115
  · refine s_Aldn 0 rfl 106 dX4_readWalker_105 rfl ?_
    refine s_ldcS 108 10 2010 rfl sr_MownMaze_Reader_205 dX4_readWalker_106 rfl ?_
    exact s_pick (sBX4_readWalker_108)
def BX4_readWalker_90 : KT (Bool × HP) :=
  oCal 2 (some 4) EX4_takeCell fZH (oIfeq (oConst (.int 0) (oZretH)) (oAld 0 (oConst (.ref 2009) (oPick [0, 1, 2, 4] (BX4_readWalker_99)))))
set_option maxRecDepth 20000 in
theorem sBX4_readWalker_90 : Snd XX4_readWalker fZH 90 (BX4_readWalker_90) (0) (0) := by
  unfold BX4_readWalker_90
  refine s_cal0 93 (run_V (X := XX4_readWalker) rfl clX4 yoX4_takeCell rfl tw_618 tw_620 tw_p12 (by decide) dX4_readWalker_90) cmX4_takeCell (fun _ _ _ => rfl) rfl ?_
  refine s_ifeq 114 96 dX4_readWalker_93 (by decide) rfl ?_ ?_
  · refine s_iconst 115 0 (by decide) dX4_readWalker_114 rfl ?_
    exact s_zretH rfl dX4_readWalker_115
  · refine s_Aldn 0 rfl 97 dX4_readWalker_96 rfl ?_
    refine s_ldcS 99 9 2009 rfl sr_MownMaze_Reader_203 dX4_readWalker_97 rfl ?_
    exact s_pick (sBX4_readWalker_99)
def BX4_readWalker_79 : KT (Bool × HP) :=
  oCal 2 (some 4) EX4_takeWord fZH (oIfeq (oConst (.int 0) (oZretH)) (oAld 0 (oAld 1 (oGet 3 0 (oPick [0, 1, 2, 4] (BX4_readWalker_90))))))
set_option maxRecDepth 20000 in
theorem sBX4_readWalker_79 : Snd XX4_readWalker fZH 79 (BX4_readWalker_79) (0) (0) := by
  unfold BX4_readWalker_79
  refine s_cal0 82 (run_V (X := XX4_readWalker) rfl clX4 yoX4_takeWord rfl tw_559 tw_561 tw_p8 (by decide) dX4_readWalker_79) cmX4_takeWord (fun _ _ _ => rfl) rfl ?_
  refine s_ifeq 114 85 dX4_readWalker_82 (by decide) rfl ?_ ?_
  · refine s_iconst 115 0 (by decide) dX4_readWalker_114 rfl ?_
    exact s_zretH rfl dX4_readWalker_115
  · refine s_Aldn 0 rfl 86 dX4_readWalker_85 rfl ?_
    refine s_Aldn 1 rfl 87 dX4_readWalker_86 rfl ?_
    refine s_getN 3 0 90 clX3 (by decide) nw_22 dX4_readWalker_87 rfl ?_
    exact s_pick (sBX4_readWalker_90)
def BX4_readWalker_62 : KT (Bool × HP) :=
  oCal 2 (some 4) EX4_takeOneOf fZH (oIfne (oAld 0 (oGet 4 3 (oIst 4 (oAld 0 (oConst (.ref 2008) (oPick [0, 1, 2, 4] (BX4_readWalker_79))))))) (oConst (.int 0) (oZretH)))
set_option maxRecDepth 20000 in
theorem sBX4_readWalker_62 : Snd XX4_readWalker fZH 62 (BX4_readWalker_62) (0) (0) := by
  unfold BX4_readWalker_62
  refine s_cal0 65 (run_V (X := XX4_readWalker) rfl clX4 yoX4_takeOneOf rfl tw_664 tw_666 tw_p17 (by decide) dX4_readWalker_62) cmX4_takeOneOf (fun _ _ _ => rfl) rfl ?_
  refine s_ifne 70 68 dX4_readWalker_65 (by decide) rfl ?_ ?_
  · refine s_Aldn 0 rfl 71 dX4_readWalker_70 rfl ?_
    refine s_get 4 3 74 clX4 (by decide) tw_84 dX4_readWalker_71 rfl ?_
    refine s_Ist 4 76 (by decide) dX4_readWalker_74 rfl ?_
    refine s_Aldn 0 rfl 77 dX4_readWalker_76 rfl ?_
    refine s_ldcS 79 8 2008 rfl sr_MownMaze_Reader_201 dX4_readWalker_77 rfl ?_
    exact s_pick (sBX4_readWalker_79)
  · refine s_iconst 69 0 (by decide) dX4_readWalker_68 rfl ?_
    exact s_zretH rfl dX4_readWalker_69
def BX4_readWalker_56 : KT (Bool × HP) :=
  oCal 1 (some 7) EX7_goOn fVH (oAld 0 (oConst (.ref 2007) (oPick [0, 1, 2] (BX4_readWalker_62))))
set_option maxRecDepth 20000 in
theorem sBX4_readWalker_56 : Snd XX4_readWalker fZH 56 (BX4_readWalker_56) (0) (0) := by
  unfold BX4_readWalker_56
  refine s_cal0 59 (run_V (X := XX4_readWalker) rfl clX7 yoX7_goOn rfl tw_553 tw_455 tw_456 (by decide) dX4_readWalker_56) cmX7_goOn (fun _ _ _ => rfl) rfl ?_
  refine s_Aldn 0 rfl 60 dX4_readWalker_59 rfl ?_
  refine s_ldcS 62 7 2007 rfl sr_MownMaze_Reader_196 dX4_readWalker_60 rfl ?_
  exact s_pick (sBX4_readWalker_62)
def BX4_readWalker_40 : KT (Bool × HP) :=
  oCal 2 (some 3) EX3_hasWalkerNamed fZ (oIfeq (oAld 0 (oGet 4 0 (oPick [0, 1, 2] (BX4_readWalker_56)))) (oAld 0 (oConst (.int 3) (oCal 2 (some 4) EX4_fail fZH (oZretH)))))
set_option maxRecDepth 20000 in
theorem sBX4_readWalker_40 : Snd XX4_readWalker fZH 40 (BX4_readWalker_40) (0) (0) := by
  unfold BX4_readWalker_40
  refine s_cal0 43 (run_V (X := XX4_readWalker) rfl clX3 yoX3_hasWalkerNamed rfl tw_659 tw_660 tw_661 (by decide) dX4_readWalker_40) cmX3_hasWalkerNamed (fun _ _ _ => rfl) rfl ?_
  refine s_ifeq 52 46 dX4_readWalker_43 (by decide) rfl ?_ ?_
  · refine s_Aldn 0 rfl 53 dX4_readWalker_52 rfl ?_
    refine s_get 4 0 56 clX4 (by decide) tw_81 dX4_readWalker_53 rfl ?_
    exact s_pick (sBX4_readWalker_56)
  · refine s_Aldn 0 rfl 47 dX4_readWalker_46 rfl ?_
    refine s_iconst 48 3 (by decide) dX4_readWalker_47 rfl ?_
    refine s_cal0 51 (run_V (X := XX4_readWalker) rfl clX4 yoX4_fail rfl tw_533 tw_535 tw_p4 (by decide) dX4_readWalker_48) cmX4_fail (fun _ _ _ => rfl) rfl ?_
    exact s_zretH rfl dX4_readWalker_51
def BX4_readWalker_17 : KT (Bool × HP) :=
  oCal 2 (some 7) EX7_numberIn fI (oConst (.int (-1)) (oCmpeq (oAld 0 (oGet 4 0 (oCal 1 (some 7) EX7_code fL (oLst 2 (oAld 1 (oLld 2 (oPick [0, 1, 2] (BX4_readWalker_40)))))))) (oAld 0 (oConst (.int 1) (oCal 2 (some 4) EX4_fail fZH (oZretH))))))
set_option maxRecDepth 20000 in
theorem sBX4_readWalker_17 : Snd XX4_readWalker fZH 17 (BX4_readWalker_17) (0) (0) := by
  unfold BX4_readWalker_17
  refine s_cal0 20 (run_V (X := XX4_readWalker) rfl clX7 yoX7_numberIn rfl tw_478 tw_479 tw_480 (by decide) dX4_readWalker_17) cmX7_numberIn (fun _ _ _ => rfl) rfl ?_
  refine s_iconst 21 (-1) (by decide) dX4_readWalker_20 rfl ?_
  refine s_cmpeq 30 24 dX4_readWalker_21 (by decide) rfl ?_ ?_
  · refine s_Aldn 0 rfl 31 dX4_readWalker_30 rfl ?_
    refine s_get 4 0 34 clX4 (by decide) tw_81 dX4_readWalker_31 rfl ?_
    refine s_cal0 37 (run_V (X := XX4_readWalker) rfl clX7 yoX7_code rfl tw_655 tw_656 tw_657 (by decide) dX4_readWalker_34) cmX7_code (fun _ _ _ => rfl) rfl ?_
    refine s_Lstn 2 rfl 38 (by decide) dX4_readWalker_37 rfl ?_
    refine s_Aldn 1 rfl 39 dX4_readWalker_38 rfl ?_
    refine s_Lldn 2 rfl 40 dX4_readWalker_39 rfl ?_
    exact s_pick (sBX4_readWalker_40)
  · refine s_Aldn 0 rfl 25 dX4_readWalker_24 rfl ?_
    refine s_iconst 26 1 (by decide) dX4_readWalker_25 rfl ?_
    refine s_cal0 29 (run_V (X := XX4_readWalker) rfl clX4 yoX4_fail rfl tw_533 tw_535 tw_p4 (by decide) dX4_readWalker_26) cmX4_fail (fun _ _ _ => rfl) rfl ?_
    exact s_zretH rfl dX4_readWalker_29
def BX4_readWalker_0 : KT (Bool × HP) :=
  oAld 0 (oGet 4 0 (oCal 1 (some 7) EX7_kind fI (oConst (.int 1) (oCmpne (oAld 0 (oConst (.int 1) (oCal 2 (some 4) EX4_fail fZH (oZretH)))) (oAld 0 (oGet 4 0 (oConst (.ref 2000) (oPick [0, 1] (BX4_readWalker_17)))))))))
set_option maxRecDepth 20000 in
theorem sBX4_readWalker_0 : Snd XX4_readWalker fZH 0 (BX4_readWalker_0) (0) (0) := by
  unfold BX4_readWalker_0
  refine s_Aldn 0 rfl 1 dX4_readWalker_0 rfl ?_
  refine s_get 4 0 4 clX4 (by decide) tw_81 dX4_readWalker_1 rfl ?_
  refine s_cal0 7 (run_V (X := XX4_readWalker) rfl clX7 yoX7_kind rfl tw_575 tw_576 tw_577 (by decide) dX4_readWalker_4) cmX7_kind (fun _ _ _ => rfl) rfl ?_
  refine s_iconst 8 1 (by decide) dX4_readWalker_7 rfl ?_
  refine s_cmpne 24 11 dX4_readWalker_8 (by decide) rfl ?_ ?_
  · refine s_Aldn 0 rfl 25 dX4_readWalker_24 rfl ?_
    refine s_iconst 26 1 (by decide) dX4_readWalker_25 rfl ?_
    refine s_cal0 29 (run_V (X := XX4_readWalker) rfl clX4 yoX4_fail rfl tw_533 tw_535 tw_p4 (by decide) dX4_readWalker_26) cmX4_fail (fun _ _ _ => rfl) rfl ?_
    exact s_zretH rfl dX4_readWalker_29
  · refine s_Aldn 0 rfl 12 dX4_readWalker_11 rfl ?_
    refine s_get 4 0 15 clX4 (by decide) tw_81 dX4_readWalker_12 rfl ?_
    refine s_ldcS 17 0 2000 rfl sr_MownMaze_Reader_53 dX4_readWalker_15 rfl ?_
    exact s_pick (sBX4_readWalker_17)
def EX4_readWalker : List Value → HP → Option (Bool × HP) := en 6 BX4_readWalker_0
theorem cmX4_readWalker : CM XX4_readWalker EX4_readWalker fZH 0 0 := CM.of rfl (by decide) rfl rfl sBX4_readWalker_0
theorem yoX4_readWalker : YO XX4_readWalker 1 0 0 := ⟨tw_654, rfl, tw_3, (by decide +kernel), rfl, rfl⟩
abbrev XX4_readLine : MX := (yX4_readLine, cX4_readLine, 3, (Option.some .boolean), Cond.code yX4_readLine cX4_readLine 3 (Option.some .boolean) :: WS, { frames := 8, cells := 0, slots := 0, locals := 180 })
def BX4_readLine_197 : KT (Bool × HP) :=
  oCal 2 (some 4) EX4_readWalker fZH (oZretH)
set_option maxRecDepth 20000 in
theorem sBX4_readLine_197 : Snd XX4_readLine fZH 197 (BX4_readLine_197) (0) (0) := by
  unfold BX4_readLine_197
  refine s_cal0 200 (run_V (X := XX4_readLine) rfl clX4 yoX4_readWalker rfl tw_651 tw_653 tw_p16 (by decide) dX4_readLine_197) cmX4_readWalker (fun _ _ _ => rfl) rfl ?_
  exact s_zretH rfl dX4_readLine_200
def BX4_readLine_191 : KT (Bool × HP) :=
  oCal 2 (some 4) EX4_readHeard fZH (oZretH)
set_option maxRecDepth 20000 in
theorem sBX4_readLine_191 : Snd XX4_readLine fZH 191 (BX4_readLine_191) (0) (0) := by
  unfold BX4_readLine_191
  refine s_cal0 194 (run_V (X := XX4_readLine) rfl clX4 yoX4_readHeard rfl tw_642 tw_644 tw_p15 (by decide) dX4_readLine_191) cmX4_readHeard (fun _ _ _ => rfl) rfl ?_
  exact s_zretH rfl dX4_readLine_194
def BX4_readLine_185 : KT (Bool × HP) :=
  oCal 2 (some 4) EX4_readNoise fZH (oZretH)
set_option maxRecDepth 20000 in
theorem sBX4_readLine_185 : Snd XX4_readLine fZH 185 (BX4_readLine_185) (0) (0) := by
  unfold BX4_readLine_185
  refine s_cal0 188 (run_V (X := XX4_readLine) rfl clX4 yoX4_readNoise rfl tw_638 tw_640 tw_p14 (by decide) dX4_readLine_185) cmX4_readNoise (fun _ _ _ => rfl) rfl ?_
  exact s_zretH rfl dX4_readLine_188
def BX4_readLine_179 : KT (Bool × HP) :=
  oCal 2 (some 4) EX4_readGate fZH (oZretH)
set_option maxRecDepth 20000 in
theorem sBX4_readLine_179 : Snd XX4_readLine fZH 179 (BX4_readLine_179) (0) (0) := by
  unfold BX4_readLine_179
  refine s_cal0 182 (run_V (X := XX4_readLine) rfl clX4 yoX4_readGate rfl tw_614 tw_616 tw_p11 (by decide) dX4_readLine_179) cmX4_readGate (fun _ _ _ => rfl) rfl ?_
  exact s_zretH rfl dX4_readLine_182
def BX4_readLine_173 : KT (Bool × HP) :=
  oCal 4 (some 4) EX4_readRow fZH (oZretH)
set_option maxRecDepth 20000 in
theorem sBX4_readLine_173 : Snd XX4_readLine fZH 173 (BX4_readLine_173) (0) (0) := by
  unfold BX4_readLine_173
  refine s_cal0 176 (run_V (X := XX4_readLine) rfl clX4 yoX4_readRow rfl tw_599 tw_601 tw_p10 (by decide) dX4_readLine_173) cmX4_readRow (fun _ _ _ => rfl) rfl ?_
  exact s_zretH rfl dX4_readLine_176
def BX4_readLine_162 : KT (Bool × HP) :=
  oCal 4 (some 4) EX4_readRow fZH (oZretH)
set_option maxRecDepth 20000 in
theorem sBX4_readLine_162 : Snd XX4_readLine fZH 162 (BX4_readLine_162) (0) (0) := by
  unfold BX4_readLine_162
  refine s_cal0 165 (run_V (X := XX4_readLine) rfl clX4 yoX4_readRow rfl tw_599 tw_601 tw_p10 (by decide) dX4_readLine_162) cmX4_readRow (fun _ _ _ => rfl) rfl ?_
  exact s_zretH rfl dX4_readLine_165
def BX4_readLine_151 : KT (Bool × HP) :=
  oCal 4 (some 4) EX4_readRow fZH (oZretH)
set_option maxRecDepth 20000 in
theorem sBX4_readLine_151 : Snd XX4_readLine fZH 151 (BX4_readLine_151) (0) (0) := by
  unfold BX4_readLine_151
  refine s_cal0 154 (run_V (X := XX4_readLine) rfl clX4 yoX4_readRow rfl tw_599 tw_601 tw_p10 (by decide) dX4_readLine_151) cmX4_readRow (fun _ _ _ => rfl) rfl ?_
  exact s_zretH rfl dX4_readLine_154
def BX4_readLine_96 : KT (Bool × HP) :=
  oCal 1 (some 7) EX7_goOn fVH (oIld 2 (oTab 1 [(oAld 0 (oAld 1 (oAld 1 (oGet 3 1 (oConst (.int 0) (oPick [] (BX4_readLine_151))))))), (oAld 0 (oAld 1 (oAld 1 (oGet 3 2 (oConst (.int 1) (oPick [] (BX4_readLine_162))))))), (oAld 0 (oAld 1 (oAld 1 (oGet 3 3 (oConst (.int 1) (oPick [] (BX4_readLine_173))))))), (oAld 0 (oAld 1 (oPick [] (BX4_readLine_179)))), (oAld 0 (oAld 1 (oPick [] (BX4_readLine_185)))), (oAld 0 (oAld 1 (oPick [] (BX4_readLine_191)))), (oAld 0 (oAld 1 (oPick [] (BX4_readLine_197))))] (oAld 0 (oConst (.int 1) (oCal 2 (some 4) EX4_fail fZH (oZretH))))))
set_option maxRecDepth 20000 in
theorem sBX4_readLine_96 : Snd XX4_readLine fZH 96 (BX4_readLine_96) (0) (0) := by
  unfold BX4_readLine_96
  refine s_cal0 99 (run_V (X := XX4_readLine) rfl clX7 yoX7_goOn rfl tw_553 tw_455 tw_456 (by decide) dX4_readLine_96) cmX7_goOn (fun _ _ _ => rfl) rfl ?_
  refine s_Ildn 2 rfl 100 dX4_readLine_99 rfl ?_
  refine s_tab 1 7 1 [144, 155, 166, 177, 183, 189, 195] 201 dX4_readLine_100 rfl (by decide) (by decide) (by decide) (by decide) (by decide) ?_ ?_
  · refine s_Aldn 0 rfl 202 dX4_readLine_201 rfl ?_
    refine s_iconst 203 1 (by decide) dX4_readLine_202 rfl ?_
    refine s_cal0 206 (run_V (X := XX4_readLine) rfl clX4 yoX4_fail rfl tw_533 tw_535 tw_p4 (by decide) dX4_readLine_203) cmX4_fail (fun _ _ _ => rfl) rfl ?_
    exact s_zretH rfl dX4_readLine_206
  · refine Sall_cons ?_ ?_
    · refine s_Aldn 0 rfl 145 dX4_readLine_144 rfl ?_
      refine s_Aldn 1 rfl 146 dX4_readLine_145 rfl ?_
      refine s_Aldn 1 rfl 147 dX4_readLine_146 rfl ?_
      refine s_getN 3 1 150 clX3 (by decide) nw_25 dX4_readLine_147 rfl ?_
      refine s_iconst 151 0 (by decide) dX4_readLine_150 rfl ?_
      exact s_pick (sBX4_readLine_151)
    · refine Sall_cons ?_ ?_
      · refine s_Aldn 0 rfl 156 dX4_readLine_155 rfl ?_
        refine s_Aldn 1 rfl 157 dX4_readLine_156 rfl ?_
        refine s_Aldn 1 rfl 158 dX4_readLine_157 rfl ?_
        refine s_getN 3 2 161 clX3 (by decide) nw_26 dX4_readLine_158 rfl ?_
        refine s_iconst 162 1 (by decide) dX4_readLine_161 rfl ?_
        exact s_pick (sBX4_readLine_162)
      · refine Sall_cons ?_ ?_
        · refine s_Aldn 0 rfl 167 dX4_readLine_166 rfl ?_
          refine s_Aldn 1 rfl 168 dX4_readLine_167 rfl ?_
          refine s_Aldn 1 rfl 169 dX4_readLine_168 rfl ?_
          refine s_getN 3 3 172 clX3 (by decide) nw_28 dX4_readLine_169 rfl ?_
          refine s_iconst 173 1 (by decide) dX4_readLine_172 rfl ?_
          exact s_pick (sBX4_readLine_173)
        · refine Sall_cons ?_ ?_
          · refine s_Aldn 0 rfl 178 dX4_readLine_177 rfl ?_
            refine s_Aldn 1 rfl 179 dX4_readLine_178 rfl ?_
            exact s_pick (sBX4_readLine_179)
          · refine Sall_cons ?_ ?_
            · refine s_Aldn 0 rfl 184 dX4_readLine_183 rfl ?_
              refine s_Aldn 1 rfl 185 dX4_readLine_184 rfl ?_
              exact s_pick (sBX4_readLine_185)
            · refine Sall_cons ?_ ?_
              · refine s_Aldn 0 rfl 190 dX4_readLine_189 rfl ?_
                refine s_Aldn 1 rfl 191 dX4_readLine_190 rfl ?_
                exact s_pick (sBX4_readLine_191)
              · refine Sall_cons ?_ ?_
                · refine s_Aldn 0 rfl 196 dX4_readLine_195 rfl ?_
                  refine s_Aldn 1 rfl 197 dX4_readLine_196 rfl ?_
                  exact s_pick (sBX4_readLine_197)
                · exact Sall_nil
def BX4_readLine_80 : KT (Bool × HP) :=
  oCal 2 (some 3) EX3_hasRoomFor fZ (oIfne (oAld 0 (oGet 4 0 (oPick [0, 1, 2] (BX4_readLine_96)))) (oAld 0 (oConst (.int 5) (oCal 2 (some 4) EX4_fail fZH (oZretH)))))
set_option maxRecDepth 20000 in
theorem sBX4_readLine_80 : Snd XX4_readLine fZH 80 (BX4_readLine_80) (0) (0) := by
  unfold BX4_readLine_80
  refine s_cal0 83 (run_V (X := XX4_readLine) rfl clX3 yoX3_hasRoomFor rfl tw_595 tw_596 tw_597 (by decide) dX4_readLine_80) cmX3_hasRoomFor (fun _ _ _ => rfl) rfl ?_
  refine s_ifne 92 86 dX4_readLine_83 (by decide) rfl ?_ ?_
  · refine s_Aldn 0 rfl 93 dX4_readLine_92 rfl ?_
    refine s_get 4 0 96 clX4 (by decide) tw_81 dX4_readLine_93 rfl ?_
    exact s_pick (sBX4_readLine_96)
  · refine s_Aldn 0 rfl 87 dX4_readLine_86 rfl ?_
    refine s_iconst 88 5 (by decide) dX4_readLine_87 rfl ?_
    refine s_cal0 91 (run_V (X := XX4_readLine) rfl clX4 yoX4_fail rfl tw_533 tw_535 tw_p4 (by decide) dX4_readLine_88) cmX4_fail (fun _ _ _ => rfl) rfl ?_
    exact s_zretH rfl dX4_readLine_91
def BX4_readLine_78 : KT (Bool × HP) :=
  oAld 1 (oIld 2 (oPick [0, 1, 2] (BX4_readLine_80)))
set_option maxRecDepth 20000 in
theorem sBX4_readLine_78 : Snd XX4_readLine fZH 78 (BX4_readLine_78) (0) (0) := by
  unfold BX4_readLine_78
  refine s_Aldn 1 rfl 79 dX4_readLine_78 rfl ?_
  refine s_Ildn 2 rfl 80 dX4_readLine_79 rfl ?_
  exact s_pick (sBX4_readLine_80)
def BX4_readLine_66 : KT (Bool × HP) :=
  oCal 1 (some 3) EX3_hasNoise fZ (oIfeq (oPick [0, 1, 2] (BX4_readLine_78)) (oAld 0 (oConst (.int 3) (oCal 2 (some 4) EX4_fail fZH (oZretH)))))
set_option maxRecDepth 20000 in
theorem sBX4_readLine_66 : Snd XX4_readLine fZH 66 (BX4_readLine_66) (0) (0) := by
  unfold BX4_readLine_66
  refine s_cal0 69 (run_V (X := XX4_readLine) rfl clX3 yoX3_hasNoise rfl tw_591 tw_592 tw_593 (by decide) dX4_readLine_66) cmX3_hasNoise (fun _ _ _ => rfl) rfl ?_
  refine s_ifeq 78 72 dX4_readLine_69 (by decide) rfl ?_ ?_
  · exact s_pick (sBX4_readLine_78)
  · refine s_Aldn 0 rfl 73 dX4_readLine_72 rfl ?_
    refine s_iconst 74 3 (by decide) dX4_readLine_73 rfl ?_
    refine s_cal0 77 (run_V (X := XX4_readLine) rfl clX4 yoX4_fail rfl tw_533 tw_535 tw_p4 (by decide) dX4_readLine_74) cmX4_fail (fun _ _ _ => rfl) rfl ?_
    exact s_zretH rfl dX4_readLine_77
def BX4_readLine_47 : KT (Bool × HP) :=
  oCal 1 (some 3) EX3_isLaid fZ (oIfne (oIld 2 (oConst (.int 5) (oCmpne (oPick [0, 1, 2] (BX4_readLine_78)) (oAld 1 (oPick [0, 1, 2] (BX4_readLine_66)))))) (oAld 0 (oConst (.int 6) (oCal 2 (some 4) EX4_fail fZH (oZretH)))))
set_option maxRecDepth 20000 in
theorem sBX4_readLine_47 : Snd XX4_readLine fZH 47 (BX4_readLine_47) (0) (0) := by
  unfold BX4_readLine_47
  refine s_cal0 50 (run_V (X := XX4_readLine) rfl clX3 yoX3_isLaid rfl tw_545 tw_546 tw_547 (by decide) dX4_readLine_47) cmX3_isLaid (fun _ _ _ => rfl) rfl ?_
  refine s_ifne 60 53 dX4_readLine_50 (by decide) rfl ?_ ?_
  · refine s_Ildn 2 rfl 61 dX4_readLine_60 rfl ?_
    refine s_iconst 62 5 (by decide) dX4_readLine_61 rfl ?_
    refine s_cmpne 78 65 dX4_readLine_62 (by decide) rfl ?_ ?_
    · exact s_pick (sBX4_readLine_78)
    · refine s_Aldn 1 rfl 66 dX4_readLine_65 rfl ?_
      exact s_pick (sBX4_readLine_66)
  · refine s_Aldn 0 rfl 54 dX4_readLine_53 rfl ?_
    refine s_bipush 56 6 (by decide) dX4_readLine_54 rfl ?_
    refine s_cal0 59 (run_V (X := XX4_readLine) rfl clX4 yoX4_fail rfl tw_533 tw_535 tw_p4 (by decide) dX4_readLine_56) cmX4_fail (fun _ _ _ => rfl) rfl ?_
    exact s_zretH rfl dX4_readLine_59
def BX4_readLine_42 : KT (Bool × HP) :=
  oCal 2 (some 4) EX4_readSizes fZH (oZretH)
set_option maxRecDepth 20000 in
theorem sBX4_readLine_42 : Snd XX4_readLine fZH 42 (BX4_readLine_42) (0) (0) := by
  unfold BX4_readLine_42
  refine s_cal0 45 (run_V (X := XX4_readLine) rfl clX4 yoX4_readSizes rfl tw_549 tw_551 tw_p6 (by decide) dX4_readLine_42) cmX4_readSizes (fun _ _ _ => rfl) rfl ?_
  exact s_zretH rfl dX4_readLine_45
def BX4_readLine_26 : KT (Bool × HP) :=
  oCal 1 (some 3) EX3_isLaid fZ (oIfeq (oAld 0 (oAld 1 (oPick [] (BX4_readLine_42)))) (oAld 0 (oConst (.int 3) (oCal 2 (some 4) EX4_fail fZH (oZretH)))))
set_option maxRecDepth 20000 in
theorem sBX4_readLine_26 : Snd XX4_readLine fZH 26 (BX4_readLine_26) (0) (0) := by
  unfold BX4_readLine_26
  refine s_cal0 29 (run_V (X := XX4_readLine) rfl clX3 yoX3_isLaid rfl tw_545 tw_546 tw_547 (by decide) dX4_readLine_26) cmX3_isLaid (fun _ _ _ => rfl) rfl ?_
  refine s_ifeq 40 32 dX4_readLine_29 (by decide) rfl ?_ ?_
  · refine s_Aldn 0 rfl 41 dX4_readLine_40 rfl ?_
    refine s_Aldn 1 rfl 42 dX4_readLine_41 rfl ?_
    exact s_pick (sBX4_readLine_42)
  · refine s_Aldn 0 rfl 33 dX4_readLine_32 rfl ?_
    refine s_iconst 34 3 (by decide) dX4_readLine_33 rfl ?_
    refine s_cal0 37 (run_V (X := XX4_readLine) rfl clX4 yoX4_fail rfl tw_533 tw_535 tw_p4 (by decide) dX4_readLine_34) cmX4_fail (fun _ _ _ => rfl) rfl ?_
    refine s_goto 45 dX4_readLine_37 (by decide) ?_
    exact s_zretH rfl dX4_readLine_45
def BX4_readLine_6 : KT (Bool × HP) :=
  oCal 2 (some 7) EX7_numberIn fI (oIst 2 (oIld 2 (oConst (.int (-1)) (oCmpne (oIld 2 (oIfne (oAld 1 (oPick [0, 1, 2] (BX4_readLine_47))) (oAld 1 (oPick [0, 1] (BX4_readLine_26))))) (oAld 0 (oConst (.int 1) (oCal 2 (some 4) EX4_fail fZH (oZretH))))))))
set_option maxRecDepth 20000 in
theorem sBX4_readLine_6 : Snd XX4_readLine fZH 6 (BX4_readLine_6) (0) (0) := by
  unfold BX4_readLine_6
  refine s_cal0 9 (run_V (X := XX4_readLine) rfl clX7 yoX7_numberIn rfl tw_478 tw_479 tw_480 (by decide) dX4_readLine_6) cmX7_numberIn (fun _ _ _ => rfl) rfl ?_
  refine s_Istn 2 rfl 10 (by decide) dX4_readLine_9 rfl ?_
  refine s_Ildn 2 rfl 11 dX4_readLine_10 rfl ?_
  refine s_iconst 12 (-1) (by decide) dX4_readLine_11 rfl ?_
  refine s_cmpne 21 15 dX4_readLine_12 (by decide) rfl ?_ ?_
  · refine s_Ildn 2 rfl 22 dX4_readLine_21 rfl ?_
    refine s_ifne 46 25 dX4_readLine_22 (by decide) rfl ?_ ?_
    · refine s_Aldn 1 rfl 47 dX4_readLine_46 rfl ?_
      exact s_pick (sBX4_readLine_47)
    · refine s_Aldn 1 rfl 26 dX4_readLine_25 rfl ?_
      exact s_pick (sBX4_readLine_26)
  · refine s_Aldn 0 rfl 16 dX4_readLine_15 rfl ?_
    refine s_iconst 17 1 (by decide) dX4_readLine_16 rfl ?_
    refine s_cal0 20 (run_V (X := XX4_readLine) rfl clX4 yoX4_fail rfl tw_533 tw_535 tw_p4 (by decide) dX4_readLine_17) cmX4_fail (fun _ _ _ => rfl) rfl ?_
    exact s_zretH rfl dX4_readLine_20
def BX4_readLine_0 : KT (Bool × HP) :=
  oAld 0 (oGet 4 0 (oConst (.ref 2000) (oPick [0, 1] (BX4_readLine_6))))
set_option maxRecDepth 20000 in
theorem sBX4_readLine_0 : Snd XX4_readLine fZH 0 (BX4_readLine_0) (0) (0) := by
  unfold BX4_readLine_0
  refine s_Aldn 0 rfl 1 dX4_readLine_0 rfl ?_
  refine s_get 4 0 4 clX4 (by decide) tw_81 dX4_readLine_1 rfl ?_
  refine s_ldcS 6 0 2000 rfl sr_MownMaze_Reader_53 dX4_readLine_4 rfl ?_
  exact s_pick (sBX4_readLine_6)
def EX4_readLine : List Value → HP → Option (Bool × HP) := en 3 BX4_readLine_0
theorem cmX4_readLine : CM XX4_readLine EX4_readLine fZH 0 0 := CM.of rfl (by decide) rfl rfl sBX4_readLine_0
theorem yoX4_readLine : YO XX4_readLine 1 0 0 := ⟨tw_476, rfl, tw_3, (by decide +kernel), rfl, rfl⟩
abbrev XX4_read : MX := (yX4_read, cX4_read, 4, (Option.some .boolean), Cond.code yX4_read cX4_read 4 (Option.some .boolean) :: WS, { frames := 9, cells := 0, slots := 0, locals := 202 })
def BX4_read_70 (k24 : KT (Bool × HP)) : KT (Bool × HP) :=
  oCal 2 (some 4) EX4_takeSign fZH (oIfne (oInc 3 1 (oPick [0, 1, 2, 3] k24)) (oConst (.int 0) (oZretH)))
set_option maxRecDepth 20000 in
theorem sBX4_read_70 {k24 : KT (Bool × HP)} (hk24 : Snd XX4_read fZH 24 k24 0 0) : Snd XX4_read fZH 70 (BX4_read_70 k24) (0) (0) := by
  unfold BX4_read_70
  refine s_cal0 73 (run_V (X := XX4_read) rfl clX4 yoX4_takeSign rfl tw_622 tw_624 tw_p13 (by decide) dX4_read_70) cmX4_takeSign (fun _ _ _ => rfl) rfl ?_
  refine s_ifne 78 76 dX4_read_73 (by decide) rfl ?_ ?_
  · refine s_inc 3 1 81 (by decide) (by decide) dX4_read_78 rfl ?_
    refine s_goto 24 dX4_read_81 (by decide) ?_
    exact s_pick hk24
  · refine s_iconst 77 0 (by decide) dX4_read_76 rfl ?_
    exact s_zretH rfl dX4_read_77
def BX4_read_50 : KT (Bool × HP) :=
  oCal 1 (some 3) EX3_lacksRows fZ (oIfeq (oConst (.int 1) (oZretH)) (oAld 0 (oConst (.int 6) (oCal 2 (some 4) EX4_fail fZH (oZretH)))))
set_option maxRecDepth 20000 in
theorem sBX4_read_50 : Snd XX4_read fZH 50 (BX4_read_50) (0) (0) := by
  unfold BX4_read_50
  refine s_cal0 53 (run_V (X := XX4_read) rfl clX3 yoX3_lacksRows rfl tw_676 tw_677 tw_678 (by decide) dX4_read_50) cmX3_lacksRows (fun _ _ _ => rfl) rfl ?_
  refine s_ifeq 65 56 dX4_read_53 (by decide) rfl ?_ ?_
  · refine s_iconst 66 1 (by decide) dX4_read_65 rfl ?_
    exact s_zretH rfl dX4_read_66
  · refine s_Aldn 0 rfl 57 dX4_read_56 rfl ?_
    refine s_bipush 59 6 (by decide) dX4_read_57 rfl ?_
    refine s_cal0 62 (run_V (X := XX4_read) rfl clX4 yoX4_fail rfl tw_533 tw_535 tw_p4 (by decide) dX4_read_59) cmX4_fail (fun _ _ _ => rfl) rfl ?_
    refine s_goto 66 dX4_read_62 (by decide) ?_
    exact s_zretH rfl dX4_read_66
def BX4_read_31 (k24 : KT (Bool × HP)) : KT (Bool × HP) :=
  oCal 2 (some 4) EX4_readLine fZH (oIfne (oAld 0 (oGet 4 0 (oCal 1 (some 7) EX7_kind fI (oIfne (oAld 0 (oConst (.int 59) (oPick [0, 1, 2, 3] (BX4_read_70 k24)))) (oAld 1 (oPick [0] (BX4_read_50))))))) (oConst (.int 0) (oZretH)))
set_option maxRecDepth 20000 in
theorem sBX4_read_31 {k24 : KT (Bool × HP)} (hk24 : Snd XX4_read fZH 24 k24 0 0) : Snd XX4_read fZH 31 (BX4_read_31 k24) (0) (0) := by
  unfold BX4_read_31
  refine s_cal0 34 (run_V (X := XX4_read) rfl clX4 yoX4_readLine rfl tw_473 tw_475 tw_p3 (by decide) dX4_read_31) cmX4_readLine (fun _ _ _ => rfl) rfl ?_
  refine s_ifne 39 37 dX4_read_34 (by decide) rfl ?_ ?_
  · refine s_Aldn 0 rfl 40 dX4_read_39 rfl ?_
    refine s_get 4 0 43 clX4 (by decide) tw_81 dX4_read_40 rfl ?_
    refine s_cal0 46 (run_V (X := XX4_read) rfl clX7 yoX7_kind rfl tw_575 tw_576 tw_577 (by decide) dX4_read_43) cmX7_kind (fun _ _ _ => rfl) rfl ?_
    refine s_ifne 67 49 dX4_read_46 (by decide) rfl ?_ ?_
    · refine s_Aldn 0 rfl 68 dX4_read_67 rfl ?_
      refine s_bipush 70 59 (by decide) dX4_read_68 rfl ?_
      exact s_pick (sBX4_read_70 hk24)
    · refine s_Aldn 1 rfl 50 dX4_read_49 rfl ?_
      exact s_pick (sBX4_read_50)
  · refine s_iconst 38 0 (by decide) dX4_read_37 rfl ?_
    exact s_zretH rfl dX4_read_38
def BX4_read_24 (k24 : KT (Bool × HP)) : KT (Bool × HP) :=
  oIld 3 (oIld 2 (oCmpgt (oAld 0 (oConst (.int 1) (oCal 2 (some 4) EX4_fail fZH (oZretH)))) (oAld 0 (oAld 1 (oPick [0, 1, 2, 3] (BX4_read_31 k24))))))
set_option maxRecDepth 20000 in
theorem sBX4_read_24 {k24 : KT (Bool × HP)} (hk24 : Snd XX4_read fZH 24 k24 0 0) : Snd XX4_read fZH 24 (BX4_read_24 k24) (0) (0) := by
  unfold BX4_read_24
  refine s_Ildn 3 rfl 25 dX4_read_24 rfl ?_
  refine s_Ildn 2 rfl 26 dX4_read_25 rfl ?_
  refine s_cmpgt 84 29 dX4_read_26 (by decide) rfl ?_ ?_
  · refine s_Aldn 0 rfl 85 dX4_read_84 rfl ?_
    refine s_iconst 86 1 (by decide) dX4_read_85 rfl ?_
    refine s_cal0 89 (run_V (X := XX4_read) rfl clX4 yoX4_fail rfl tw_533 tw_535 tw_p4 (by decide) dX4_read_86) cmX4_fail (fun _ _ _ => rfl) rfl ?_
    exact s_zretH rfl dX4_read_89
  · refine s_Aldn 0 rfl 30 dX4_read_29 rfl ?_
    refine s_Aldn 1 rfl 31 dX4_read_30 rfl ?_
    exact s_pick (sBX4_read_31 hk24)
def BX4_read_19 : KT (Bool × HP) :=
  oCal 2 (some 7) EX7_open fVH (oConst (.int 0) (oIst 3 (oPick [0, 1, 2, 3] (lp (BX4_read_24) FU))))
set_option maxRecDepth 20000 in
theorem sBX4_read_19 : Snd XX4_read fZH 19 (BX4_read_19) (0) (0) := by
  unfold BX4_read_19
  refine s_cal0 22 (run_V (X := XX4_read) rfl clX7 yoX7_open rfl tw_450 tw_451 tw_452 (by decide) dX4_read_19) cmX7_open (fun _ _ _ => rfl) rfl ?_
  refine s_iconst 23 0 (by decide) dX4_read_22 rfl ?_
  refine s_Istn 3 rfl 24 (by decide) dX4_read_23 rfl ?_
  exact s_pick (s_lp (fun k hk => sBX4_read_24  hk) FU)
def BX4_read_11 : KT (Bool × HP) :=
  oCal 1 (some 3) EX3_empty fVH (oAld 0 (oGet 4 0 (oIld 2 (oPick [0, 1, 2] (BX4_read_19)))))
set_option maxRecDepth 20000 in
theorem sBX4_read_11 : Snd XX4_read fZH 11 (BX4_read_11) (0) (0) := by
  unfold BX4_read_11
  refine s_cal0 14 (run_V (X := XX4_read) rfl clX3 yoX3_empty rfl tw_423 tw_424 tw_425 (by decide) dX4_read_11) cmX3_empty (fun _ _ _ => rfl) rfl ?_
  refine s_Aldn 0 rfl 15 dX4_read_14 rfl ?_
  refine s_get 4 0 18 clX4 (by decide) tw_81 dX4_read_15 rfl ?_
  refine s_Ildn 2 rfl 19 dX4_read_18 rfl ?_
  exact s_pick (sBX4_read_19)
def BX4_read_0 : KT (Bool × HP) :=
  oAld 0 (oConst (.int 0) (oPut 4 1 .int (oAld 0 (oConst (.int (-1)) (oPut 4 2 .int (oAld 1 (oPick [0, 1, 2] (BX4_read_11))))))))
set_option maxRecDepth 20000 in
theorem sBX4_read_0 : Snd XX4_read fZH 0 (BX4_read_0) (0) (0) := by
  unfold BX4_read_0
  refine s_Aldn 0 rfl 1 dX4_read_0 rfl ?_
  refine s_iconst 2 0 (by decide) dX4_read_1 rfl ?_
  refine s_put 4 1 5 clX4 (by decide) rfl rfl pZH tw_82 dX4_read_2 rfl ?_
  refine s_Aldn 0 rfl 6 dX4_read_5 rfl ?_
  refine s_iconst 7 (-1) (by decide) dX4_read_6 rfl ?_
  refine s_put 4 2 10 clX4 (by decide) rfl rfl pZH tw_83 dX4_read_7 rfl ?_
  refine s_Aldn 1 rfl 11 dX4_read_10 rfl ?_
  exact s_pick (sBX4_read_11)
def EX4_read : List Value → HP → Option (Bool × HP) := en 4 BX4_read_0
theorem cmX4_read : CM XX4_read EX4_read fZH 0 0 := CM.of rfl (by decide) rfl rfl sBX4_read_0
theorem yoX4_read : YO XX4_read 2 0 0 := ⟨tw_422, rfl, tw_3, (by decide +kernel), rfl, rfl⟩
end
