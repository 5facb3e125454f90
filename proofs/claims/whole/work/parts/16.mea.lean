noncomputable section
abbrev XX11_init : MX := (yX11_init, cX11_init, 1, none, Cond.code yX11_init cX11_init 1 none :: WS, { frames := 1, cells := 8, slots := 39, locals := 20 })
def BX11_init_0 : KT HP :=
  oAld 0 (oPopA (oAld 0 (oConst (.int (-2)) (oPut 11 11 .int (oAld 0 (oConst (.int 4) (oNar 1 zI 4 (oPut 11 18 (.array .int) (oAld 0 (oConst (.int 5) (oNar 1 zI 5 (oPut 11 19 (.array .int) (oAld 0 (oConst (.int 5) (oNar 1 zI 5 (oPut 11 20 (.array .int) (oAld 0 (oConst (.int 5) (oNar 1 zI 5 (oPut 11 21 (.array .int) (oAld 0 (oConst (.int 5) (oNar 1 zI 5 (oPut 11 22 (.array .int) (oAld 0 (oConst (.int 5) (oNar 1 zI 5 (oPut 11 23 (.array .int) (oAld 0 (oConst (.int 5) (oNar 1 zI 5 (oPut 11 24 (.array .int) (oAld 0 (oConst (.int 5) (oNar 2 zJ 5 (oPut 11 25 (.array .long) (oVretH)))))))))))))))))))))))))))))))))))))
set_option maxRecDepth 20000 in
theorem sBX11_init_0 : Snd XX11_init fVH 0 (BX11_init_0) (8) (39) := by
  unfold BX11_init_0
  refine s_Aldn 0 rfl 1 dX11_init_0 rfl ?_
  refine s_objI 4 tw_1439 tw_31 tw_32 (by decide) (by decide) dX11_init_1 rfl ?_
  refine s_Aldn 0 rfl 5 dX11_init_4 rfl ?_
  refine s_bipush 7 (-2) (by decide) dX11_init_5 rfl ?_
  refine s_put 11 11 10 clX11 (by decide) rfl rfl pVH tw_1454 dX11_init_7 rfl ?_
  refine s_Aldn 0 rfl 11 dX11_init_10 rfl ?_
  refine s_iconst 12 4 (by decide) dX11_init_11 rfl ?_
  refine s_narI (mc := 7) (ms := 35) 4 14 (by decide) pVH tw_126 dX11_init_12 rfl ?_
  refine s_putF 11 18 17 clX11 (by decide) rfl rfl rfl rfl pVH tw_1462 dX11_init_14 rfl ?_
  refine s_Aldn 0 rfl 18 dX11_init_17 rfl ?_
  refine s_iconst 19 5 (by decide) dX11_init_18 rfl ?_
  refine s_narI (mc := 6) (ms := 30) 5 21 (by decide) pVH tw_126 dX11_init_19 rfl ?_
  refine s_putF 11 19 24 clX11 (by decide) rfl rfl rfl rfl pVH tw_1464 dX11_init_21 rfl ?_
  refine s_Aldn 0 rfl 25 dX11_init_24 rfl ?_
  refine s_iconst 26 5 (by decide) dX11_init_25 rfl ?_
  refine s_narI (mc := 5) (ms := 25) 5 28 (by decide) pVH tw_126 dX11_init_26 rfl ?_
  refine s_putF 11 20 31 clX11 (by decide) rfl rfl rfl rfl pVH tw_1466 dX11_init_28 rfl ?_
  refine s_Aldn 0 rfl 32 dX11_init_31 rfl ?_
  refine s_iconst 33 5 (by decide) dX11_init_32 rfl ?_
  refine s_narI (mc := 4) (ms := 20) 5 35 (by decide) pVH tw_126 dX11_init_33 rfl ?_
  refine s_putF 11 21 38 clX11 (by decide) rfl rfl rfl rfl pVH tw_1468 dX11_init_35 rfl ?_
  refine s_Aldn 0 rfl 39 dX11_init_38 rfl ?_
  refine s_iconst 40 5 (by decide) dX11_init_39 rfl ?_
  refine s_narI (mc := 3) (ms := 15) 5 42 (by decide) pVH tw_126 dX11_init_40 rfl ?_
  refine s_putF 11 22 45 clX11 (by decide) rfl rfl rfl rfl pVH tw_1470 dX11_init_42 rfl ?_
  refine s_Aldn 0 rfl 46 dX11_init_45 rfl ?_
  refine s_iconst 47 5 (by decide) dX11_init_46 rfl ?_
  refine s_narI (mc := 2) (ms := 10) 5 49 (by decide) pVH tw_126 dX11_init_47 rfl ?_
  refine s_putF 11 23 52 clX11 (by decide) rfl rfl rfl rfl pVH tw_1472 dX11_init_49 rfl ?_
  refine s_Aldn 0 rfl 53 dX11_init_52 rfl ?_
  refine s_iconst 54 5 (by decide) dX11_init_53 rfl ?_
  refine s_narI (mc := 1) (ms := 5) 5 56 (by decide) pVH tw_126 dX11_init_54 rfl ?_
  refine s_putF 11 24 59 clX11 (by decide) rfl rfl rfl rfl pVH tw_1474 dX11_init_56 rfl ?_
  refine s_Aldn 0 rfl 60 dX11_init_59 rfl ?_
  refine s_iconst 61 5 (by decide) dX11_init_60 rfl ?_
  refine s_narJ (mc := 0) (ms := 0) 5 63 (by decide) pVH tw_125 dX11_init_61 rfl ?_
  refine s_putF 11 25 66 clX11 (by decide) rfl rfl rfl rfl pVH tw_1476 dX11_init_63 rfl ?_
  exact s_vretH rfl dX11_init_66
def EX11_init : List Value → HP → Option HP := en 1 BX11_init_0
theorem cmX11_init : CM XX11_init EX11_init fVH 8 39 := CM.of rfl (by decide) rfl rfl sBX11_init_0
theorem yoX11_init : YO XX11_init 0 8 39 := ⟨tw_1438, rfl, tw_19, (by decide +kernel), rfl, rfl⟩
abbrev XX11_cells : MX := (yX11_cells, cX11_cells, 1, (Option.some .int), Cond.code yX11_cells cX11_cells 1 (Option.some .int) :: WS, { frames := 0, cells := 0, slots := 0, locals := 0 })
def BX11_cells_0 : KT Int32 :=
  oAld 0 (oGet 11 0 (oAld 0 (oGet 11 1 (oimul (oIretP)))))
set_option maxRecDepth 20000 in
theorem sBX11_cells_0 : Snd XX11_cells fI 0 (BX11_cells_0) (0) (0) := by
  unfold BX11_cells_0
  refine s_Aldn 0 rfl 1 dX11_cells_0 rfl ?_
  refine s_get 11 0 4 clX11 (by decide) tw_1440 dX11_cells_1 rfl ?_
  refine s_Aldn 0 rfl 5 dX11_cells_4 rfl ?_
  refine s_get 11 1 8 clX11 (by decide) tw_1442 dX11_cells_5 rfl ?_
  refine s_imul 9 dX11_cells_8 rfl ?_
  exact s_iretP rfl dX11_cells_9
def EX11_cells : List Value → HP → Option Int32 := en 1 BX11_cells_0
theorem cmX11_cells : CM XX11_cells EX11_cells fI 0 0 := CM.of rfl (by decide) rfl rfl sBX11_cells_0
theorem yoX11_cells : YO XX11_cells 0 0 0 := ⟨tw_1717, rfl, tw_19, (by decide +kernel), rfl, rfl⟩
abbrev XX11_to : MX := (yX11_to, cX11_to, 4, (Option.some .int), Cond.code yX11_to cX11_to 4 (Option.some .int) :: WS, { frames := 1, cells := 0, slots := 0, locals := 20 })
def BX11_to_0 : KT Int32 :=
  oIld 1 (oAld 0 (oGet 11 0 (oirem (oIst 3 (oIld 2 (oTab 0 [(oIld 1 (oAld 0 (oGet 11 0 (oCmplt (oConst (.int (-1)) (oIretP)) (oIld 1 (oAld 0 (oGet 11 0 (oisub (oIretP))))))))), (oIld 3 (oConst (.int 1) (oiadd (oAld 0 (oGet 11 0 (oCmpge (oConst (.int (-1)) (oIretP)) (oIld 1 (oConst (.int 1) (oiadd (oIretP)))))))))), (oIld 1 (oAld 0 (oGet 11 0 (oiadd (oAld 0 (oCal 1 (some 11) EX11_cells fI (oCmpge (oConst (.int (-1)) (oIretP)) (oIld 1 (oAld 0 (oGet 11 0 (oiadd (oIretP))))))))))))] (oIld 3 (oIfle (oConst (.int (-1)) (oIretP)) (oIld 1 (oConst (.int 1) (oisub (oIretP))))))))))))
set_option maxRecDepth 20000 in
theorem sBX11_to_0 : Snd XX11_to fI 0 (BX11_to_0) (0) (0) := by
  unfold BX11_to_0
  refine s_Ildn 1 rfl 1 dX11_to_0 rfl ?_
  refine s_Aldn 0 rfl 2 dX11_to_1 rfl ?_
  refine s_get 11 0 5 clX11 (by decide) tw_1440 dX11_to_2 rfl ?_
  refine s_irem 6 dX11_to_5 rfl ?_
  refine s_Istn 3 rfl 7 (by decide) dX11_to_6 rfl ?_
  refine s_Ildn 2 rfl 8 dX11_to_7 rfl ?_
  refine s_tab 0 2 0 [36, 55, 73] 97 dX11_to_8 rfl (by decide) (by decide) (by decide) (by decide) (by decide) ?_ ?_
  · refine s_Ildn 3 rfl 98 dX11_to_97 rfl ?_
    refine s_ifle 107 101 dX11_to_98 (by decide) rfl ?_ ?_
    · refine s_iconst 108 (-1) (by decide) dX11_to_107 rfl ?_
      exact s_iretP rfl dX11_to_108
    · refine s_Ildn 1 rfl 102 dX11_to_101 rfl ?_
      refine s_iconst 103 1 (by decide) dX11_to_102 rfl ?_
      refine s_isub 104 dX11_to_103 rfl ?_
      refine s_goto 108 dX11_to_104 (by decide) ?_
      exact s_iretP rfl dX11_to_108
  · refine Sall_cons ?_ ?_
    · refine s_Ildn 1 rfl 37 dX11_to_36 rfl ?_
      refine s_Aldn 0 rfl 38 dX11_to_37 rfl ?_
      refine s_get 11 0 41 clX11 (by decide) tw_1440 dX11_to_38 rfl ?_
      refine s_cmplt 53 44 dX11_to_41 (by decide) rfl ?_ ?_
      · refine s_iconst 54 (-1) (by decide) dX11_to_53 rfl ?_
        exact s_iretP rfl dX11_to_54
      · refine s_Ildn 1 rfl 45 dX11_to_44 rfl ?_
        refine s_Aldn 0 rfl 46 dX11_to_45 rfl ?_
        refine s_get 11 0 49 clX11 (by decide) tw_1440 dX11_to_46 rfl ?_
        refine s_isub 50 dX11_to_49 rfl ?_
        refine s_goto 54 dX11_to_50 (by decide) ?_
        exact s_iretP rfl dX11_to_54
    · refine Sall_cons ?_ ?_
      · refine s_Ildn 3 rfl 56 dX11_to_55 rfl ?_
        refine s_iconst 57 1 (by decide) dX11_to_56 rfl ?_
        refine s_iadd 58 dX11_to_57 rfl ?_
        refine s_Aldn 0 rfl 59 dX11_to_58 rfl ?_
        refine s_get 11 0 62 clX11 (by decide) tw_1440 dX11_to_59 rfl ?_
        refine s_cmpge 71 65 dX11_to_62 (by decide) rfl ?_ ?_
        · refine s_iconst 72 (-1) (by decide) dX11_to_71 rfl ?_
          exact s_iretP rfl dX11_to_72
        · refine s_Ildn 1 rfl 66 dX11_to_65 rfl ?_
          refine s_iconst 67 1 (by decide) dX11_to_66 rfl ?_
          refine s_iadd 68 dX11_to_67 rfl ?_
          refine s_goto 72 dX11_to_68 (by decide) ?_
          exact s_iretP rfl dX11_to_72
      · refine Sall_cons ?_ ?_
        · refine s_Ildn 1 rfl 74 dX11_to_73 rfl ?_
          refine s_Aldn 0 rfl 75 dX11_to_74 rfl ?_
          refine s_get 11 0 78 clX11 (by decide) tw_1440 dX11_to_75 rfl ?_
          refine s_iadd 79 dX11_to_78 rfl ?_
          refine s_Aldn 0 rfl 80 dX11_to_79 rfl ?_
          refine s_cal0 83 (run_V (X := XX11_to) rfl clX11 yoX11_cells rfl tw_1714 tw_1715 tw_1716 (by decide) dX11_to_80) cmX11_cells (fun _ _ _ => rfl) rfl ?_
          refine s_cmpge 95 86 dX11_to_83 (by decide) rfl ?_ ?_
          · refine s_iconst 96 (-1) (by decide) dX11_to_95 rfl ?_
            exact s_iretP rfl dX11_to_96
          · refine s_Ildn 1 rfl 87 dX11_to_86 rfl ?_
            refine s_Aldn 0 rfl 88 dX11_to_87 rfl ?_
            refine s_get 11 0 91 clX11 (by decide) tw_1440 dX11_to_88 rfl ?_
            refine s_iadd 92 dX11_to_91 rfl ?_
            refine s_goto 96 dX11_to_92 (by decide) ?_
            exact s_iretP rfl dX11_to_96
        · exact Sall_nil
def EX11_to : List Value → HP → Option Int32 := en 4 BX11_to_0
theorem cmX11_to : CM XX11_to EX11_to fI 0 0 := CM.of rfl (by decide) rfl rfl sBX11_to_0
theorem yoX11_to : YO XX11_to 2 0 0 := ⟨tw_1713, rfl, tw_19, (by decide +kernel), rfl, rfl⟩
abbrev XX11_isStart : MX := (yX11_isStart, cX11_isStart, 3, (Option.some .boolean), Cond.code yX11_isStart cX11_isStart 3 (Option.some .boolean) :: WS, { frames := 0, cells := 0, slots := 0, locals := 0 })
def BX11_isStart_2 (k2 : KT Bool) : KT Bool :=
  oIld 2 (oAld 0 (oGet 11 10 (oCmpge (oConst (.int 0) (oZretP)) (oAld 0 (oGet 11 22 (oIld 2 (oIa (oIld 1 (oCmpne (oInc 2 1 (oPick [0, 1, 2] k2)) (oConst (.int 1) (oZretP)))))))))))
set_option maxRecDepth 20000 in
theorem sBX11_isStart_2 {k2 : KT Bool} (hk2 : Snd XX11_isStart fZ 2 k2 0 0) : Snd XX11_isStart fZ 2 (BX11_isStart_2 k2) (0) (0) := by
  unfold BX11_isStart_2
  refine s_Ildn 2 rfl 3 dX11_isStart_2 rfl ?_
  refine s_Aldn 0 rfl 4 dX11_isStart_3 rfl ?_
  refine s_get 11 10 7 clX11 (by decide) tw_1452 dX11_isStart_4 rfl ?_
  refine s_cmpge 28 10 dX11_isStart_7 (by decide) rfl ?_ ?_
  · refine s_iconst 29 0 (by decide) dX11_isStart_28 rfl ?_
    exact s_zretP rfl dX11_isStart_29
  · refine s_Aldn 0 rfl 11 dX11_isStart_10 rfl ?_
    refine s_get 11 22 14 clX11 (by decide) tw_1470 dX11_isStart_11 rfl ?_
    refine s_Ildn 2 rfl 15 dX11_isStart_14 rfl ?_
    refine s_Ia 16 dX11_isStart_15 rfl ?_
    refine s_Ildn 1 rfl 17 dX11_isStart_16 rfl ?_
    refine s_cmpne 22 20 dX11_isStart_17 (by decide) rfl ?_ ?_
    · refine s_inc 2 1 25 (by decide) (by decide) dX11_isStart_22 rfl ?_
      refine s_goto 2 dX11_isStart_25 (by decide) ?_
      exact s_pick hk2
    · refine s_iconst 21 1 (by decide) dX11_isStart_20 rfl ?_
      exact s_zretP rfl dX11_isStart_21
def BX11_isStart_0 : KT Bool :=
  oConst (.int 0) (oIst 2 (oPick [0, 1, 2] (lp (BX11_isStart_2) FU)))
set_option maxRecDepth 20000 in
theorem sBX11_isStart_0 : Snd XX11_isStart fZ 0 (BX11_isStart_0) (0) (0) := by
  unfold BX11_isStart_0
  refine s_iconst 1 0 (by decide) dX11_isStart_0 rfl ?_
  refine s_Istn 2 rfl 2 (by decide) dX11_isStart_1 rfl ?_
  exact s_pick (s_lp (fun k hk => sBX11_isStart_2  hk) FU)
def EX11_isStart : List Value → HP → Option Bool := en 3 BX11_isStart_0
theorem cmX11_isStart : CM XX11_isStart EX11_isStart fZ 0 0 := CM.of rfl (by decide) rfl rfl sBX11_isStart_0
theorem yoX11_isStart : YO XX11_isStart 1 0 0 := ⟨tw_1969, rfl, tw_19, (by decide +kernel), rfl, rfl⟩
abbrev XX12_init : MX := (yX12_init, cX12_init, 1, none, Cond.code yX12_init cX12_init 1 none :: WS, { frames := 1, cells := 15, slots := 50904, locals := 20 })
def BX12_init_0 : KT HP :=
  oAld 0 (oPopA (oAld 0 (oConst (.int (-1)) (oPut 12 2 .int (oAld 0 (oConst (.int 900) (oNar 0 zI 900 (oPut 12 5 (.array .byte) (oAld 0 (oConst (.int 8) (oNar 1 zI 8 (oPut 12 16 (.array .int) (oAld 0 (oConst (.int 48) (oNar 1 zI 48 (oPut 12 22 (.array .int) (oAld 0 (oConst (.int 48) (oNar 1 zI 48 (oPut 12 23 (.array .int) (oAld 0 (oConst (.int 48) (oNar 1 zI 48 (oPut 12 27 (.array .int) (oAld 0 (oConst (.int 48) (oNar 1 zI 48 (oPut 12 28 (.array .int) (oAld 0 (oConst (.int 201) (oNar 1 zI 201 (oPut 12 29 (.array .int) (oAld 0 (oConst (.int 201) (oNar 1 zI 201 (oPut 12 30 (.array .int) (oAld 0 (oConst (.int 192) (oNar 1 zI 192 (oPut 12 32 (.array .int) (oAld 0 (oConst (.int 49152) (oNar 1 zI 49152 (oPut 12 34 (.array .int) (oAld 0 (oConst (.int 12) (oNar 1 zI 12 (oPut 12 35 (.array .int) (oAld 0 (oConst (.int 20) (oNar 2 zJ 20 (oPut 12 37 (.array .long) (oAld 0 (oConst (.int 3) (oNar 2 zJ 3 (oPut 12 38 (.array .long) (oAld 0 (oConst (.int 20) (oNar 1 zI 20 (oPut 12 39 (.array .int) (oAld 0 (oConst (.int 3) (oNar 1 zI 3 (oPut 12 40 (.array .int) (oVretH)))))))))))))))))))))))))))))))))))))))))))))))))))))))))))))))))
set_option maxRecDepth 20000 in
theorem sBX12_init_0 : Snd XX12_init fVH 0 (BX12_init_0) (15) (50904) := by
  unfold BX12_init_0
  refine s_Aldn 0 rfl 1 dX12_init_0 rfl ?_
  refine s_objI 4 tw_1286 tw_31 tw_32 (by decide) (by decide) dX12_init_1 rfl ?_
  refine s_Aldn 0 rfl 5 dX12_init_4 rfl ?_
  refine s_iconst 6 (-1) (by decide) dX12_init_5 rfl ?_
  refine s_put 12 2 9 clX12 (by decide) rfl rfl pVH tw_1290 dX12_init_6 rfl ?_
  refine s_Aldn 0 rfl 10 dX12_init_9 rfl ?_
  refine s_sipush 13 900 (by decide) dX12_init_10 rfl ?_
  refine s_narB (mc := 14) (ms := 50004) 900 15 (by decide) pVH tw_46 dX12_init_13 rfl ?_
  refine s_putF 12 5 18 clX12 (by decide) rfl rfl rfl rfl pVH tw_1293 dX12_init_15 rfl ?_
  refine s_Aldn 0 rfl 19 dX12_init_18 rfl ?_
  refine s_bipush 21 8 (by decide) dX12_init_19 rfl ?_
  refine s_narI (mc := 13) (ms := 49996) 8 23 (by decide) pVH tw_126 dX12_init_21 rfl ?_
  refine s_putF 12 16 26 clX12 (by decide) rfl rfl rfl rfl pVH tw_1304 dX12_init_23 rfl ?_
  refine s_Aldn 0 rfl 27 dX12_init_26 rfl ?_
  refine s_bipush 29 48 (by decide) dX12_init_27 rfl ?_
  refine s_narI (mc := 12) (ms := 49948) 48 31 (by decide) pVH tw_126 dX12_init_29 rfl ?_
  refine s_putF 12 22 34 clX12 (by decide) rfl rfl rfl rfl pVH tw_1310 dX12_init_31 rfl ?_
  refine s_Aldn 0 rfl 35 dX12_init_34 rfl ?_
  refine s_bipush 37 48 (by decide) dX12_init_35 rfl ?_
  refine s_narI (mc := 11) (ms := 49900) 48 39 (by decide) pVH tw_126 dX12_init_37 rfl ?_
  refine s_putF 12 23 42 clX12 (by decide) rfl rfl rfl rfl pVH tw_1311 dX12_init_39 rfl ?_
  refine s_Aldn 0 rfl 43 dX12_init_42 rfl ?_
  refine s_bipush 45 48 (by decide) dX12_init_43 rfl ?_
  refine s_narI (mc := 10) (ms := 49852) 48 47 (by decide) pVH tw_126 dX12_init_45 rfl ?_
  refine s_putF 12 27 50 clX12 (by decide) rfl rfl rfl rfl pVH tw_1315 dX12_init_47 rfl ?_
  refine s_Aldn 0 rfl 51 dX12_init_50 rfl ?_
  refine s_bipush 53 48 (by decide) dX12_init_51 rfl ?_
  refine s_narI (mc := 9) (ms := 49804) 48 55 (by decide) pVH tw_126 dX12_init_53 rfl ?_
  refine s_putF 12 28 58 clX12 (by decide) rfl rfl rfl rfl pVH tw_1316 dX12_init_55 rfl ?_
  refine s_Aldn 0 rfl 59 dX12_init_58 rfl ?_
  refine s_sipush 62 201 (by decide) dX12_init_59 rfl ?_
  refine s_narI (mc := 8) (ms := 49603) 201 64 (by decide) pVH tw_126 dX12_init_62 rfl ?_
  refine s_putF 12 29 67 clX12 (by decide) rfl rfl rfl rfl pVH tw_1317 dX12_init_64 rfl ?_
  refine s_Aldn 0 rfl 68 dX12_init_67 rfl ?_
  refine s_sipush 71 201 (by decide) dX12_init_68 rfl ?_
  refine s_narI (mc := 7) (ms := 49402) 201 73 (by decide) pVH tw_126 dX12_init_71 rfl ?_
  refine s_putF 12 30 76 clX12 (by decide) rfl rfl rfl rfl pVH tw_1318 dX12_init_73 rfl ?_
  refine s_Aldn 0 rfl 77 dX12_init_76 rfl ?_
  refine s_sipush 80 192 (by decide) dX12_init_77 rfl ?_
  refine s_narI (mc := 6) (ms := 49210) 192 82 (by decide) pVH tw_126 dX12_init_80 rfl ?_
  refine s_putF 12 32 85 clX12 (by decide) rfl rfl rfl rfl pVH tw_1320 dX12_init_82 rfl ?_
  refine s_Aldn 0 rfl 86 dX12_init_85 rfl ?_
  refine s_ldc 88 49152 tw_1287 dX12_init_86 rfl ?_
  refine s_narI (mc := 5) (ms := 58) 49152 90 (by decide) pVH tw_126 dX12_init_88 rfl ?_
  refine s_putF 12 34 93 clX12 (by decide) rfl rfl rfl rfl pVH tw_1322 dX12_init_90 rfl ?_
  refine s_Aldn 0 rfl 94 dX12_init_93 rfl ?_
  refine s_bipush 96 12 (by decide) dX12_init_94 rfl ?_
  refine s_narI (mc := 4) (ms := 46) 12 98 (by decide) pVH tw_126 dX12_init_96 rfl ?_
  refine s_putF 12 35 101 clX12 (by decide) rfl rfl rfl rfl pVH tw_1323 dX12_init_98 rfl ?_
  refine s_Aldn 0 rfl 102 dX12_init_101 rfl ?_
  refine s_bipush 104 20 (by decide) dX12_init_102 rfl ?_
  refine s_narJ (mc := 3) (ms := 26) 20 106 (by decide) pVH tw_125 dX12_init_104 rfl ?_
  refine s_putF 12 37 109 clX12 (by decide) rfl rfl rfl rfl pVH tw_1325 dX12_init_106 rfl ?_
  refine s_Aldn 0 rfl 110 dX12_init_109 rfl ?_
  refine s_iconst 111 3 (by decide) dX12_init_110 rfl ?_
  refine s_narJ (mc := 2) (ms := 23) 3 113 (by decide) pVH tw_125 dX12_init_111 rfl ?_
  refine s_putF 12 38 116 clX12 (by decide) rfl rfl rfl rfl pVH tw_1326 dX12_init_113 rfl ?_
  refine s_Aldn 0 rfl 117 dX12_init_116 rfl ?_
  refine s_bipush 119 20 (by decide) dX12_init_117 rfl ?_
  refine s_narI (mc := 1) (ms := 3) 20 121 (by decide) pVH tw_126 dX12_init_119 rfl ?_
  refine s_putF 12 39 124 clX12 (by decide) rfl rfl rfl rfl pVH tw_1327 dX12_init_121 rfl ?_
  refine s_Aldn 0 rfl 125 dX12_init_124 rfl ?_
  refine s_iconst 126 3 (by decide) dX12_init_125 rfl ?_
  refine s_narI (mc := 0) (ms := 0) 3 128 (by decide) pVH tw_126 dX12_init_126 rfl ?_
  refine s_putF 12 40 131 clX12 (by decide) rfl rfl rfl rfl pVH tw_1328 dX12_init_128 rfl ?_
  exact s_vretH rfl dX12_init_131
def EX12_init : List Value → HP → Option HP := en 1 BX12_init_0
theorem cmX12_init : CM XX12_init EX12_init fVH 15 50904 := CM.of rfl (by decide) rfl rfl sBX12_init_0
theorem yoX12_init : YO XX12_init 0 15 50904 := ⟨tw_1285, rfl, tw_12, (by decide +kernel), rfl, rfl⟩
abbrev XX12_thrown : MX := (yX12_thrown, cX12_thrown, 1, (Option.some .int), Cond.code yX12_thrown cX12_thrown 1 (Option.some .int) :: WS, { frames := 0, cells := 0, slots := 0, locals := 0 })
def BX12_thrown_0 : KT Int32 :=
  oAld 0 (oGet 12 0 (oIretP))
set_option maxRecDepth 20000 in
theorem sBX12_thrown_0 : Snd XX12_thrown fI 0 (BX12_thrown_0) (0) (0) := by
  unfold BX12_thrown_0
  refine s_Aldn 0 rfl 1 dX12_thrown_0 rfl ?_
  refine s_get 12 0 4 clX12 (by decide) tw_1288 dX12_thrown_1 rfl ?_
  exact s_iretP rfl dX12_thrown_4
def EX12_thrown : List Value → HP → Option Int32 := en 1 BX12_thrown_0
theorem cmX12_thrown : CM XX12_thrown EX12_thrown fI 0 0 := CM.of rfl (by decide) rfl rfl sBX12_thrown_0
theorem yoX12_thrown : YO XX12_thrown 0 0 0 := ⟨tw_1421, rfl, tw_12, (by decide +kernel), rfl, rfl⟩
abbrev XX12_refused : MX := (yX12_refused, cX12_refused, 2, (Option.some .int), Cond.code yX12_refused cX12_refused 2 (Option.some .int) :: WS, { frames := 0, cells := 0, slots := 0, locals := 0 })
def BX12_refused_0 : KT (Int32 × HP) :=
  oAld 0 (oIld 1 (oPut 12 1 .int (oAld 0 (oConst (.int (-1)) (oPut 12 2 .int (oConst (.int (-1)) (oIretH)))))))
set_option maxRecDepth 20000 in
theorem sBX12_refused_0 : Snd XX12_refused fIH 0 (BX12_refused_0) (0) (0) := by
  unfold BX12_refused_0
  refine s_Aldn 0 rfl 1 dX12_refused_0 rfl ?_
  refine s_Ildn 1 rfl 2 dX12_refused_1 rfl ?_
  refine s_put 12 1 5 clX12 (by decide) rfl rfl pIH tw_1289 dX12_refused_2 rfl ?_
  refine s_Aldn 0 rfl 6 dX12_refused_5 rfl ?_
  refine s_iconst 7 (-1) (by decide) dX12_refused_6 rfl ?_
  refine s_put 12 2 10 clX12 (by decide) rfl rfl pIH tw_1290 dX12_refused_7 rfl ?_
  refine s_iconst 11 (-1) (by decide) dX12_refused_10 rfl ?_
  exact s_iretH rfl dX12_refused_11
def EX12_refused : List Value → HP → Option (Int32 × HP) := en 2 BX12_refused_0
theorem cmX12_refused : CM XX12_refused EX12_refused fIH 0 0 := CM.of rfl (by decide) rfl rfl sBX12_refused_0
theorem yoX12_refused : YO XX12_refused 1 0 0 := ⟨tw_1433, rfl, tw_12, (by decide +kernel), rfl, rfl⟩
abbrev XX12_denied : MX := (yX12_denied, cX12_denied, 2, (Option.some .boolean), Cond.code yX12_denied cX12_denied 2 (Option.some .boolean) :: WS, { frames := 1, cells := 0, slots := 0, locals := 21 })
def BX12_denied_0 : KT (Bool × HP) :=
  oAld 0 (oIld 1 (oCal 2 (some 12) EX12_refused fIH (opop (oConst (.int 0) (oZretH)))))
set_option maxRecDepth 20000 in
theorem sBX12_denied_0 : Snd XX12_denied fZH 0 (BX12_denied_0) (0) (0) := by
  unfold BX12_denied_0
  refine s_Aldn 0 rfl 1 dX12_denied_0 rfl ?_
  refine s_Ildn 1 rfl 2 dX12_denied_1 rfl ?_
  refine s_cal0 5 (run_V (X := XX12_denied) rfl clX12 yoX12_refused rfl tw_1430 tw_1432 tw_p50 (by decide) dX12_denied_2) cmX12_refused (fun _ _ _ => rfl) rfl ?_
  refine s_pop 6 dX12_denied_5 rfl ?_
  refine s_iconst 7 0 (by decide) dX12_denied_6 rfl ?_
  exact s_zretH rfl dX12_denied_7
def EX12_denied : List Value → HP → Option (Bool × HP) := en 2 BX12_denied_0
theorem cmX12_denied : CM XX12_denied EX12_denied fZH 0 0 := CM.of rfl (by decide) rfl rfl sBX12_denied_0
theorem yoX12_denied : YO XX12_denied 1 0 0 := ⟨tw_1985, rfl, tw_12, (by decide +kernel), rfl, rfl⟩
abbrev XX12_good : MX := (yX12_good, cX12_good, 2, (Option.some .int), Cond.code yX12_good cX12_good 2 (Option.some .int) :: WS, { frames := 0, cells := 0, slots := 0, locals := 0 })
def BX12_good_0 : KT (Int32 × HP) :=
  oAld 0 (oConst (.int 0) (oPut 12 1 .int (oAld 0 (oConst (.int (-1)) (oPut 12 2 .int (oIld 1 (oIretH)))))))
set_option maxRecDepth 20000 in
theorem sBX12_good_0 : Snd XX12_good fIH 0 (BX12_good_0) (0) (0) := by
  unfold BX12_good_0
  refine s_Aldn 0 rfl 1 dX12_good_0 rfl ?_
  refine s_iconst 2 0 (by decide) dX12_good_1 rfl ?_
  refine s_put 12 1 5 clX12 (by decide) rfl rfl pIH tw_1289 dX12_good_2 rfl ?_
  refine s_Aldn 0 rfl 6 dX12_good_5 rfl ?_
  refine s_iconst 7 (-1) (by decide) dX12_good_6 rfl ?_
  refine s_put 12 2 10 clX12 (by decide) rfl rfl pIH tw_1290 dX12_good_7 rfl ?_
  refine s_Ildn 1 rfl 11 dX12_good_10 rfl ?_
  exact s_iretH rfl dX12_good_11
def EX12_good : List Value → HP → Option (Int32 × HP) := en 2 BX12_good_0
theorem cmX12_good : CM XX12_good EX12_good fIH 0 0 := CM.of rfl (by decide) rfl rfl sBX12_good_0
theorem yoX12_good : YO XX12_good 1 0 0 := ⟨tw_1681, rfl, tw_12, (by decide +kernel), rfl, rfl⟩
abbrev XX12_granted : MX := (yX12_granted, cX12_granted, 1, (Option.some .boolean), Cond.code yX12_granted cX12_granted 1 (Option.some .boolean) :: WS, { frames := 1, cells := 0, slots := 0, locals := 21 })
def BX12_granted_0 : KT (Bool × HP) :=
  oAld 0 (oConst (.int 0) (oCal 2 (some 12) EX12_good fIH (opop (oConst (.int 1) (oZretH)))))
set_option maxRecDepth 20000 in
theorem sBX12_granted_0 : Snd XX12_granted fZH 0 (BX12_granted_0) (0) (0) := by
  unfold BX12_granted_0
  refine s_Aldn 0 rfl 1 dX12_granted_0 rfl ?_
  refine s_iconst 2 0 (by decide) dX12_granted_1 rfl ?_
  refine s_cal0 5 (run_V (X := XX12_granted) rfl clX12 yoX12_good rfl tw_1678 tw_1680 tw_p76 (by decide) dX12_granted_2) cmX12_good (fun _ _ _ => rfl) rfl ?_
  refine s_pop 6 dX12_granted_5 rfl ?_
  refine s_iconst 7 1 (by decide) dX12_granted_6 rfl ?_
  exact s_zretH rfl dX12_granted_7
def EX12_granted : List Value → HP → Option (Bool × HP) := en 1 BX12_granted_0
theorem cmX12_granted : CM XX12_granted EX12_granted fZH 0 0 := CM.of rfl (by decide) rfl rfl sBX12_granted_0
theorem yoX12_granted : YO XX12_granted 0 0 0 := ⟨tw_1993, rfl, tw_12, (by decide +kernel), rfl, rfl⟩
abbrev XX12_in : MX := (yX12_in, cX12_in, 3, (Option.some .boolean), Cond.code yX12_in cX12_in 3 (Option.some .boolean) :: WS, { frames := 0, cells := 0, slots := 0, locals := 0 })
def BX12_in_0 : KT Bool :=
  oIld 0 (oIld 1 (oCmplt (oConst (.int 0) (oZretP)) (oIld 0 (oIld 2 (oCmpgt (oConst (.int 0) (oZretP)) (oConst (.int 1) (oZretP)))))))
set_option maxRecDepth 20000 in
theorem sBX12_in_0 : Snd XX12_in fZ 0 (BX12_in_0) (0) (0) := by
  unfold BX12_in_0
  refine s_Ildn 0 rfl 1 dX12_in_0 rfl ?_
  refine s_Ildn 1 rfl 2 dX12_in_1 rfl ?_
  refine s_cmplt 14 5 dX12_in_2 (by decide) rfl ?_ ?_
  · refine s_iconst 15 0 (by decide) dX12_in_14 rfl ?_
    exact s_zretP rfl dX12_in_15
  · refine s_Ildn 0 rfl 6 dX12_in_5 rfl ?_
    refine s_Ildn 2 rfl 7 dX12_in_6 rfl ?_
    refine s_cmpgt 14 10 dX12_in_7 (by decide) rfl ?_ ?_
    · refine s_iconst 15 0 (by decide) dX12_in_14 rfl ?_
      exact s_zretP rfl dX12_in_15
    · refine s_iconst 11 1 (by decide) dX12_in_10 rfl ?_
      refine s_goto 15 dX12_in_11 (by decide) ?_
      exact s_zretP rfl dX12_in_15
def EX12_in : List Value → HP → Option Bool := en 3 BX12_in_0
theorem cmX12_in : CM XX12_in EX12_in fZ 0 0 := CM.of rfl (by decide) rfl rfl sBX12_in_0
theorem yoX12_in : YO XX12_in 3 0 0 := ⟨tw_1591, rfl, tw_12, (by decide +kernel), rfl, rfl⟩
abbrev XX12_has : MX := (yX12_has, cX12_has, 3, (Option.some .boolean), Cond.code yX12_has cX12_has 3 (Option.some .boolean) :: WS, { frames := 0, cells := 0, slots := 0, locals := 0 })
def BX12_has_0 : KT Bool :=
  oLld 0 (oIld 2 (olshr (oConst (.long 1) (oland (oConst (.long 1) (olcmp (oIfne (oConst (.int 0) (oZretP)) (oConst (.int 1) (oZretP)))))))))
set_option maxRecDepth 20000 in
theorem sBX12_has_0 : Snd XX12_has fZ 0 (BX12_has_0) (0) (0) := by
  unfold BX12_has_0
  refine s_Lldn 0 rfl 1 dX12_has_0 rfl ?_
  refine s_Ildn 2 rfl 2 dX12_has_1 rfl ?_
  refine s_lshr 3 dX12_has_2 rfl ?_
  refine s_lconst 4 1 (by decide) dX12_has_3 rfl ?_
  refine s_land 5 dX12_has_4 rfl ?_
  refine s_lconst 6 1 (by decide) dX12_has_5 rfl ?_
  refine s_lcmp 7 dX12_has_6 rfl ?_
  refine s_ifne 14 10 dX12_has_7 (by decide) rfl ?_ ?_
  · refine s_iconst 15 0 (by decide) dX12_has_14 rfl ?_
    exact s_zretP rfl dX12_has_15
  · refine s_iconst 11 1 (by decide) dX12_has_10 rfl ?_
    refine s_goto 15 dX12_has_11 (by decide) ?_
    exact s_zretP rfl dX12_has_15
def EX12_has : List Value → HP → Option Bool := en 3 BX12_has_0
theorem cmX12_has : CM XX12_has EX12_has fZ 0 0 := CM.of rfl (by decide) rfl rfl sBX12_has_0
theorem yoX12_has : YO XX12_has 2 0 0 := ⟨tw_1630, rfl, tw_12, (by decide +kernel), rfl, rfl⟩
abbrev XX12_bits : MX := (yX12_bits, cX12_bits, 5, (Option.some .int), Cond.code yX12_bits cX12_bits 5 (Option.some .int) :: WS, { frames := 0, cells := 0, slots := 0, locals := 0 })
def BX12_bits_4 (k4 : KT Int32) : KT Int32 :=
  oLld 3 (oConst (.long 0) (olcmp (oIfeq (oIld 2 (oIretP)) (oInc 2 1 (oLld 3 (oLld 3 (oConst (.long 1) (olsub (oland (oLst 3 (oPick [2, 3] k4)))))))))))
set_option maxRecDepth 20000 in
theorem sBX12_bits_4 {k4 : KT Int32} (hk4 : Snd XX12_bits fI 4 k4 0 0) : Snd XX12_bits fI 4 (BX12_bits_4 k4) (0) (0) := by
  unfold BX12_bits_4
  refine s_Lldn 3 rfl 5 dX12_bits_4 rfl ?_
  refine s_lconst 6 0 (by decide) dX12_bits_5 rfl ?_
  refine s_lcmp 7 dX12_bits_6 rfl ?_
  refine s_ifeq 22 10 dX12_bits_7 (by decide) rfl ?_ ?_
  · refine s_Ildn 2 rfl 23 dX12_bits_22 rfl ?_
    exact s_iretP rfl dX12_bits_23
  · refine s_inc 2 1 13 (by decide) (by decide) dX12_bits_10 rfl ?_
    refine s_Lldn 3 rfl 14 dX12_bits_13 rfl ?_
    refine s_Lldn 3 rfl 15 dX12_bits_14 rfl ?_
    refine s_lconst 16 1 (by decide) dX12_bits_15 rfl ?_
    refine s_lsub 17 dX12_bits_16 rfl ?_
    refine s_land 18 dX12_bits_17 rfl ?_
    refine s_Lstn 3 rfl 19 (by decide) dX12_bits_18 rfl ?_
    refine s_goto 4 dX12_bits_19 (by decide) ?_
    exact s_pick hk4
def BX12_bits_0 : KT Int32 :=
  oConst (.int 0) (oIst 2 (oLld 0 (oLst 3 (oPick [2, 3] (lp (BX12_bits_4) FU)))))
set_option maxRecDepth 20000 in
theorem sBX12_bits_0 : Snd XX12_bits fI 0 (BX12_bits_0) (0) (0) := by
  unfold BX12_bits_0
  refine s_iconst 1 0 (by decide) dX12_bits_0 rfl ?_
  refine s_Istn 2 rfl 2 (by decide) dX12_bits_1 rfl ?_
  refine s_Lldn 0 rfl 3 dX12_bits_2 rfl ?_
  refine s_Lstn 3 rfl 4 (by decide) dX12_bits_3 rfl ?_
  exact s_pick (s_lp (fun k hk => sBX12_bits_4  hk) FU)
def EX12_bits : List Value → HP → Option Int32 := en 5 BX12_bits_0
theorem cmX12_bits : CM XX12_bits EX12_bits fI 0 0 := CM.of rfl (by decide) rfl rfl sBX12_bits_0
theorem yoX12_bits : YO XX12_bits 1 0 0 := ⟨tw_1677, rfl, tw_12, (by decide +kernel), rfl, rfl⟩
abbrev XX12_first : MX := (yX12_first, cX12_first, 3, (Option.some .int), Cond.code yX12_first cX12_first 3 (Option.some .int) :: WS, { frames := 1, cells := 0, slots := 0, locals := 22 })
def BX12_first_4 (k2 : KT Int32) : KT Int32 :=
  oCal 2 none EX12_has fZ (oIfne (oIld 2 (oIretP)) (oInc 2 1 (oPick [0, 2] k2)))
set_option maxRecDepth 20000 in
theorem sBX12_first_4 {k2 : KT Int32} (hk2 : Snd XX12_first fI 2 k2 0 0) : Snd XX12_first fI 4 (BX12_first_4 k2) (0) (0) := by
  unfold BX12_first_4
  refine s_cal0 7 (run_S (X := XX12_first) yoX12_has tw_1628 tw_1629 (by decide) dX12_first_4) cmX12_has (fun _ _ _ => rfl) rfl ?_
  refine s_ifne 16 10 dX12_first_7 (by decide) rfl ?_ ?_
  · refine s_Ildn 2 rfl 17 dX12_first_16 rfl ?_
    exact s_iretP rfl dX12_first_17
  · refine s_inc 2 1 13 (by decide) (by decide) dX12_first_10 rfl ?_
    refine s_goto 2 dX12_first_13 (by decide) ?_
    exact s_pick hk2
def BX12_first_2 (k2 : KT Int32) : KT Int32 :=
  oLld 0 (oIld 2 (oPick [0, 2] (BX12_first_4 k2)))
set_option maxRecDepth 20000 in
theorem sBX12_first_2 {k2 : KT Int32} (hk2 : Snd XX12_first fI 2 k2 0 0) : Snd XX12_first fI 2 (BX12_first_2 k2) (0) (0) := by
  unfold BX12_first_2
  refine s_Lldn 0 rfl 3 dX12_first_2 rfl ?_
  refine s_Ildn 2 rfl 4 dX12_first_3 rfl ?_
  exact s_pick (sBX12_first_4 hk2)
def BX12_first_0 : KT Int32 :=
  oConst (.int 0) (oIst 2 (oPick [0, 2] (lp (BX12_first_2) FU)))
set_option maxRecDepth 20000 in
theorem sBX12_first_0 : Snd XX12_first fI 0 (BX12_first_0) (0) (0) := by
  unfold BX12_first_0
  refine s_iconst 1 0 (by decide) dX12_first_0 rfl ?_
  refine s_Istn 2 rfl 2 (by decide) dX12_first_1 rfl ?_
  exact s_pick (s_lp (fun k hk => sBX12_first_2  hk) FU)
def EX12_first : List Value → HP → Option Int32 := en 3 BX12_first_0
theorem cmX12_first : CM XX12_first EX12_first fI 0 0 := CM.of rfl (by decide) rfl rfl sBX12_first_0
theorem yoX12_first : YO XX12_first 1 0 0 := ⟨tw_1728, rfl, tw_12, (by decide +kernel), rfl, rfl⟩
abbrev XX12_byteAt : MX := (yX12_byteAt, cX12_byteAt, 2, (Option.some .int), Cond.code yX12_byteAt cX12_byteAt 2 (Option.some .int) :: WS, { frames := 0, cells := 0, slots := 0, locals := 0 })
def BX12_byteAt_0 : KT Int32 :=
  oIld 1 (oAld 0 (oGet 12 7 (oCmpge (oConst (.int (-1)) (oIretP)) (oAld 0 (oGet 12 5 (oIld 1 (oBa (oConst (.int 255) (oiand (oIretP))))))))))
set_option maxRecDepth 20000 in
theorem sBX12_byteAt_0 : Snd XX12_byteAt fI 0 (BX12_byteAt_0) (0) (0) := by
  unfold BX12_byteAt_0
  refine s_Ildn 1 rfl 1 dX12_byteAt_0 rfl ?_
  refine s_Aldn 0 rfl 2 dX12_byteAt_1 rfl ?_
  refine s_get 12 7 5 clX12 (by decide) tw_1295 dX12_byteAt_2 rfl ?_
  refine s_cmpge 21 8 dX12_byteAt_5 (by decide) rfl ?_ ?_
  · refine s_iconst 22 (-1) (by decide) dX12_byteAt_21 rfl ?_
    exact s_iretP rfl dX12_byteAt_22
  · refine s_Aldn 0 rfl 9 dX12_byteAt_8 rfl ?_
    refine s_get 12 5 12 clX12 (by decide) tw_1293 dX12_byteAt_9 rfl ?_
    refine s_Ildn 1 rfl 13 dX12_byteAt_12 rfl ?_
    refine s_Ba 14 dX12_byteAt_13 rfl ?_
    refine s_sipush 17 255 (by decide) dX12_byteAt_14 rfl ?_
    refine s_iand 18 dX12_byteAt_17 rfl ?_
    refine s_goto 22 dX12_byteAt_18 (by decide) ?_
    exact s_iretP rfl dX12_byteAt_22
def EX12_byteAt : List Value → HP → Option Int32 := en 2 BX12_byteAt_0
theorem cmX12_byteAt : CM XX12_byteAt EX12_byteAt fI 0 0 := CM.of rfl (by decide) rfl rfl sBX12_byteAt_0
theorem yoX12_byteAt : YO XX12_byteAt 1 0 0 := ⟨tw_1538, rfl, tw_12, (by decide +kernel), rfl, rfl⟩
abbrev XX12_isLetter : MX := (yX12_isLetter, cX12_isLetter, 1, (Option.some .boolean), Cond.code yX12_isLetter cX12_isLetter 1 (Option.some .boolean) :: WS, { frames := 0, cells := 0, slots := 0, locals := 0 })
def BX12_isLetter_0 : KT Bool :=
  oIld 0 (oConst (.int 97) (oCmplt (oConst (.int 0) (oZretP)) (oIld 0 (oConst (.int 122) (oCmpgt (oConst (.int 0) (oZretP)) (oConst (.int 1) (oZretP)))))))
set_option maxRecDepth 20000 in
theorem sBX12_isLetter_0 : Snd XX12_isLetter fZ 0 (BX12_isLetter_0) (0) (0) := by
  unfold BX12_isLetter_0
  refine s_Ildn 0 rfl 1 dX12_isLetter_0 rfl ?_
  refine s_bipush 3 97 (by decide) dX12_isLetter_1 rfl ?_
  refine s_cmplt 16 6 dX12_isLetter_3 (by decide) rfl ?_ ?_
  · refine s_iconst 17 0 (by decide) dX12_isLetter_16 rfl ?_
    exact s_zretP rfl dX12_isLetter_17
  · refine s_Ildn 0 rfl 7 dX12_isLetter_6 rfl ?_
    refine s_bipush 9 122 (by decide) dX12_isLetter_7 rfl ?_
    refine s_cmpgt 16 12 dX12_isLetter_9 (by decide) rfl ?_ ?_
    · refine s_iconst 17 0 (by decide) dX12_isLetter_16 rfl ?_
      exact s_zretP rfl dX12_isLetter_17
    · refine s_iconst 13 1 (by decide) dX12_isLetter_12 rfl ?_
      refine s_goto 17 dX12_isLetter_13 (by decide) ?_
      exact s_zretP rfl dX12_isLetter_17
def EX12_isLetter : List Value → HP → Option Bool := en 1 BX12_isLetter_0
theorem cmX12_isLetter : CM XX12_isLetter EX12_isLetter fZ 0 0 := CM.of rfl (by decide) rfl rfl sBX12_isLetter_0
theorem yoX12_isLetter : YO XX12_isLetter 1 0 0 := ⟨tw_1541, rfl, tw_12, (by decide +kernel), rfl, rfl⟩
abbrev XX12_isDigit : MX := (yX12_isDigit, cX12_isDigit, 1, (Option.some .boolean), Cond.code yX12_isDigit cX12_isDigit 1 (Option.some .boolean) :: WS, { frames := 0, cells := 0, slots := 0, locals := 0 })
def BX12_isDigit_0 : KT Bool :=
  oIld 0 (oConst (.int 48) (oCmplt (oConst (.int 0) (oZretP)) (oIld 0 (oConst (.int 57) (oCmpgt (oConst (.int 0) (oZretP)) (oConst (.int 1) (oZretP)))))))
set_option maxRecDepth 20000 in
theorem sBX12_isDigit_0 : Snd XX12_isDigit fZ 0 (BX12_isDigit_0) (0) (0) := by
  unfold BX12_isDigit_0
  refine s_Ildn 0 rfl 1 dX12_isDigit_0 rfl ?_
  refine s_bipush 3 48 (by decide) dX12_isDigit_1 rfl ?_
  refine s_cmplt 16 6 dX12_isDigit_3 (by decide) rfl ?_ ?_
  · refine s_iconst 17 0 (by decide) dX12_isDigit_16 rfl ?_
    exact s_zretP rfl dX12_isDigit_17
  · refine s_Ildn 0 rfl 7 dX12_isDigit_6 rfl ?_
    refine s_bipush 9 57 (by decide) dX12_isDigit_7 rfl ?_
    refine s_cmpgt 16 12 dX12_isDigit_9 (by decide) rfl ?_ ?_
    · refine s_iconst 17 0 (by decide) dX12_isDigit_16 rfl ?_
      exact s_zretP rfl dX12_isDigit_17
    · refine s_iconst 13 1 (by decide) dX12_isDigit_12 rfl ?_
      refine s_goto 17 dX12_isDigit_13 (by decide) ?_
      exact s_zretP rfl dX12_isDigit_17
def EX12_isDigit : List Value → HP → Option Bool := en 1 BX12_isDigit_0
theorem cmX12_isDigit : CM XX12_isDigit EX12_isDigit fZ 0 0 := CM.of rfl (by decide) rfl rfl sBX12_isDigit_0
theorem yoX12_isDigit : YO XX12_isDigit 1 0 0 := ⟨tw_1545, rfl, tw_12, (by decide +kernel), rfl, rfl⟩
abbrev XX12_wordOf : MX := (yX12_wordOf, cX12_wordOf, 4, (Option.some .long), Cond.code yX12_wordOf cX12_wordOf 4 (Option.some .long) :: WS, { frames := 4, cells := 0, slots := 0, locals := 85 })
def BX12_wordOf_19 (k4 : KT Int64) : KT Int64 :=
  oCal 2 (some 99) EJ0_charAt_5068e fI (oConst (.int 97) (oisub (oConst (.int 1) (oiadd (oi2l (oladd (oLst 1 (oInc 3 1 (oPick [0, 1, 3] k4)))))))))
set_option maxRecDepth 20000 in
theorem sBX12_wordOf_19 {k4 : KT Int64} (hk4 : Snd XX12_wordOf fL 4 k4 0 0) : Snd XX12_wordOf fL 19 (BX12_wordOf_19 k4) (0) (0) := by
  unfold BX12_wordOf_19
  refine s_cal0 22 (run_VS (X := XX12_wordOf) yoJ0_charAt_5068e rfl tw_1563 tw_493 tw_494 (by decide) dX12_wordOf_19) cmJ0_charAt_5068e (fun _ _ _ => rfl) rfl ?_
  refine s_bipush 24 97 (by decide) dX12_wordOf_22 rfl ?_
  refine s_isub 25 dX12_wordOf_24 rfl ?_
  refine s_iconst 26 1 (by decide) dX12_wordOf_25 rfl ?_
  refine s_iadd 27 dX12_wordOf_26 rfl ?_
  refine s_i2l 28 dX12_wordOf_27 rfl ?_
  refine s_ladd 29 dX12_wordOf_28 rfl ?_
  refine s_Lstn 1 rfl 30 (by decide) dX12_wordOf_29 rfl ?_
  refine s_inc 3 1 33 (by decide) (by decide) dX12_wordOf_30 rfl ?_
  refine s_goto 4 dX12_wordOf_33 (by decide) ?_
  exact s_pick hk4
def BX12_wordOf_6 (k4 : KT Int64) : KT Int64 :=
  oCal 1 (some 99) EJ0_length_8abf5 fI (oCmpge (oLld 1 (oLretP)) (oConst (.long 32) (oLld 1 (olmul (oAld 0 (oIld 3 (oPick [0, 3] (BX12_wordOf_19 k4))))))))
set_option maxRecDepth 20000 in
theorem sBX12_wordOf_6 {k4 : KT Int64} (hk4 : Snd XX12_wordOf fL 4 k4 0 0) : Snd XX12_wordOf fL 6 (BX12_wordOf_6 k4) (0) (0) := by
  unfold BX12_wordOf_6
  refine s_cal0 9 (run_VS (X := XX12_wordOf) yoJ0_length_8abf5 rfl tw_1562 tw_483 tw_484 (by decide) dX12_wordOf_6) cmJ0_length_8abf5 (fun _ _ _ => rfl) rfl ?_
  refine s_cmpge 36 12 dX12_wordOf_9 (by decide) rfl ?_ ?_
  · refine s_Lldn 1 rfl 37 dX12_wordOf_36 rfl ?_
    exact s_lretP rfl dX12_wordOf_37
  · refine s_ldc2 15 32 tw_1542 dX12_wordOf_12 rfl ?_
    refine s_Lldn 1 rfl 16 dX12_wordOf_15 rfl ?_
    refine s_lmul 17 dX12_wordOf_16 rfl ?_
    refine s_Aldn 0 rfl 18 dX12_wordOf_17 rfl ?_
    refine s_Ildn 3 rfl 19 dX12_wordOf_18 rfl ?_
    exact s_pick (sBX12_wordOf_19 hk4)
def BX12_wordOf_4 (k4 : KT Int64) : KT Int64 :=
  oIld 3 (oAld 0 (oPick [0, 1, 3] (BX12_wordOf_6 k4)))
set_option maxRecDepth 20000 in
theorem sBX12_wordOf_4 {k4 : KT Int64} (hk4 : Snd XX12_wordOf fL 4 k4 0 0) : Snd XX12_wordOf fL 4 (BX12_wordOf_4 k4) (0) (0) := by
  unfold BX12_wordOf_4
  refine s_Ildn 3 rfl 5 dX12_wordOf_4 rfl ?_
  refine s_Aldn 0 rfl 6 dX12_wordOf_5 rfl ?_
  exact s_pick (sBX12_wordOf_6 hk4)
def BX12_wordOf_0 : KT Int64 :=
  oConst (.long 0) (oLst 1 (oConst (.int 0) (oIst 3 (oPick [0, 1, 3] (lp (BX12_wordOf_4) FU)))))
set_option maxRecDepth 20000 in
theorem sBX12_wordOf_0 : Snd XX12_wordOf fL 0 (BX12_wordOf_0) (0) (0) := by
  unfold BX12_wordOf_0
  refine s_lconst 1 0 (by decide) dX12_wordOf_0 rfl ?_
  refine s_Lstn 1 rfl 2 (by decide) dX12_wordOf_1 rfl ?_
  refine s_iconst 3 0 (by decide) dX12_wordOf_2 rfl ?_
  refine s_Istn 3 rfl 4 (by decide) dX12_wordOf_3 rfl ?_
  exact s_pick (s_lp (fun k hk => sBX12_wordOf_4  hk) FU)
def EX12_wordOf : List Value → HP → Option Int64 := en 4 BX12_wordOf_0
theorem cmX12_wordOf : CM XX12_wordOf EX12_wordOf fL 0 0 := CM.of rfl (by decide) rfl rfl sBX12_wordOf_0
theorem yoX12_wordOf : YO XX12_wordOf 1 0 0 := ⟨tw_1561, rfl, tw_12, (by decide +kernel), rfl, rfl⟩
abbrev XX12_goesOn : MX := (yX12_goesOn, cX12_goesOn, 3, none, Cond.code yX12_goesOn cX12_goesOn 3 none :: WS, { frames := 1, cells := 0, slots := 0, locals := 21 })
def BX12_goesOn_298 : KT HP :=
  oVretH
set_option maxRecDepth 20000 in
theorem sBX12_goesOn_298 : Snd XX12_goesOn fVH 298 (BX12_goesOn_298) (0) (0) := by
  unfold BX12_goesOn_298
  exact s_vretH rfl dX12_goesOn_298
def BX12_goesOn_278 : KT HP :=
  oAld 0 (oConst (.int 4) (oPut 12 9 .int (oAld 0 (oIld 1 (oPut 12 11 .int (oAld 0 (odup (oGet 12 8 (oConst (.int 1) (oiadd (oPut 12 8 .int (oPick [] (BX12_goesOn_298)))))))))))))
set_option maxRecDepth 20000 in
theorem sBX12_goesOn_278 : Snd XX12_goesOn fVH 278 (BX12_goesOn_278) (0) (0) := by
  unfold BX12_goesOn_278
  refine s_Aldn 0 rfl 279 dX12_goesOn_278 rfl ?_
  refine s_iconst 280 4 (by decide) dX12_goesOn_279 rfl ?_
  refine s_put 12 9 283 clX12 (by decide) rfl rfl pVH tw_1297 dX12_goesOn_280 rfl ?_
  refine s_Aldn 0 rfl 284 dX12_goesOn_283 rfl ?_
  refine s_Ildn 1 rfl 285 dX12_goesOn_284 rfl ?_
  refine s_put 12 11 288 clX12 (by decide) rfl rfl pVH tw_1299 dX12_goesOn_285 rfl ?_
  refine s_Aldn 0 rfl 289 dX12_goesOn_288 rfl ?_
  refine s_dup 290 dX12_goesOn_289 rfl ?_
  refine s_get 12 8 293 clX12 (by decide) tw_1296 dX12_goesOn_290 rfl ?_
  refine s_iconst 294 1 (by decide) dX12_goesOn_293 rfl ?_
  refine s_iadd 295 dX12_goesOn_294 rfl ?_
  refine s_put 12 8 298 clX12 (by decide) rfl rfl pVH tw_1296 dX12_goesOn_295 rfl ?_
  exact s_pick (sBX12_goesOn_298)
def BX12_goesOn_227 (k195 : KT HP) : KT HP :=
  oCal 2 (some 12) EX12_byteAt fI (oiadd (oConst (.int 48) (oisub (oPut 12 12 .int (oInc 2 1 (oAld 0 (odup (oGet 12 8 (oConst (.int 1) (oiadd (oPut 12 8 .int (oPick [0, 2] k195))))))))))))
set_option maxRecDepth 20000 in
theorem sBX12_goesOn_227 {k195 : KT HP} (hk195 : Snd XX12_goesOn fVH 195 k195 0 0) : Snd XX12_goesOn fVH 227 (BX12_goesOn_227 k195) (0) (0) := by
  unfold BX12_goesOn_227
  refine s_cal0 230 (run_V (X := XX12_goesOn) rfl clX12 yoX12_byteAt rfl tw_1535 tw_1537 tw_p52 (by decide) dX12_goesOn_227) cmX12_byteAt (fun _ _ _ => rfl) rfl ?_
  refine s_iadd 231 dX12_goesOn_230 rfl ?_
  refine s_bipush 233 48 (by decide) dX12_goesOn_231 rfl ?_
  refine s_isub 234 dX12_goesOn_233 rfl ?_
  refine s_put 12 12 237 clX12 (by decide) rfl rfl pVH tw_1300 dX12_goesOn_234 rfl ?_
  refine s_inc 2 1 240 (by decide) (by decide) dX12_goesOn_237 rfl ?_
  refine s_Aldn 0 rfl 241 dX12_goesOn_240 rfl ?_
  refine s_dup 242 dX12_goesOn_241 rfl ?_
  refine s_get 12 8 245 clX12 (by decide) tw_1296 dX12_goesOn_242 rfl ?_
  refine s_iconst 246 1 (by decide) dX12_goesOn_245 rfl ?_
  refine s_iadd 247 dX12_goesOn_246 rfl ?_
  refine s_put 12 8 250 clX12 (by decide) rfl rfl pVH tw_1296 dX12_goesOn_247 rfl ?_
  refine s_goto 195 dX12_goesOn_250 (by decide) ?_
  exact s_pick hk195
def BX12_goesOn_203 (k195 : KT HP) : KT HP :=
  oCal 1 none EX12_isDigit fZ (oIfeq (oIld 2 (oConst (.int 3) (oCmpgt (oPick [] (BX12_goesOn_298)) (oAld 0 (oConst (.int 3) (oPut 12 9 .int (oPick [] (BX12_goesOn_298)))))))) (oIld 2 (oConst (.int 3) (oCmpge (oInc 2 1 (oAld 0 (odup (oGet 12 8 (oConst (.int 1) (oiadd (oPut 12 8 .int (oPick [0, 2] k195)))))))) (oAld 0 (oConst (.int 10) (oAld 0 (oGet 12 12 (oimul (oAld 0 (oAld 0 (oGet 12 8 (oPick [0, 2] (BX12_goesOn_227 k195))))))))))))))
set_option maxRecDepth 20000 in
theorem sBX12_goesOn_203 {k195 : KT HP} (hk195 : Snd XX12_goesOn fVH 195 k195 0 0) : Snd XX12_goesOn fVH 203 (BX12_goesOn_203 k195) (0) (0) := by
  unfold BX12_goesOn_203
  refine s_cal0 206 (run_S (X := XX12_goesOn) yoX12_isDigit tw_1543 tw_1544 (by decide) dX12_goesOn_203) cmX12_isDigit (fun _ _ _ => rfl) rfl ?_
  refine s_ifeq 253 209 dX12_goesOn_206 (by decide) rfl ?_ ?_
  · refine s_Ildn 2 rfl 254 dX12_goesOn_253 rfl ?_
    refine s_iconst 255 3 (by decide) dX12_goesOn_254 rfl ?_
    refine s_cmpgt 298 258 dX12_goesOn_255 (by decide) rfl ?_ ?_
    · exact s_pick (sBX12_goesOn_298)
    · refine s_Aldn 0 rfl 259 dX12_goesOn_258 rfl ?_
      refine s_iconst 260 3 (by decide) dX12_goesOn_259 rfl ?_
      refine s_put 12 9 263 clX12 (by decide) rfl rfl pVH tw_1297 dX12_goesOn_260 rfl ?_
      refine s_goto 298 dX12_goesOn_263 (by decide) ?_
      exact s_pick (sBX12_goesOn_298)
  · refine s_Ildn 2 rfl 210 dX12_goesOn_209 rfl ?_
    refine s_iconst 211 3 (by decide) dX12_goesOn_210 rfl ?_
    refine s_cmpge 237 214 dX12_goesOn_211 (by decide) rfl ?_ ?_
    · refine s_inc 2 1 240 (by decide) (by decide) dX12_goesOn_237 rfl ?_
      refine s_Aldn 0 rfl 241 dX12_goesOn_240 rfl ?_
      refine s_dup 242 dX12_goesOn_241 rfl ?_
      refine s_get 12 8 245 clX12 (by decide) tw_1296 dX12_goesOn_242 rfl ?_
      refine s_iconst 246 1 (by decide) dX12_goesOn_245 rfl ?_
      refine s_iadd 247 dX12_goesOn_246 rfl ?_
      refine s_put 12 8 250 clX12 (by decide) rfl rfl pVH tw_1296 dX12_goesOn_247 rfl ?_
      refine s_goto 195 dX12_goesOn_250 (by decide) ?_
      exact s_pick hk195
    · refine s_Aldn 0 rfl 215 dX12_goesOn_214 rfl ?_
      refine s_bipush 217 10 (by decide) dX12_goesOn_215 rfl ?_
      refine s_Aldn 0 rfl 218 dX12_goesOn_217 rfl ?_
      refine s_get 12 12 221 clX12 (by decide) tw_1300 dX12_goesOn_218 rfl ?_
      refine s_imul 222 dX12_goesOn_221 rfl ?_
      refine s_Aldn 0 rfl 223 dX12_goesOn_222 rfl ?_
      refine s_Aldn 0 rfl 224 dX12_goesOn_223 rfl ?_
      refine s_get 12 8 227 clX12 (by decide) tw_1296 dX12_goesOn_224 rfl ?_
      exact s_pick (sBX12_goesOn_227 hk195)
def BX12_goesOn_200 (k195 : KT HP) : KT HP :=
  oCal 2 (some 12) EX12_byteAt fI (oPick [0, 2] (BX12_goesOn_203 k195))
set_option maxRecDepth 20000 in
theorem sBX12_goesOn_200 {k195 : KT HP} (hk195 : Snd XX12_goesOn fVH 195 k195 0 0) : Snd XX12_goesOn fVH 200 (BX12_goesOn_200 k195) (0) (0) := by
  unfold BX12_goesOn_200
  refine s_cal0 203 (run_V (X := XX12_goesOn) rfl clX12 yoX12_byteAt rfl tw_1535 tw_1537 tw_p52 (by decide) dX12_goesOn_200) cmX12_byteAt (fun _ _ _ => rfl) rfl ?_
  exact s_pick (sBX12_goesOn_203 hk195)
def BX12_goesOn_195 (k195 : KT HP) : KT HP :=
  oAld 0 (oAld 0 (oGet 12 8 (oPick [0, 2] (BX12_goesOn_200 k195))))
set_option maxRecDepth 20000 in
theorem sBX12_goesOn_195 {k195 : KT HP} (hk195 : Snd XX12_goesOn fVH 195 k195 0 0) : Snd XX12_goesOn fVH 195 (BX12_goesOn_195 k195) (0) (0) := by
  unfold BX12_goesOn_195
  refine s_Aldn 0 rfl 196 dX12_goesOn_195 rfl ?_
  refine s_Aldn 0 rfl 197 dX12_goesOn_196 rfl ?_
  refine s_get 12 8 200 clX12 (by decide) tw_1296 dX12_goesOn_197 rfl ?_
  exact s_pick (sBX12_goesOn_200 hk195)
def BX12_goesOn_184 : KT HP :=
  oCal 1 none EX12_isDigit fZ (oIfeq (oIld 1 (oConst (.int 59) (oCmpeq (oPick [0, 1] (BX12_goesOn_278)) (oIld 1 (oConst (.int 44) (oCmpne (oPick [] (BX12_goesOn_298)) (oPick [0, 1] (BX12_goesOn_278)))))))) (oAld 0 (oConst (.int 0) (oPut 12 12 .int (oPick [0, 2] (lp (BX12_goesOn_195) FU))))))
set_option maxRecDepth 20000 in
theorem sBX12_goesOn_184 : Snd XX12_goesOn fVH 184 (BX12_goesOn_184) (0) (0) := by
  unfold BX12_goesOn_184
  refine s_cal0 187 (run_S (X := XX12_goesOn) yoX12_isDigit tw_1543 tw_1544 (by decide) dX12_goesOn_184) cmX12_isDigit (fun _ _ _ => rfl) rfl ?_
  refine s_ifeq 266 190 dX12_goesOn_187 (by decide) rfl ?_ ?_
  · refine s_Ildn 1 rfl 267 dX12_goesOn_266 rfl ?_
    refine s_bipush 269 59 (by decide) dX12_goesOn_267 rfl ?_
    refine s_cmpeq 278 272 dX12_goesOn_269 (by decide) rfl ?_ ?_
    · exact s_pick (sBX12_goesOn_278)
    · refine s_Ildn 1 rfl 273 dX12_goesOn_272 rfl ?_
      refine s_bipush 275 44 (by decide) dX12_goesOn_273 rfl ?_
      refine s_cmpne 298 278 dX12_goesOn_275 (by decide) rfl ?_ ?_
      · exact s_pick (sBX12_goesOn_298)
      · exact s_pick (sBX12_goesOn_278)
  · refine s_Aldn 0 rfl 191 dX12_goesOn_190 rfl ?_
    refine s_iconst 192 0 (by decide) dX12_goesOn_191 rfl ?_
    refine s_put 12 12 195 clX12 (by decide) rfl rfl pVH tw_1300 dX12_goesOn_192 rfl ?_
    exact s_pick (s_lp (fun k hk => sBX12_goesOn_195  hk) FU)
def BX12_goesOn_119 (k89 : KT HP) : KT HP :=
  oCal 2 (some 12) EX12_byteAt fI (oIw (oAld 0 (oConst (.long 32) (oAld 0 (oGet 12 17 (olmul (oAld 0 (oGet 12 16 (oIld 2 (oIa (oConst (.int 97) (oisub (oConst (.int 1) (oiadd (oi2l (oladd (oPut 12 17 .long (oInc 2 1 (oAld 0 (odup (oGet 12 8 (oConst (.int 1) (oiadd (oPut 12 8 .int (oPick [0, 2] k89)))))))))))))))))))))))))
set_option maxRecDepth 20000 in
theorem sBX12_goesOn_119 {k89 : KT HP} (hk89 : Snd XX12_goesOn fVH 89 k89 0 0) : Snd XX12_goesOn fVH 119 (BX12_goesOn_119 k89) (0) (0) := by
  unfold BX12_goesOn_119
  refine s_cal0 122 (run_V (X := XX12_goesOn) rfl clX12 yoX12_byteAt rfl tw_1535 tw_1537 tw_p52 (by decide) dX12_goesOn_119) cmX12_byteAt (fun _ _ _ => rfl) rfl ?_
  refine s_Iw 123 pVH dX12_goesOn_122 rfl ?_
  refine s_Aldn 0 rfl 124 dX12_goesOn_123 rfl ?_
  refine s_ldc2 127 32 tw_1542 dX12_goesOn_124 rfl ?_
  refine s_Aldn 0 rfl 128 dX12_goesOn_127 rfl ?_
  refine s_get 12 17 131 clX12 (by decide) tw_1305 dX12_goesOn_128 rfl ?_
  refine s_lmul 132 dX12_goesOn_131 rfl ?_
  refine s_Aldn 0 rfl 133 dX12_goesOn_132 rfl ?_
  refine s_get 12 16 136 clX12 (by decide) tw_1304 dX12_goesOn_133 rfl ?_
  refine s_Ildn 2 rfl 137 dX12_goesOn_136 rfl ?_
  refine s_Ia 138 dX12_goesOn_137 rfl ?_
  refine s_bipush 140 97 (by decide) dX12_goesOn_138 rfl ?_
  refine s_isub 141 dX12_goesOn_140 rfl ?_
  refine s_iconst 142 1 (by decide) dX12_goesOn_141 rfl ?_
  refine s_iadd 143 dX12_goesOn_142 rfl ?_
  refine s_i2l 144 dX12_goesOn_143 rfl ?_
  refine s_ladd 145 dX12_goesOn_144 rfl ?_
  refine s_put 12 17 148 clX12 (by decide) rfl rfl pVH tw_1305 dX12_goesOn_145 rfl ?_
  refine s_inc 2 1 151 (by decide) (by decide) dX12_goesOn_148 rfl ?_
  refine s_Aldn 0 rfl 152 dX12_goesOn_151 rfl ?_
  refine s_dup 153 dX12_goesOn_152 rfl ?_
  refine s_get 12 8 156 clX12 (by decide) tw_1296 dX12_goesOn_153 rfl ?_
  refine s_iconst 157 1 (by decide) dX12_goesOn_156 rfl ?_
  refine s_iadd 158 dX12_goesOn_157 rfl ?_
  refine s_put 12 8 161 clX12 (by decide) rfl rfl pVH tw_1296 dX12_goesOn_158 rfl ?_
  refine s_goto 89 dX12_goesOn_161 (by decide) ?_
  exact s_pick hk89
def BX12_goesOn_97 (k89 : KT HP) : KT HP :=
  oCal 1 none EX12_isLetter fZ (oIfeq (oAld 0 (oIld 2 (oPut 12 13 .int (oIld 2 (oConst (.int 8) (oCmpgt (oPick [] (BX12_goesOn_298)) (oAld 0 (oConst (.int 2) (oPut 12 9 .int (oPick [] (BX12_goesOn_298))))))))))) (oIld 2 (oConst (.int 8) (oCmpge (oInc 2 1 (oAld 0 (odup (oGet 12 8 (oConst (.int 1) (oiadd (oPut 12 8 .int (oPick [0, 2] k89)))))))) (oAld 0 (oGet 12 16 (oIld 2 (oAld 0 (oAld 0 (oGet 12 8 (oPick [0, 2] (BX12_goesOn_119 k89))))))))))))
set_option maxRecDepth 20000 in
theorem sBX12_goesOn_97 {k89 : KT HP} (hk89 : Snd XX12_goesOn fVH 89 k89 0 0) : Snd XX12_goesOn fVH 97 (BX12_goesOn_97 k89) (0) (0) := by
  unfold BX12_goesOn_97
  refine s_cal0 100 (run_S (X := XX12_goesOn) yoX12_isLetter tw_1539 tw_1540 (by decide) dX12_goesOn_97) cmX12_isLetter (fun _ _ _ => rfl) rfl ?_
  refine s_ifeq 164 103 dX12_goesOn_100 (by decide) rfl ?_ ?_
  · refine s_Aldn 0 rfl 165 dX12_goesOn_164 rfl ?_
    refine s_Ildn 2 rfl 166 dX12_goesOn_165 rfl ?_
    refine s_put 12 13 169 clX12 (by decide) rfl rfl pVH tw_1301 dX12_goesOn_166 rfl ?_
    refine s_Ildn 2 rfl 170 dX12_goesOn_169 rfl ?_
    refine s_bipush 172 8 (by decide) dX12_goesOn_170 rfl ?_
    refine s_cmpgt 298 175 dX12_goesOn_172 (by decide) rfl ?_ ?_
    · exact s_pick (sBX12_goesOn_298)
    · refine s_Aldn 0 rfl 176 dX12_goesOn_175 rfl ?_
      refine s_iconst 177 2 (by decide) dX12_goesOn_176 rfl ?_
      refine s_put 12 9 180 clX12 (by decide) rfl rfl pVH tw_1297 dX12_goesOn_177 rfl ?_
      refine s_goto 298 dX12_goesOn_180 (by decide) ?_
      exact s_pick (sBX12_goesOn_298)
  · refine s_Ildn 2 rfl 104 dX12_goesOn_103 rfl ?_
    refine s_bipush 106 8 (by decide) dX12_goesOn_104 rfl ?_
    refine s_cmpge 148 109 dX12_goesOn_106 (by decide) rfl ?_ ?_
    · refine s_inc 2 1 151 (by decide) (by decide) dX12_goesOn_148 rfl ?_
      refine s_Aldn 0 rfl 152 dX12_goesOn_151 rfl ?_
      refine s_dup 153 dX12_goesOn_152 rfl ?_
      refine s_get 12 8 156 clX12 (by decide) tw_1296 dX12_goesOn_153 rfl ?_
      refine s_iconst 157 1 (by decide) dX12_goesOn_156 rfl ?_
      refine s_iadd 158 dX12_goesOn_157 rfl ?_
      refine s_put 12 8 161 clX12 (by decide) rfl rfl pVH tw_1296 dX12_goesOn_158 rfl ?_
      refine s_goto 89 dX12_goesOn_161 (by decide) ?_
      exact s_pick hk89
    · refine s_Aldn 0 rfl 110 dX12_goesOn_109 rfl ?_
      refine s_get 12 16 113 clX12 (by decide) tw_1304 dX12_goesOn_110 rfl ?_
      refine s_Ildn 2 rfl 114 dX12_goesOn_113 rfl ?_
      refine s_Aldn 0 rfl 115 dX12_goesOn_114 rfl ?_
      refine s_Aldn 0 rfl 116 dX12_goesOn_115 rfl ?_
      refine s_get 12 8 119 clX12 (by decide) tw_1296 dX12_goesOn_116 rfl ?_
      exact s_pick (sBX12_goesOn_119 hk89)
def BX12_goesOn_94 (k89 : KT HP) : KT HP :=
  oCal 2 (some 12) EX12_byteAt fI (oPick [0, 2] (BX12_goesOn_97 k89))
set_option maxRecDepth 20000 in
theorem sBX12_goesOn_94 {k89 : KT HP} (hk89 : Snd XX12_goesOn fVH 89 k89 0 0) : Snd XX12_goesOn fVH 94 (BX12_goesOn_94 k89) (0) (0) := by
  unfold BX12_goesOn_94
  refine s_cal0 97 (run_V (X := XX12_goesOn) rfl clX12 yoX12_byteAt rfl tw_1535 tw_1537 tw_p52 (by decide) dX12_goesOn_94) cmX12_byteAt (fun _ _ _ => rfl) rfl ?_
  exact s_pick (sBX12_goesOn_97 hk89)
def BX12_goesOn_89 (k89 : KT HP) : KT HP :=
  oAld 0 (oAld 0 (oGet 12 8 (oPick [0, 2] (BX12_goesOn_94 k89))))
set_option maxRecDepth 20000 in
theorem sBX12_goesOn_89 {k89 : KT HP} (hk89 : Snd XX12_goesOn fVH 89 k89 0 0) : Snd XX12_goesOn fVH 89 (BX12_goesOn_89 k89) (0) (0) := by
  unfold BX12_goesOn_89
  refine s_Aldn 0 rfl 90 dX12_goesOn_89 rfl ?_
  refine s_Aldn 0 rfl 91 dX12_goesOn_90 rfl ?_
  refine s_get 12 8 94 clX12 (by decide) tw_1296 dX12_goesOn_91 rfl ?_
  exact s_pick (sBX12_goesOn_94 hk89)
def BX12_goesOn_78 : KT HP :=
  oCal 1 none EX12_isLetter fZ (oIfeq (oIld 1 (oPick [0, 1, 2] (BX12_goesOn_184))) (oAld 0 (oConst (.long 0) (oPut 12 17 .long (oPick [0, 2] (lp (BX12_goesOn_89) FU))))))
set_option maxRecDepth 20000 in
theorem sBX12_goesOn_78 : Snd XX12_goesOn fVH 78 (BX12_goesOn_78) (0) (0) := by
  unfold BX12_goesOn_78
  refine s_cal0 81 (run_S (X := XX12_goesOn) yoX12_isLetter tw_1539 tw_1540 (by decide) dX12_goesOn_78) cmX12_isLetter (fun _ _ _ => rfl) rfl ?_
  refine s_ifeq 183 84 dX12_goesOn_81 (by decide) rfl ?_ ?_
  · refine s_Ildn 1 rfl 184 dX12_goesOn_183 rfl ?_
    exact s_pick (sBX12_goesOn_184)
  · refine s_Aldn 0 rfl 85 dX12_goesOn_84 rfl ?_
    refine s_lconst 86 0 (by decide) dX12_goesOn_85 rfl ?_
    refine s_put 12 17 89 clX12 (by decide) rfl rfl pVH tw_1305 dX12_goesOn_86 rfl ?_
    exact s_pick (s_lp (fun k hk => sBX12_goesOn_89  hk) FU)
def BX12_goesOn_58 : KT HP :=
  oCal 2 (some 12) EX12_byteAt fI (oIst 1 (oConst (.int 0) (oIst 2 (oIld 1 (oConst (.int (-1)) (oCmpne (oIld 1 (oPick [0, 1, 2] (BX12_goesOn_78))) (oAld 0 (oConst (.int 1) (oPut 12 9 .int (oPick [] (BX12_goesOn_298)))))))))))
set_option maxRecDepth 20000 in
theorem sBX12_goesOn_58 : Snd XX12_goesOn fVH 58 (BX12_goesOn_58) (0) (0) := by
  unfold BX12_goesOn_58
  refine s_cal0 61 (run_V (X := XX12_goesOn) rfl clX12 yoX12_byteAt rfl tw_1535 tw_1537 tw_p52 (by decide) dX12_goesOn_58) cmX12_byteAt (fun _ _ _ => rfl) rfl ?_
  refine s_Istn 1 rfl 62 (by decide) dX12_goesOn_61 rfl ?_
  refine s_iconst 63 0 (by decide) dX12_goesOn_62 rfl ?_
  refine s_Istn 2 rfl 64 (by decide) dX12_goesOn_63 rfl ?_
  refine s_Ildn 1 rfl 65 dX12_goesOn_64 rfl ?_
  refine s_iconst 66 (-1) (by decide) dX12_goesOn_65 rfl ?_
  refine s_cmpne 77 69 dX12_goesOn_66 (by decide) rfl ?_ ?_
  · refine s_Ildn 1 rfl 78 dX12_goesOn_77 rfl ?_
    exact s_pick (sBX12_goesOn_78)
  · refine s_Aldn 0 rfl 70 dX12_goesOn_69 rfl ?_
    refine s_iconst 71 1 (by decide) dX12_goesOn_70 rfl ?_
    refine s_put 12 9 74 clX12 (by decide) rfl rfl pVH tw_1297 dX12_goesOn_71 rfl ?_
    refine s_goto 298 dX12_goesOn_74 (by decide) ?_
    exact s_pick (sBX12_goesOn_298)
def BX12_goesOn_14 (k9 : KT HP) : KT HP :=
  oCal 2 (some 12) EX12_byteAt fI (oConst (.int 32) (oCmpne (oAld 0 (oAld 0 (oGet 12 8 (oPut 12 10 .int (oAld 0 (oConst (.int 0) (oPut 12 9 .int (oAld 0 (oConst (.int 0) (oPut 12 11 .int (oAld 0 (oAld 0 (oGet 12 8 (oPick [0] (BX12_goesOn_58))))))))))))))) (oAld 0 (odup (oGet 12 8 (oConst (.int 1) (oiadd (oPut 12 8 .int (oPick [0] k9)))))))))
set_option maxRecDepth 20000 in
theorem sBX12_goesOn_14 {k9 : KT HP} (hk9 : Snd XX12_goesOn fVH 9 k9 0 0) : Snd XX12_goesOn fVH 14 (BX12_goesOn_14 k9) (0) (0) := by
  unfold BX12_goesOn_14
  refine s_cal0 17 (run_V (X := XX12_goesOn) rfl clX12 yoX12_byteAt rfl tw_1535 tw_1537 tw_p52 (by decide) dX12_goesOn_14) cmX12_byteAt (fun _ _ _ => rfl) rfl ?_
  refine s_bipush 19 32 (by decide) dX12_goesOn_17 rfl ?_
  refine s_cmpne 35 22 dX12_goesOn_19 (by decide) rfl ?_ ?_
  · refine s_Aldn 0 rfl 36 dX12_goesOn_35 rfl ?_
    refine s_Aldn 0 rfl 37 dX12_goesOn_36 rfl ?_
    refine s_get 12 8 40 clX12 (by decide) tw_1296 dX12_goesOn_37 rfl ?_
    refine s_put 12 10 43 clX12 (by decide) rfl rfl pVH tw_1298 dX12_goesOn_40 rfl ?_
    refine s_Aldn 0 rfl 44 dX12_goesOn_43 rfl ?_
    refine s_iconst 45 0 (by decide) dX12_goesOn_44 rfl ?_
    refine s_put 12 9 48 clX12 (by decide) rfl rfl pVH tw_1297 dX12_goesOn_45 rfl ?_
    refine s_Aldn 0 rfl 49 dX12_goesOn_48 rfl ?_
    refine s_iconst 50 0 (by decide) dX12_goesOn_49 rfl ?_
    refine s_put 12 11 53 clX12 (by decide) rfl rfl pVH tw_1299 dX12_goesOn_50 rfl ?_
    refine s_Aldn 0 rfl 54 dX12_goesOn_53 rfl ?_
    refine s_Aldn 0 rfl 55 dX12_goesOn_54 rfl ?_
    refine s_get 12 8 58 clX12 (by decide) tw_1296 dX12_goesOn_55 rfl ?_
    exact s_pick (sBX12_goesOn_58)
  · refine s_Aldn 0 rfl 23 dX12_goesOn_22 rfl ?_
    refine s_dup 24 dX12_goesOn_23 rfl ?_
    refine s_get 12 8 27 clX12 (by decide) tw_1296 dX12_goesOn_24 rfl ?_
    refine s_iconst 28 1 (by decide) dX12_goesOn_27 rfl ?_
    refine s_iadd 29 dX12_goesOn_28 rfl ?_
    refine s_put 12 8 32 clX12 (by decide) rfl rfl pVH tw_1296 dX12_goesOn_29 rfl ?_
    refine s_goto 9 dX12_goesOn_32 (by decide) ?_
    exact s_pick hk9
def BX12_goesOn_9 (k9 : KT HP) : KT HP :=
  oAld 0 (oAld 0 (oGet 12 8 (oPick [0] (BX12_goesOn_14 k9))))
set_option maxRecDepth 20000 in
theorem sBX12_goesOn_9 {k9 : KT HP} (hk9 : Snd XX12_goesOn fVH 9 k9 0 0) : Snd XX12_goesOn fVH 9 (BX12_goesOn_9 k9) (0) (0) := by
  unfold BX12_goesOn_9
  refine s_Aldn 0 rfl 10 dX12_goesOn_9 rfl ?_
  refine s_Aldn 0 rfl 11 dX12_goesOn_10 rfl ?_
  refine s_get 12 8 14 clX12 (by decide) tw_1296 dX12_goesOn_11 rfl ?_
  exact s_pick (sBX12_goesOn_14 hk9)
def BX12_goesOn_0 : KT HP :=
  oAld 0 (oGet 12 9 (oConst (.int 5) (oCmpne (oPick [0] (lp (BX12_goesOn_9) FU)) (oVretH))))
set_option maxRecDepth 20000 in
theorem sBX12_goesOn_0 : Snd XX12_goesOn fVH 0 (BX12_goesOn_0) (0) (0) := by
  unfold BX12_goesOn_0
  refine s_Aldn 0 rfl 1 dX12_goesOn_0 rfl ?_
  refine s_get 12 9 4 clX12 (by decide) tw_1297 dX12_goesOn_1 rfl ?_
  refine s_iconst 5 5 (by decide) dX12_goesOn_4 rfl ?_
  refine s_cmpne 9 8 dX12_goesOn_5 (by decide) rfl ?_ ?_
  · exact s_pick (s_lp (fun k hk => sBX12_goesOn_9  hk) FU)
  · exact s_vretH rfl dX12_goesOn_8
def EX12_goesOn : List Value → HP → Option HP := en 3 BX12_goesOn_0
theorem cmX12_goesOn : CM XX12_goesOn EX12_goesOn fVH 0 0 := CM.of rfl (by decide) rfl rfl sBX12_goesOn_0
theorem yoX12_goesOn : YO XX12_goesOn 0 0 0 := ⟨tw_1534, rfl, tw_12, (by decide +kernel), rfl, rfl⟩
abbrev XX12_flaw : MX := (yX12_flaw, cX12_flaw, 2, none, Cond.code yX12_flaw cX12_flaw 2 none :: WS, { frames := 0, cells := 0, slots := 0, locals := 0 })
def BX12_flaw_0 : KT HP :=
  oAld 0 (oGet 12 9 (oConst (.int 5) (oCmpne (oAld 0 (oIld 1 (oPut 12 14 .int (oAld 0 (oAld 0 (oGet 12 10 (oPut 12 15 .int (oAld 0 (oConst (.int 5) (oPut 12 9 .int (oVretH))))))))))) (oVretH))))
set_option maxRecDepth 20000 in
theorem sBX12_flaw_0 : Snd XX12_flaw fVH 0 (BX12_flaw_0) (0) (0) := by
  unfold BX12_flaw_0
  refine s_Aldn 0 rfl 1 dX12_flaw_0 rfl ?_
  refine s_get 12 9 4 clX12 (by decide) tw_1297 dX12_flaw_1 rfl ?_
  refine s_iconst 5 5 (by decide) dX12_flaw_4 rfl ?_
  refine s_cmpne 9 8 dX12_flaw_5 (by decide) rfl ?_ ?_
  · refine s_Aldn 0 rfl 10 dX12_flaw_9 rfl ?_
    refine s_Ildn 1 rfl 11 dX12_flaw_10 rfl ?_
    refine s_put 12 14 14 clX12 (by decide) rfl rfl pVH tw_1302 dX12_flaw_11 rfl ?_
    refine s_Aldn 0 rfl 15 dX12_flaw_14 rfl ?_
    refine s_Aldn 0 rfl 16 dX12_flaw_15 rfl ?_
    refine s_get 12 10 19 clX12 (by decide) tw_1298 dX12_flaw_16 rfl ?_
    refine s_put 12 15 22 clX12 (by decide) rfl rfl pVH tw_1303 dX12_flaw_19 rfl ?_
    refine s_Aldn 0 rfl 23 dX12_flaw_22 rfl ?_
    refine s_iconst 24 5 (by decide) dX12_flaw_23 rfl ?_
    refine s_put 12 9 27 clX12 (by decide) rfl rfl pVH tw_1297 dX12_flaw_24 rfl ?_
    exact s_vretH rfl dX12_flaw_27
  · exact s_vretH rfl dX12_flaw_8
def EX12_flaw : List Value → HP → Option HP := en 2 BX12_flaw_0
theorem cmX12_flaw : CM XX12_flaw EX12_flaw fVH 0 0 := CM.of rfl (by decide) rfl rfl sBX12_flaw_0
theorem yoX12_flaw : YO XX12_flaw 1 0 0 := ⟨tw_1571, rfl, tw_12, (by decide +kernel), rfl, rfl⟩
abbrev XX12_isWord : MX := (yX12_isWord, cX12_isWord, 2, (Option.some .boolean), Cond.code yX12_isWord cX12_isWord 2 (Option.some .boolean) :: WS, { frames := 5, cells := 0, slots := 0, locals := 108 })
def BX12_isWord_13 : KT Bool :=
  oCal 1 none EX12_wordOf fL (olcmp (oIfne (oConst (.int 0) (oZretP)) (oConst (.int 1) (oZretP))))
set_option maxRecDepth 20000 in
theorem sBX12_isWord_13 : Snd XX12_isWord fZ 13 (BX12_isWord_13) (0) (0) := by
  unfold BX12_isWord_13
  refine s_cal0 16 (run_S (X := XX12_isWord) yoX12_wordOf tw_1559 tw_1560 (by decide) dX12_isWord_13) cmX12_wordOf (fun _ _ _ => rfl) rfl ?_
  refine s_lcmp 17 dX12_isWord_16 rfl ?_
  refine s_ifne 24 20 dX12_isWord_17 (by decide) rfl ?_ ?_
  · refine s_iconst 25 0 (by decide) dX12_isWord_24 rfl ?_
    exact s_zretP rfl dX12_isWord_25
  · refine s_iconst 21 1 (by decide) dX12_isWord_20 rfl ?_
    refine s_goto 25 dX12_isWord_21 (by decide) ?_
    exact s_zretP rfl dX12_isWord_25
def BX12_isWord_0 : KT Bool :=
  oAld 0 (oGet 12 9 (oConst (.int 2) (oCmpne (oConst (.int 0) (oZretP)) (oAld 0 (oGet 12 17 (oAld 1 (oPick [] (BX12_isWord_13))))))))
set_option maxRecDepth 20000 in
theorem sBX12_isWord_0 : Snd XX12_isWord fZ 0 (BX12_isWord_0) (0) (0) := by
  unfold BX12_isWord_0
  refine s_Aldn 0 rfl 1 dX12_isWord_0 rfl ?_
  refine s_get 12 9 4 clX12 (by decide) tw_1297 dX12_isWord_1 rfl ?_
  refine s_iconst 5 2 (by decide) dX12_isWord_4 rfl ?_
  refine s_cmpne 24 8 dX12_isWord_5 (by decide) rfl ?_ ?_
  · refine s_iconst 25 0 (by decide) dX12_isWord_24 rfl ?_
    exact s_zretP rfl dX12_isWord_25
  · refine s_Aldn 0 rfl 9 dX12_isWord_8 rfl ?_
    refine s_get 12 17 12 clX12 (by decide) tw_1305 dX12_isWord_9 rfl ?_
    refine s_Aldn 1 rfl 13 dX12_isWord_12 rfl ?_
    exact s_pick (sBX12_isWord_13)
def EX12_isWord : List Value → HP → Option Bool := en 2 BX12_isWord_0
theorem cmX12_isWord : CM XX12_isWord EX12_isWord fZ 0 0 := CM.of rfl (by decide) rfl rfl sBX12_isWord_0
theorem yoX12_isWord : YO XX12_isWord 1 0 0 := ⟨tw_1558, rfl, tw_12, (by decide +kernel), rfl, rfl⟩
abbrev XX12_eatsWord : MX := (yX12_eatsWord, cX12_eatsWord, 3, (Option.some .boolean), Cond.code yX12_eatsWord cX12_eatsWord 3 (Option.some .boolean) :: WS, { frames := 6, cells := 0, slots := 0, locals := 129 })
def BX12_eatsWord_11 : KT (Bool × HP) :=
  oCal 1 (some 12) EX12_goesOn fVH (oIld 2 (oZretH))
set_option maxRecDepth 20000 in
theorem sBX12_eatsWord_11 : Snd XX12_eatsWord fZH 11 (BX12_eatsWord_11) (0) (0) := by
  unfold BX12_eatsWord_11
  refine s_cal0 14 (run_V (X := XX12_eatsWord) rfl clX12 yoX12_goesOn rfl tw_1531 tw_1533 tw_p51 (by decide) dX12_eatsWord_11) cmX12_goesOn (fun _ _ _ => rfl) rfl ?_
  refine s_Ildn 2 rfl 15 dX12_eatsWord_14 rfl ?_
  exact s_zretH rfl dX12_eatsWord_15
def BX12_eatsWord_2 : KT (Bool × HP) :=
  oCal 2 (some 12) EX12_isWord fZ (oIst 2 (oIld 2 (oIfeq (oIld 2 (oZretH)) (oAld 0 (oPick [2] (BX12_eatsWord_11))))))
set_option maxRecDepth 20000 in
theorem sBX12_eatsWord_2 : Snd XX12_eatsWord fZH 2 (BX12_eatsWord_2) (0) (0) := by
  unfold BX12_eatsWord_2
  refine s_cal0 5 (run_V (X := XX12_eatsWord) rfl clX12 yoX12_isWord rfl tw_1555 tw_1557 tw_p55 (by decide) dX12_eatsWord_2) cmX12_isWord (fun _ _ _ => rfl) rfl ?_
  refine s_Istn 2 rfl 6 (by decide) dX12_eatsWord_5 rfl ?_
  refine s_Ildn 2 rfl 7 dX12_eatsWord_6 rfl ?_
  refine s_ifeq 14 10 dX12_eatsWord_7 (by decide) rfl ?_ ?_
  · refine s_Ildn 2 rfl 15 dX12_eatsWord_14 rfl ?_
    exact s_zretH rfl dX12_eatsWord_15
  · refine s_Aldn 0 rfl 11 dX12_eatsWord_10 rfl ?_
    exact s_pick (sBX12_eatsWord_11)
def BX12_eatsWord_0 : KT (Bool × HP) :=
  oAld 0 (oAld 1 (oPick [0] (BX12_eatsWord_2)))
set_option maxRecDepth 20000 in
theorem sBX12_eatsWord_0 : Snd XX12_eatsWord fZH 0 (BX12_eatsWord_0) (0) (0) := by
  unfold BX12_eatsWord_0
  refine s_Aldn 0 rfl 1 dX12_eatsWord_0 rfl ?_
  refine s_Aldn 1 rfl 2 dX12_eatsWord_1 rfl ?_
  exact s_pick (sBX12_eatsWord_2)
def EX12_eatsWord : List Value → HP → Option (Bool × HP) := en 3 BX12_eatsWord_0
theorem cmX12_eatsWord : CM XX12_eatsWord EX12_eatsWord fZH 0 0 := CM.of rfl (by decide) rfl rfl sBX12_eatsWord_0
theorem yoX12_eatsWord : YO XX12_eatsWord 1 0 0 := ⟨tw_1659, rfl, tw_12, (by decide +kernel), rfl, rfl⟩
abbrev XX12_eatsSign : MX := (yX12_eatsSign, cX12_eatsSign, 3, (Option.some .boolean), Cond.code yX12_eatsSign cX12_eatsSign 3 (Option.some .boolean) :: WS, { frames := 2, cells := 0, slots := 0, locals := 43 })
def BX12_eatsSign_27 : KT (Bool × HP) :=
  oCal 1 (some 12) EX12_goesOn fVH (oIld 2 (oZretH))
set_option maxRecDepth 20000 in
theorem sBX12_eatsSign_27 : Snd XX12_eatsSign fZH 27 (BX12_eatsSign_27) (0) (0) := by
  unfold BX12_eatsSign_27
  refine s_cal0 30 (run_V (X := XX12_eatsSign) rfl clX12 yoX12_goesOn rfl tw_1531 tw_1533 tw_p51 (by decide) dX12_eatsSign_27) cmX12_goesOn (fun _ _ _ => rfl) rfl ?_
  refine s_Ildn 2 rfl 31 dX12_eatsSign_30 rfl ?_
  exact s_zretH rfl dX12_eatsSign_31
def BX12_eatsSign_21 : KT (Bool × HP) :=
  oIst 2 (oIld 2 (oIfeq (oIld 2 (oZretH)) (oAld 0 (oPick [2] (BX12_eatsSign_27)))))
set_option maxRecDepth 20000 in
theorem sBX12_eatsSign_21 : Snd XX12_eatsSign fZH 21 (BX12_eatsSign_21) (0) (0) := by
  unfold BX12_eatsSign_21
  refine s_Istn 2 rfl 22 (by decide) dX12_eatsSign_21 rfl ?_
  refine s_Ildn 2 rfl 23 dX12_eatsSign_22 rfl ?_
  refine s_ifeq 30 26 dX12_eatsSign_23 (by decide) rfl ?_ ?_
  · refine s_Ildn 2 rfl 31 dX12_eatsSign_30 rfl ?_
    exact s_zretH rfl dX12_eatsSign_31
  · refine s_Aldn 0 rfl 27 dX12_eatsSign_26 rfl ?_
    exact s_pick (sBX12_eatsSign_27)
def BX12_eatsSign_20 : KT (Bool × HP) :=
  oConst (.int 0) (oPick [0] (BX12_eatsSign_21))
set_option maxRecDepth 20000 in
theorem sBX12_eatsSign_20 : Snd XX12_eatsSign fZH 20 (BX12_eatsSign_20) (0) (0) := by
  unfold BX12_eatsSign_20
  refine s_iconst 21 0 (by decide) dX12_eatsSign_20 rfl ?_
  exact s_pick (sBX12_eatsSign_21)
def BX12_eatsSign_0 : KT (Bool × HP) :=
  oAld 0 (oGet 12 9 (oConst (.int 4) (oCmpne (oPick [0] (BX12_eatsSign_20)) (oAld 0 (oGet 12 11 (oIld 1 (oCmpne (oPick [0] (BX12_eatsSign_20)) (oConst (.int 1) (oPick [0] (BX12_eatsSign_21))))))))))
set_option maxRecDepth 20000 in
theorem sBX12_eatsSign_0 : Snd XX12_eatsSign fZH 0 (BX12_eatsSign_0) (0) (0) := by
  unfold BX12_eatsSign_0
  refine s_Aldn 0 rfl 1 dX12_eatsSign_0 rfl ?_
  refine s_get 12 9 4 clX12 (by decide) tw_1297 dX12_eatsSign_1 rfl ?_
  refine s_iconst 5 4 (by decide) dX12_eatsSign_4 rfl ?_
  refine s_cmpne 20 8 dX12_eatsSign_5 (by decide) rfl ?_ ?_
  · exact s_pick (sBX12_eatsSign_20)
  · refine s_Aldn 0 rfl 9 dX12_eatsSign_8 rfl ?_
    refine s_get 12 11 12 clX12 (by decide) tw_1299 dX12_eatsSign_9 rfl ?_
    refine s_Ildn 1 rfl 13 dX12_eatsSign_12 rfl ?_
    refine s_cmpne 20 16 dX12_eatsSign_13 (by decide) rfl ?_ ?_
    · exact s_pick (sBX12_eatsSign_20)
    · refine s_iconst 17 1 (by decide) dX12_eatsSign_16 rfl ?_
      refine s_goto 21 dX12_eatsSign_17 (by decide) ?_
      exact s_pick (sBX12_eatsSign_21)
def EX12_eatsSign : List Value → HP → Option (Bool × HP) := en 3 BX12_eatsSign_0
theorem cmX12_eatsSign : CM XX12_eatsSign EX12_eatsSign fZH 0 0 := CM.of rfl (by decide) rfl rfl sBX12_eatsSign_0
theorem yoX12_eatsSign : YO XX12_eatsSign 1 0 0 := ⟨tw_1674, rfl, tw_12, (by decide +kernel), rfl, rfl⟩
abbrev XX12_needs : MX := (yX12_needs, cX12_needs, 2, none, Cond.code yX12_needs cX12_needs 2 none :: WS, { frames := 6, cells := 0, slots := 0, locals := 129 })
def BX12_needs_14 : KT HP :=
  oCal 1 (some 12) EX12_goesOn fVH (oVretH)
set_option maxRecDepth 20000 in
theorem sBX12_needs_14 : Snd XX12_needs fVH 14 (BX12_needs_14) (0) (0) := by
  unfold BX12_needs_14
  refine s_cal0 17 (run_V (X := XX12_needs) rfl clX12 yoX12_goesOn rfl tw_1531 tw_1533 tw_p51 (by decide) dX12_needs_14) cmX12_goesOn (fun _ _ _ => rfl) rfl ?_
  exact s_vretH rfl dX12_needs_17
def BX12_needs_10 : KT HP :=
  oCal 2 (some 12) EX12_flaw fVH (oAld 0 (oPick [] (BX12_needs_14)))
set_option maxRecDepth 20000 in
theorem sBX12_needs_10 : Snd XX12_needs fVH 10 (BX12_needs_10) (0) (0) := by
  unfold BX12_needs_10
  refine s_cal0 13 (run_V (X := XX12_needs) rfl clX12 yoX12_flaw rfl tw_1568 tw_1570 tw_p57 (by decide) dX12_needs_10) cmX12_flaw (fun _ _ _ => rfl) rfl ?_
  refine s_Aldn 0 rfl 14 dX12_needs_13 rfl ?_
  exact s_pick (sBX12_needs_14)
def BX12_needs_2 : KT HP :=
  oCal 2 (some 12) EX12_isWord fZ (oIfne (oAld 0 (oPick [] (BX12_needs_14))) (oAld 0 (oConst (.int 1) (oPick [0] (BX12_needs_10)))))
set_option maxRecDepth 20000 in
theorem sBX12_needs_2 : Snd XX12_needs fVH 2 (BX12_needs_2) (0) (0) := by
  unfold BX12_needs_2
  refine s_cal0 5 (run_V (X := XX12_needs) rfl clX12 yoX12_isWord rfl tw_1555 tw_1557 tw_p55 (by decide) dX12_needs_2) cmX12_isWord (fun _ _ _ => rfl) rfl ?_
  refine s_ifne 13 8 dX12_needs_5 (by decide) rfl ?_ ?_
  · refine s_Aldn 0 rfl 14 dX12_needs_13 rfl ?_
    exact s_pick (sBX12_needs_14)
  · refine s_Aldn 0 rfl 9 dX12_needs_8 rfl ?_
    refine s_iconst 10 1 (by decide) dX12_needs_9 rfl ?_
    exact s_pick (sBX12_needs_10)
def BX12_needs_0 : KT HP :=
  oAld 0 (oAld 1 (oPick [0] (BX12_needs_2)))
set_option maxRecDepth 20000 in
theorem sBX12_needs_0 : Snd XX12_needs fVH 0 (BX12_needs_0) (0) (0) := by
  unfold BX12_needs_0
  refine s_Aldn 0 rfl 1 dX12_needs_0 rfl ?_
  refine s_Aldn 1 rfl 2 dX12_needs_1 rfl ?_
  exact s_pick (sBX12_needs_2)
def EX12_needs : List Value → HP → Option HP := en 2 BX12_needs_0
theorem cmX12_needs : CM XX12_needs EX12_needs fVH 0 0 := CM.of rfl (by decide) rfl rfl sBX12_needs_0
theorem yoX12_needs : YO XX12_needs 1 0 0 := ⟨tw_1580, rfl, tw_12, (by decide +kernel), rfl, rfl⟩
abbrev XX12_needsSign : MX := (yX12_needsSign, cX12_needsSign, 2, none, Cond.code yX12_needsSign cX12_needsSign 2 none :: WS, { frames := 2, cells := 0, slots := 0, locals := 43 })
def BX12_needsSign_22 : KT HP :=
  oCal 1 (some 12) EX12_goesOn fVH (oVretH)
set_option maxRecDepth 20000 in
theorem sBX12_needsSign_22 : Snd XX12_needsSign fVH 22 (BX12_needsSign_22) (0) (0) := by
  unfold BX12_needsSign_22
  refine s_cal0 25 (run_V (X := XX12_needsSign) rfl clX12 yoX12_goesOn rfl tw_1531 tw_1533 tw_p51 (by decide) dX12_needsSign_22) cmX12_goesOn (fun _ _ _ => rfl) rfl ?_
  exact s_vretH rfl dX12_needsSign_25
def BX12_needsSign_18 : KT HP :=
  oCal 2 (some 12) EX12_flaw fVH (oAld 0 (oPick [] (BX12_needsSign_22)))
set_option maxRecDepth 20000 in
theorem sBX12_needsSign_18 : Snd XX12_needsSign fVH 18 (BX12_needsSign_18) (0) (0) := by
  unfold BX12_needsSign_18
  refine s_cal0 21 (run_V (X := XX12_needsSign) rfl clX12 yoX12_flaw rfl tw_1568 tw_1570 tw_p57 (by decide) dX12_needsSign_18) cmX12_flaw (fun _ _ _ => rfl) rfl ?_
  refine s_Aldn 0 rfl 22 dX12_needsSign_21 rfl ?_
  exact s_pick (sBX12_needsSign_22)
def BX12_needsSign_0 : KT HP :=
  oAld 0 (oGet 12 9 (oConst (.int 4) (oCmpne (oAld 0 (oConst (.int 1) (oPick [0] (BX12_needsSign_18)))) (oAld 0 (oGet 12 11 (oIld 1 (oCmpeq (oAld 0 (oPick [] (BX12_needsSign_22))) (oAld 0 (oConst (.int 1) (oPick [0] (BX12_needsSign_18)))))))))))
set_option maxRecDepth 20000 in
theorem sBX12_needsSign_0 : Snd XX12_needsSign fVH 0 (BX12_needsSign_0) (0) (0) := by
  unfold BX12_needsSign_0
  refine s_Aldn 0 rfl 1 dX12_needsSign_0 rfl ?_
  refine s_get 12 9 4 clX12 (by decide) tw_1297 dX12_needsSign_1 rfl ?_
  refine s_iconst 5 4 (by decide) dX12_needsSign_4 rfl ?_
  refine s_cmpne 16 8 dX12_needsSign_5 (by decide) rfl ?_ ?_
  · refine s_Aldn 0 rfl 17 dX12_needsSign_16 rfl ?_
    refine s_iconst 18 1 (by decide) dX12_needsSign_17 rfl ?_
    exact s_pick (sBX12_needsSign_18)
  · refine s_Aldn 0 rfl 9 dX12_needsSign_8 rfl ?_
    refine s_get 12 11 12 clX12 (by decide) tw_1299 dX12_needsSign_9 rfl ?_
    refine s_Ildn 1 rfl 13 dX12_needsSign_12 rfl ?_
    refine s_cmpeq 21 16 dX12_needsSign_13 (by decide) rfl ?_ ?_
    · refine s_Aldn 0 rfl 22 dX12_needsSign_21 rfl ?_
      exact s_pick (sBX12_needsSign_22)
    · refine s_Aldn 0 rfl 17 dX12_needsSign_16 rfl ?_
      refine s_iconst 18 1 (by decide) dX12_needsSign_17 rfl ?_
      exact s_pick (sBX12_needsSign_18)
def EX12_needsSign : List Value → HP → Option HP := en 2 BX12_needsSign_0
theorem cmX12_needsSign : CM XX12_needsSign EX12_needsSign fVH 0 0 := CM.of rfl (by decide) rfl rfl sBX12_needsSign_0
theorem yoX12_needsSign : YO XX12_needsSign 1 0 0 := ⟨tw_1627, rfl, tw_12, (by decide +kernel), rfl, rfl⟩
abbrev XX12_bounded : MX := (yX12_bounded, cX12_bounded, 3, (Option.some .int), Cond.code yX12_bounded cX12_bounded 3 (Option.some .int) :: WS, { frames := 1, cells := 0, slots := 0, locals := 22 })
def BX12_bounded_33 : KT (Int32 × HP) :=
  oAld 0 (oGet 12 9 (oConst (.int 5) (oCmpne (oAld 0 (oGet 12 12 (oIretH))) (oIld 1 (oIretH)))))
set_option maxRecDepth 20000 in
theorem sBX12_bounded_33 : Snd XX12_bounded fIH 33 (BX12_bounded_33) (0) (0) := by
  unfold BX12_bounded_33
  refine s_Aldn 0 rfl 34 dX12_bounded_33 rfl ?_
  refine s_get 12 9 37 clX12 (by decide) tw_1297 dX12_bounded_34 rfl ?_
  refine s_iconst 38 5 (by decide) dX12_bounded_37 rfl ?_
  refine s_cmpne 45 41 dX12_bounded_38 (by decide) rfl ?_ ?_
  · refine s_Aldn 0 rfl 46 dX12_bounded_45 rfl ?_
    refine s_get 12 12 49 clX12 (by decide) tw_1300 dX12_bounded_46 rfl ?_
    exact s_iretH rfl dX12_bounded_49
  · refine s_Ildn 1 rfl 42 dX12_bounded_41 rfl ?_
    refine s_goto 49 dX12_bounded_42 (by decide) ?_
    exact s_iretH rfl dX12_bounded_49
def BX12_bounded_30 : KT (Int32 × HP) :=
  oCal 2 (some 12) EX12_flaw fVH (oPick [0, 1] (BX12_bounded_33))
set_option maxRecDepth 20000 in
theorem sBX12_bounded_30 : Snd XX12_bounded fIH 30 (BX12_bounded_30) (0) (0) := by
  unfold BX12_bounded_30
  refine s_cal0 33 (run_V (X := XX12_bounded) rfl clX12 yoX12_flaw rfl tw_1568 tw_1570 tw_p57 (by decide) dX12_bounded_30) cmX12_flaw (fun _ _ _ => rfl) rfl ?_
  exact s_pick (sBX12_bounded_33)
def BX12_bounded_22 : KT (Int32 × HP) :=
  oCal 3 none EX12_in fZ (oIfne (oPick [0, 1] (BX12_bounded_33)) (oAld 0 (oConst (.int 4) (oPick [0, 1] (BX12_bounded_30)))))
set_option maxRecDepth 20000 in
theorem sBX12_bounded_22 : Snd XX12_bounded fIH 22 (BX12_bounded_22) (0) (0) := by
  unfold BX12_bounded_22
  refine s_cal0 25 (run_S (X := XX12_bounded) yoX12_in tw_1589 tw_1590 (by decide) dX12_bounded_22) cmX12_in (fun _ _ _ => rfl) rfl ?_
  refine s_ifne 33 28 dX12_bounded_25 (by decide) rfl ?_ ?_
  · exact s_pick (sBX12_bounded_33)
  · refine s_Aldn 0 rfl 29 dX12_bounded_28 rfl ?_
    refine s_iconst 30 4 (by decide) dX12_bounded_29 rfl ?_
    exact s_pick (sBX12_bounded_30)
def BX12_bounded_10 : KT (Int32 × HP) :=
  oCal 2 (some 12) EX12_flaw fVH (oPick [0, 1] (BX12_bounded_33))
set_option maxRecDepth 20000 in
theorem sBX12_bounded_10 : Snd XX12_bounded fIH 10 (BX12_bounded_10) (0) (0) := by
  unfold BX12_bounded_10
  refine s_cal0 13 (run_V (X := XX12_bounded) rfl clX12 yoX12_flaw rfl tw_1568 tw_1570 tw_p57 (by decide) dX12_bounded_10) cmX12_flaw (fun _ _ _ => rfl) rfl ?_
  refine s_goto 33 dX12_bounded_13 (by decide) ?_
  exact s_pick (sBX12_bounded_33)
def BX12_bounded_0 : KT (Int32 × HP) :=
  oAld 0 (oGet 12 9 (oConst (.int 3) (oCmpeq (oAld 0 (oGet 12 12 (oIld 1 (oIld 2 (oPick [0, 1] (BX12_bounded_22)))))) (oAld 0 (oConst (.int 1) (oPick [0, 1] (BX12_bounded_10)))))))
set_option maxRecDepth 20000 in
theorem sBX12_bounded_0 : Snd XX12_bounded fIH 0 (BX12_bounded_0) (0) (0) := by
  unfold BX12_bounded_0
  refine s_Aldn 0 rfl 1 dX12_bounded_0 rfl ?_
  refine s_get 12 9 4 clX12 (by decide) tw_1297 dX12_bounded_1 rfl ?_
  refine s_iconst 5 3 (by decide) dX12_bounded_4 rfl ?_
  refine s_cmpeq 16 8 dX12_bounded_5 (by decide) rfl ?_ ?_
  · refine s_Aldn 0 rfl 17 dX12_bounded_16 rfl ?_
    refine s_get 12 12 20 clX12 (by decide) tw_1300 dX12_bounded_17 rfl ?_
    refine s_Ildn 1 rfl 21 dX12_bounded_20 rfl ?_
    refine s_Ildn 2 rfl 22 dX12_bounded_21 rfl ?_
    exact s_pick (sBX12_bounded_22)
  · refine s_Aldn 0 rfl 9 dX12_bounded_8 rfl ?_
    refine s_iconst 10 1 (by decide) dX12_bounded_9 rfl ?_
    exact s_pick (sBX12_bounded_10)
def EX12_bounded : List Value → HP → Option (Int32 × HP) := en 3 BX12_bounded_0
theorem cmX12_bounded : CM XX12_bounded EX12_bounded fIH 0 0 := CM.of rfl (by decide) rfl rfl sBX12_bounded_0
theorem yoX12_bounded : YO XX12_bounded 2 0 0 := ⟨tw_1588, rfl, tw_12, (by decide +kernel), rfl, rfl⟩
abbrev XX12_readWhole : MX := (yX12_readWhole, cX12_readWhole, 4, (Option.some .int), Cond.code yX12_readWhole cX12_readWhole 4 (Option.some .int) :: WS, { frames := 2, cells := 0, slots := 0, locals := 44 })
def BX12_readWhole_8 : KT (Int32 × HP) :=
  oCal 1 (some 12) EX12_goesOn fVH (oIld 3 (oIretH))
set_option maxRecDepth 20000 in
theorem sBX12_readWhole_8 : Snd XX12_readWhole fIH 8 (BX12_readWhole_8) (0) (0) := by
  unfold BX12_readWhole_8
  refine s_cal0 11 (run_V (X := XX12_readWhole) rfl clX12 yoX12_goesOn rfl tw_1531 tw_1533 tw_p51 (by decide) dX12_readWhole_8) cmX12_goesOn (fun _ _ _ => rfl) rfl ?_
  refine s_Ildn 3 rfl 12 dX12_readWhole_11 rfl ?_
  exact s_iretH rfl dX12_readWhole_12
def BX12_readWhole_3 : KT (Int32 × HP) :=
  oCal 3 (some 12) EX12_bounded fIH (oIst 3 (oAld 0 (oPick [3] (BX12_readWhole_8))))
set_option maxRecDepth 20000 in
theorem sBX12_readWhole_3 : Snd XX12_readWhole fIH 3 (BX12_readWhole_3) (0) (0) := by
  unfold BX12_readWhole_3
  refine s_cal0 6 (run_V (X := XX12_readWhole) rfl clX12 yoX12_bounded rfl tw_1585 tw_1587 tw_p61 (by decide) dX12_readWhole_3) cmX12_bounded (fun _ _ _ => rfl) rfl ?_
  refine s_Istn 3 rfl 7 (by decide) dX12_readWhole_6 rfl ?_
  refine s_Aldn 0 rfl 8 dX12_readWhole_7 rfl ?_
  exact s_pick (sBX12_readWhole_8)
def BX12_readWhole_0 : KT (Int32 × HP) :=
  oAld 0 (oIld 1 (oIld 2 (oPick [0] (BX12_readWhole_3))))
set_option maxRecDepth 20000 in
theorem sBX12_readWhole_0 : Snd XX12_readWhole fIH 0 (BX12_readWhole_0) (0) (0) := by
  unfold BX12_readWhole_0
  refine s_Aldn 0 rfl 1 dX12_readWhole_0 rfl ?_
  refine s_Ildn 1 rfl 2 dX12_readWhole_1 rfl ?_
  refine s_Ildn 2 rfl 3 dX12_readWhole_2 rfl ?_
  exact s_pick (sBX12_readWhole_3)
def EX12_readWhole : List Value → HP → Option (Int32 × HP) := en 4 BX12_readWhole_0
theorem cmX12_readWhole : CM XX12_readWhole EX12_readWhole fIH 0 0 := CM.of rfl (by decide) rfl rfl sBX12_readWhole_0
theorem yoX12_readWhole : YO XX12_readWhole 2 0 0 := ⟨tw_1584, rfl, tw_12, (by decide +kernel), rfl, rfl⟩
abbrev XX12_readPart : MX := (yX12_readPart, cX12_readPart, 4, (Option.some .int), Cond.code yX12_readPart cX12_readPart 4 (Option.some .int) :: WS, { frames := 7, cells := 0, slots := 0, locals := 150 })
def BX12_readPart_8 : KT (Int32 × HP) :=
  oCal 3 (some 12) EX12_readWhole fIH (oIretH)
set_option maxRecDepth 20000 in
theorem sBX12_readPart_8 : Snd XX12_readPart fIH 8 (BX12_readPart_8) (0) (0) := by
  unfold BX12_readPart_8
  refine s_cal0 11 (run_V (X := XX12_readPart) rfl clX12 yoX12_readWhole rfl tw_1581 tw_1583 tw_p60 (by decide) dX12_readPart_8) cmX12_readWhole (fun _ _ _ => rfl) rfl ?_
  exact s_iretH rfl dX12_readPart_11
def BX12_readPart_2 : KT (Int32 × HP) :=
  oCal 2 (some 12) EX12_needs fVH (oAld 0 (oIld 2 (oIld 3 (oPick [] (BX12_readPart_8)))))
set_option maxRecDepth 20000 in
theorem sBX12_readPart_2 : Snd XX12_readPart fIH 2 (BX12_readPart_2) (0) (0) := by
  unfold BX12_readPart_2
  refine s_cal0 5 (run_V (X := XX12_readPart) rfl clX12 yoX12_needs rfl tw_1577 tw_1579 tw_p59 (by decide) dX12_readPart_2) cmX12_needs (fun _ _ _ => rfl) rfl ?_
  refine s_Aldn 0 rfl 6 dX12_readPart_5 rfl ?_
  refine s_Ildn 2 rfl 7 dX12_readPart_6 rfl ?_
  refine s_Ildn 3 rfl 8 dX12_readPart_7 rfl ?_
  exact s_pick (sBX12_readPart_8)
def BX12_readPart_0 : KT (Int32 × HP) :=
  oAld 0 (oAld 1 (oPick [0, 2, 3] (BX12_readPart_2)))
set_option maxRecDepth 20000 in
theorem sBX12_readPart_0 : Snd XX12_readPart fIH 0 (BX12_readPart_0) (0) (0) := by
  unfold BX12_readPart_0
  refine s_Aldn 0 rfl 1 dX12_readPart_0 rfl ?_
  refine s_Aldn 1 rfl 2 dX12_readPart_1 rfl ?_
  exact s_pick (sBX12_readPart_2)
def EX12_readPart : List Value → HP → Option (Int32 × HP) := en 4 BX12_readPart_0
theorem cmX12_readPart : CM XX12_readPart EX12_readPart fIH 0 0 := CM.of rfl (by decide) rfl rfl sBX12_readPart_0
theorem yoX12_readPart : YO XX12_readPart 3 0 0 := ⟨tw_1576, rfl, tw_12, (by decide +kernel), rfl, rfl⟩
abbrev XX12_begins : MX := (yX12_begins, cX12_begins, 3, none, Cond.code yX12_begins cX12_begins 3 none :: WS, { frames := 2, cells := 0, slots := 0, locals := 43 })
def BX12_begins_27 : KT HP :=
  oCal 1 (some 12) EX12_goesOn fVH (oVretH)
set_option maxRecDepth 20000 in
theorem sBX12_begins_27 : Snd XX12_begins fVH 27 (BX12_begins_27) (0) (0) := by
  unfold BX12_begins_27
  refine s_cal0 30 (run_V (X := XX12_begins) rfl clX12 yoX12_goesOn rfl tw_1531 tw_1533 tw_p51 (by decide) dX12_begins_27) cmX12_goesOn (fun _ _ _ => rfl) rfl ?_
  exact s_vretH rfl dX12_begins_30
def BX12_begins_23 : KT HP :=
  oCal 2 (some 12) EX12_flaw fVH (oAld 0 (oPick [] (BX12_begins_27)))
set_option maxRecDepth 20000 in
theorem sBX12_begins_23 : Snd XX12_begins fVH 23 (BX12_begins_23) (0) (0) := by
  unfold BX12_begins_23
  refine s_cal0 26 (run_V (X := XX12_begins) rfl clX12 yoX12_flaw rfl tw_1568 tw_1570 tw_p57 (by decide) dX12_begins_23) cmX12_flaw (fun _ _ _ => rfl) rfl ?_
  refine s_Aldn 0 rfl 27 dX12_begins_26 rfl ?_
  exact s_pick (sBX12_begins_27)
def BX12_begins_10 : KT HP :=
  oAld 0 (oGet 12 4 (oGet 11 0 (oIfne (oAld 0 (oPick [] (BX12_begins_27))) (oAld 0 (oConst (.int 6) (oPick [0] (BX12_begins_23)))))))
set_option maxRecDepth 20000 in
theorem sBX12_begins_10 : Snd XX12_begins fVH 10 (BX12_begins_10) (0) (0) := by
  unfold BX12_begins_10
  refine s_Aldn 0 rfl 11 dX12_begins_10 rfl ?_
  refine s_get 12 4 14 clX12 (by decide) tw_1292 dX12_begins_11 rfl ?_
  refine s_getN 11 0 17 clX11 (by decide) nw_42 dX12_begins_14 rfl ?_
  refine s_ifne 26 20 dX12_begins_17 (by decide) rfl ?_ ?_
  · refine s_Aldn 0 rfl 27 dX12_begins_26 rfl ?_
    exact s_pick (sBX12_begins_27)
  · refine s_Aldn 0 rfl 21 dX12_begins_20 rfl ?_
    refine s_bipush 23 6 (by decide) dX12_begins_21 rfl ?_
    exact s_pick (sBX12_begins_23)
def BX12_begins_7 : KT HP :=
  oCal 2 (some 12) EX12_flaw fVH (oPick [0] (BX12_begins_10))
set_option maxRecDepth 20000 in
theorem sBX12_begins_7 : Snd XX12_begins fVH 7 (BX12_begins_7) (0) (0) := by
  unfold BX12_begins_7
  refine s_cal0 10 (run_V (X := XX12_begins) rfl clX12 yoX12_flaw rfl tw_1568 tw_1570 tw_p57 (by decide) dX12_begins_7) cmX12_flaw (fun _ _ _ => rfl) rfl ?_
  exact s_pick (sBX12_begins_10)
def BX12_begins_0 : KT HP :=
  oIld 1 (oIld 2 (oCmpne (oPick [0] (BX12_begins_10)) (oAld 0 (oConst (.int 5) (oPick [0] (BX12_begins_7))))))
set_option maxRecDepth 20000 in
theorem sBX12_begins_0 : Snd XX12_begins fVH 0 (BX12_begins_0) (0) (0) := by
  unfold BX12_begins_0
  refine s_Ildn 1 rfl 1 dX12_begins_0 rfl ?_
  refine s_Ildn 2 rfl 2 dX12_begins_1 rfl ?_
  refine s_cmpne 10 5 dX12_begins_2 (by decide) rfl ?_ ?_
  · exact s_pick (sBX12_begins_10)
  · refine s_Aldn 0 rfl 6 dX12_begins_5 rfl ?_
    refine s_iconst 7 5 (by decide) dX12_begins_6 rfl ?_
    exact s_pick (sBX12_begins_7)
def EX12_begins : List Value → HP → Option HP := en 3 BX12_begins_0
theorem cmX12_begins : CM XX12_begins EX12_begins fVH 0 0 := CM.of rfl (by decide) rfl rfl sBX12_begins_0
theorem yoX12_begins : YO XX12_begins 2 0 0 := ⟨tw_1604, rfl, tw_12, (by decide +kernel), rfl, rfl⟩
abbrev XX12_readCell : MX := (yX12_readCell, cX12_readCell, 3, (Option.some .int), Cond.code yX12_readCell cX12_readCell 3 (Option.some .int) :: WS, { frames := 3, cells := 0, slots := 0, locals := 67 })
def BX12_readCell_32 : KT (Int32 × HP) :=
  oCal 3 (some 12) EX12_readWhole fIH (oIst 2 (oAld 0 (oGet 12 4 (oGet 11 0 (oIld 2 (oimul (oIld 1 (oiadd (oIretH)))))))))
set_option maxRecDepth 20000 in
theorem sBX12_readCell_32 : Snd XX12_readCell fIH 32 (BX12_readCell_32) (0) (0) := by
  unfold BX12_readCell_32
  refine s_cal0 35 (run_V (X := XX12_readCell) rfl clX12 yoX12_readWhole rfl tw_1581 tw_1583 tw_p60 (by decide) dX12_readCell_32) cmX12_readWhole (fun _ _ _ => rfl) rfl ?_
  refine s_Istn 2 rfl 36 (by decide) dX12_readCell_35 rfl ?_
  refine s_Aldn 0 rfl 37 dX12_readCell_36 rfl ?_
  refine s_get 12 4 40 clX12 (by decide) tw_1292 dX12_readCell_37 rfl ?_
  refine s_getN 11 0 43 clX11 (by decide) nw_42 dX12_readCell_40 rfl ?_
  refine s_Ildn 2 rfl 44 dX12_readCell_43 rfl ?_
  refine s_imul 45 dX12_readCell_44 rfl ?_
  refine s_Ildn 1 rfl 46 dX12_readCell_45 rfl ?_
  refine s_iadd 47 dX12_readCell_46 rfl ?_
  exact s_iretH rfl dX12_readCell_47
def BX12_readCell_18 : KT (Int32 × HP) :=
  oCal 2 (some 12) EX12_needsSign fVH (oAld 0 (oConst (.int 0) (oAld 0 (oGet 12 4 (oGet 11 1 (oConst (.int 1) (oisub (oPick [0, 1] (BX12_readCell_32)))))))))
set_option maxRecDepth 20000 in
theorem sBX12_readCell_18 : Snd XX12_readCell fIH 18 (BX12_readCell_18) (0) (0) := by
  unfold BX12_readCell_18
  refine s_cal0 21 (run_V (X := XX12_readCell) rfl clX12 yoX12_needsSign rfl tw_1624 tw_1626 tw_p68 (by decide) dX12_readCell_18) cmX12_needsSign (fun _ _ _ => rfl) rfl ?_
  refine s_Aldn 0 rfl 22 dX12_readCell_21 rfl ?_
  refine s_iconst 23 0 (by decide) dX12_readCell_22 rfl ?_
  refine s_Aldn 0 rfl 24 dX12_readCell_23 rfl ?_
  refine s_get 12 4 27 clX12 (by decide) tw_1292 dX12_readCell_24 rfl ?_
  refine s_getN 11 1 30 clX11 (by decide) nw_43 dX12_readCell_27 rfl ?_
  refine s_iconst 31 1 (by decide) dX12_readCell_30 rfl ?_
  refine s_isub 32 dX12_readCell_31 rfl ?_
  exact s_pick (sBX12_readCell_32)
def BX12_readCell_11 : KT (Int32 × HP) :=
  oCal 3 (some 12) EX12_readWhole fIH (oIst 1 (oAld 0 (oConst (.int 44) (oPick [0, 1] (BX12_readCell_18)))))
set_option maxRecDepth 20000 in
theorem sBX12_readCell_11 : Snd XX12_readCell fIH 11 (BX12_readCell_11) (0) (0) := by
  unfold BX12_readCell_11
  refine s_cal0 14 (run_V (X := XX12_readCell) rfl clX12 yoX12_readWhole rfl tw_1581 tw_1583 tw_p60 (by decide) dX12_readCell_11) cmX12_readWhole (fun _ _ _ => rfl) rfl ?_
  refine s_Istn 1 rfl 15 (by decide) dX12_readCell_14 rfl ?_
  refine s_Aldn 0 rfl 16 dX12_readCell_15 rfl ?_
  refine s_bipush 18 44 (by decide) dX12_readCell_16 rfl ?_
  exact s_pick (sBX12_readCell_18)
def BX12_readCell_0 : KT (Int32 × HP) :=
  oAld 0 (oConst (.int 0) (oAld 0 (oGet 12 4 (oGet 11 0 (oConst (.int 1) (oisub (oPick [0] (BX12_readCell_11))))))))
set_option maxRecDepth 20000 in
theorem sBX12_readCell_0 : Snd XX12_readCell fIH 0 (BX12_readCell_0) (0) (0) := by
  unfold BX12_readCell_0
  refine s_Aldn 0 rfl 1 dX12_readCell_0 rfl ?_
  refine s_iconst 2 0 (by decide) dX12_readCell_1 rfl ?_
  refine s_Aldn 0 rfl 3 dX12_readCell_2 rfl ?_
  refine s_get 12 4 6 clX12 (by decide) tw_1292 dX12_readCell_3 rfl ?_
  refine s_getN 11 0 9 clX11 (by decide) nw_42 dX12_readCell_6 rfl ?_
  refine s_iconst 10 1 (by decide) dX12_readCell_9 rfl ?_
  refine s_isub 11 dX12_readCell_10 rfl ?_
  exact s_pick (sBX12_readCell_11)
def EX12_readCell : List Value → HP → Option (Int32 × HP) := en 3 BX12_readCell_0
theorem cmX12_readCell : CM XX12_readCell EX12_readCell fIH 0 0 := CM.of rfl (by decide) rfl rfl sBX12_readCell_0
theorem yoX12_readCell : YO XX12_readCell 0 0 0 := ⟨tw_1639, rfl, tw_12, (by decide +kernel), rfl, rfl⟩
abbrev XX12_readMeadow : MX := (yX12_readMeadow, cX12_readMeadow, 6, none, Cond.code yX12_readMeadow cX12_readMeadow 6 none :: WS, { frames := 8, cells := 0, slots := 0, locals := 173 })
def BX12_readMeadow_66 : KT HP :=
  oCal 4 (some 12) EX12_readPart fIH (oIst 5 (oAld 0 (oGet 12 9 (oConst (.int 5) (oCmpne (oAld 0 (oGet 12 4 (oIld 1 (oPut 11 0 .int (oAld 0 (oGet 12 4 (oIld 2 (oPut 11 1 .int (oAld 0 (oGet 12 4 (oIld 3 (oPut 11 2 .int (oAld 0 (oGet 12 4 (oIld 4 (oPut 11 3 .int (oAld 0 (oGet 12 4 (oIld 5 (oPut 11 4 .int (oVretH))))))))))))))))))))) (oVretH))))))
set_option maxRecDepth 20000 in
theorem sBX12_readMeadow_66 : Snd XX12_readMeadow fVH 66 (BX12_readMeadow_66) (0) (0) := by
  unfold BX12_readMeadow_66
  refine s_cal0 69 (run_V (X := XX12_readMeadow) rfl clX12 yoX12_readPart rfl tw_1573 tw_1575 tw_p58 (by decide) dX12_readMeadow_66) cmX12_readPart (fun _ _ _ => rfl) rfl ?_
  refine s_Ist 5 71 (by decide) dX12_readMeadow_69 rfl ?_
  refine s_Aldn 0 rfl 72 dX12_readMeadow_71 rfl ?_
  refine s_get 12 9 75 clX12 (by decide) tw_1297 dX12_readMeadow_72 rfl ?_
  refine s_iconst 76 5 (by decide) dX12_readMeadow_75 rfl ?_
  refine s_cmpne 80 79 dX12_readMeadow_76 (by decide) rfl ?_ ?_
  · refine s_Aldn 0 rfl 81 dX12_readMeadow_80 rfl ?_
    refine s_get 12 4 84 clX12 (by decide) tw_1292 dX12_readMeadow_81 rfl ?_
    refine s_Ildn 1 rfl 85 dX12_readMeadow_84 rfl ?_
    refine s_putN 11 0 88 clX11 (by decide) rfl rfl pVH nw_42 dX12_readMeadow_85 rfl ?_
    refine s_Aldn 0 rfl 89 dX12_readMeadow_88 rfl ?_
    refine s_get 12 4 92 clX12 (by decide) tw_1292 dX12_readMeadow_89 rfl ?_
    refine s_Ildn 2 rfl 93 dX12_readMeadow_92 rfl ?_
    refine s_putN 11 1 96 clX11 (by decide) rfl rfl pVH nw_43 dX12_readMeadow_93 rfl ?_
    refine s_Aldn 0 rfl 97 dX12_readMeadow_96 rfl ?_
    refine s_get 12 4 100 clX12 (by decide) tw_1292 dX12_readMeadow_97 rfl ?_
    refine s_Ildn 3 rfl 101 dX12_readMeadow_100 rfl ?_
    refine s_putN 11 2 104 clX11 (by decide) rfl rfl pVH nw_44 dX12_readMeadow_101 rfl ?_
    refine s_Aldn 0 rfl 105 dX12_readMeadow_104 rfl ?_
    refine s_get 12 4 108 clX12 (by decide) tw_1292 dX12_readMeadow_105 rfl ?_
    refine s_Ild 4 110 dX12_readMeadow_108 rfl ?_
    refine s_putN 11 3 113 clX11 (by decide) rfl rfl pVH nw_45 dX12_readMeadow_110 rfl ?_
    refine s_Aldn 0 rfl 114 dX12_readMeadow_113 rfl ?_
    refine s_get 12 4 117 clX12 (by decide) tw_1292 dX12_readMeadow_114 rfl ?_
    refine s_Ild 5 119 dX12_readMeadow_117 rfl ?_
    refine s_putN 11 4 122 clX11 (by decide) rfl rfl pVH nw_46 dX12_readMeadow_119 rfl ?_
    exact s_vretH rfl dX12_readMeadow_122
  · exact s_vretH rfl dX12_readMeadow_79
def BX12_readMeadow_56 : KT HP :=
  oCal 4 (some 12) EX12_readPart fIH (oIst 4 (oAld 0 (oConst (.ref 2018) (oConst (.int 1) (oConst (.int 4) (oPick [0, 1, 2, 3, 4] (BX12_readMeadow_66)))))))
set_option maxRecDepth 20000 in
theorem sBX12_readMeadow_56 : Snd XX12_readMeadow fVH 56 (BX12_readMeadow_56) (0) (0) := by
  unfold BX12_readMeadow_56
  refine s_cal0 59 (run_V (X := XX12_readMeadow) rfl clX12 yoX12_readPart rfl tw_1573 tw_1575 tw_p58 (by decide) dX12_readMeadow_56) cmX12_readPart (fun _ _ _ => rfl) rfl ?_
  refine s_Ist 4 61 (by decide) dX12_readMeadow_59 rfl ?_
  refine s_Aldn 0 rfl 62 dX12_readMeadow_61 rfl ?_
  refine s_ldcS 64 18 2018 rfl sr_MownMazeModel_235 dX12_readMeadow_62 rfl ?_
  refine s_iconst 65 1 (by decide) dX12_readMeadow_64 rfl ?_
  refine s_iconst 66 4 (by decide) dX12_readMeadow_65 rfl ?_
  exact s_pick (sBX12_readMeadow_66)
def BX12_readMeadow_46 : KT HP :=
  oCal 4 (some 12) EX12_readPart fIH (oIst 3 (oAld 0 (oConst (.ref 2017) (oConst (.int 0) (oConst (.int 99) (oPick [0, 1, 2, 3] (BX12_readMeadow_56)))))))
set_option maxRecDepth 20000 in
theorem sBX12_readMeadow_46 : Snd XX12_readMeadow fVH 46 (BX12_readMeadow_46) (0) (0) := by
  unfold BX12_readMeadow_46
  refine s_cal0 49 (run_V (X := XX12_readMeadow) rfl clX12 yoX12_readPart rfl tw_1573 tw_1575 tw_p58 (by decide) dX12_readMeadow_46) cmX12_readPart (fun _ _ _ => rfl) rfl ?_
  refine s_Istn 3 rfl 50 (by decide) dX12_readMeadow_49 rfl ?_
  refine s_Aldn 0 rfl 51 dX12_readMeadow_50 rfl ?_
  refine s_ldcS 53 17 2017 rfl sr_MownMazeModel_233 dX12_readMeadow_51 rfl ?_
  refine s_iconst 54 0 (by decide) dX12_readMeadow_53 rfl ?_
  refine s_bipush 56 99 (by decide) dX12_readMeadow_54 rfl ?_
  exact s_pick (sBX12_readMeadow_56)
def BX12_readMeadow_35 : KT HP :=
  oCal 4 (some 12) EX12_readPart fIH (oIst 2 (oAld 0 (oConst (.ref 2016) (oConst (.int 1) (oConst (.int 200) (oPick [0, 1, 2] (BX12_readMeadow_46)))))))
set_option maxRecDepth 20000 in
theorem sBX12_readMeadow_35 : Snd XX12_readMeadow fVH 35 (BX12_readMeadow_35) (0) (0) := by
  unfold BX12_readMeadow_35
  refine s_cal0 38 (run_V (X := XX12_readMeadow) rfl clX12 yoX12_readPart rfl tw_1573 tw_1575 tw_p58 (by decide) dX12_readMeadow_35) cmX12_readPart (fun _ _ _ => rfl) rfl ?_
  refine s_Istn 2 rfl 39 (by decide) dX12_readMeadow_38 rfl ?_
  refine s_Aldn 0 rfl 40 dX12_readMeadow_39 rfl ?_
  refine s_ldcS 42 16 2016 rfl sr_MownMazeModel_231 dX12_readMeadow_40 rfl ?_
  refine s_iconst 43 1 (by decide) dX12_readMeadow_42 rfl ?_
  refine s_sipush 46 200 (by decide) dX12_readMeadow_43 rfl ?_
  exact s_pick (sBX12_readMeadow_46)
def BX12_readMeadow_25 : KT HP :=
  oCal 4 (some 12) EX12_readPart fIH (oIst 1 (oAld 0 (oConst (.ref 2015) (oConst (.int 2) (oConst (.int 6) (oPick [0, 1] (BX12_readMeadow_35)))))))
set_option maxRecDepth 20000 in
theorem sBX12_readMeadow_25 : Snd XX12_readMeadow fVH 25 (BX12_readMeadow_25) (0) (0) := by
  unfold BX12_readMeadow_25
  refine s_cal0 28 (run_V (X := XX12_readMeadow) rfl clX12 yoX12_readPart rfl tw_1573 tw_1575 tw_p58 (by decide) dX12_readMeadow_25) cmX12_readPart (fun _ _ _ => rfl) rfl ?_
  refine s_Istn 1 rfl 29 (by decide) dX12_readMeadow_28 rfl ?_
  refine s_Aldn 0 rfl 30 dX12_readMeadow_29 rfl ?_
  refine s_ldcS 32 15 2015 rfl sr_MownMazeModel_230 dX12_readMeadow_30 rfl ?_
  refine s_iconst 33 2 (by decide) dX12_readMeadow_32 rfl ?_
  refine s_bipush 35 6 (by decide) dX12_readMeadow_33 rfl ?_
  exact s_pick (sBX12_readMeadow_35)
def BX12_readMeadow_16 : KT HP :=
  oCal 1 (some 12) EX12_goesOn fVH (oAld 0 (oConst (.ref 2014) (oConst (.int 2) (oConst (.int 8) (oPick [0] (BX12_readMeadow_25))))))
set_option maxRecDepth 20000 in
theorem sBX12_readMeadow_16 : Snd XX12_readMeadow fVH 16 (BX12_readMeadow_16) (0) (0) := by
  unfold BX12_readMeadow_16
  refine s_cal0 19 (run_V (X := XX12_readMeadow) rfl clX12 yoX12_goesOn rfl tw_1531 tw_1533 tw_p51 (by decide) dX12_readMeadow_16) cmX12_goesOn (fun _ _ _ => rfl) rfl ?_
  refine s_Aldn 0 rfl 20 dX12_readMeadow_19 rfl ?_
  refine s_ldcS 22 14 2014 rfl sr_MownMazeModel_225 dX12_readMeadow_20 rfl ?_
  refine s_iconst 23 2 (by decide) dX12_readMeadow_22 rfl ?_
  refine s_bipush 25 8 (by decide) dX12_readMeadow_23 rfl ?_
  exact s_pick (sBX12_readMeadow_25)
def BX12_readMeadow_15 : KT HP :=
  oAld 0 (oPick [0] (BX12_readMeadow_16))
set_option maxRecDepth 20000 in
theorem sBX12_readMeadow_15 : Snd XX12_readMeadow fVH 15 (BX12_readMeadow_15) (0) (0) := by
  unfold BX12_readMeadow_15
  refine s_Aldn 0 rfl 16 dX12_readMeadow_15 rfl ?_
  exact s_pick (sBX12_readMeadow_16)
def BX12_readMeadow_12 : KT HP :=
  oCal 2 (some 12) EX12_flaw fVH (oPick [0] (BX12_readMeadow_15))
set_option maxRecDepth 20000 in
theorem sBX12_readMeadow_12 : Snd XX12_readMeadow fVH 12 (BX12_readMeadow_12) (0) (0) := by
  unfold BX12_readMeadow_12
  refine s_cal0 15 (run_V (X := XX12_readMeadow) rfl clX12 yoX12_flaw rfl tw_1568 tw_1570 tw_p57 (by decide) dX12_readMeadow_12) cmX12_flaw (fun _ _ _ => rfl) rfl ?_
  exact s_pick (sBX12_readMeadow_15)
def BX12_readMeadow_0 : KT HP :=
  oAld 0 (oGet 12 4 (oGet 11 0 (oIfle (oPick [0] (BX12_readMeadow_15)) (oAld 0 (oConst (.int 3) (oPick [0] (BX12_readMeadow_12)))))))
set_option maxRecDepth 20000 in
theorem sBX12_readMeadow_0 : Snd XX12_readMeadow fVH 0 (BX12_readMeadow_0) (0) (0) := by
  unfold BX12_readMeadow_0
  refine s_Aldn 0 rfl 1 dX12_readMeadow_0 rfl ?_
  refine s_get 12 4 4 clX12 (by decide) tw_1292 dX12_readMeadow_1 rfl ?_
  refine s_getN 11 0 7 clX11 (by decide) nw_42 dX12_readMeadow_4 rfl ?_
  refine s_ifle 15 10 dX12_readMeadow_7 (by decide) rfl ?_ ?_
  · exact s_pick (sBX12_readMeadow_15)
  · refine s_Aldn 0 rfl 11 dX12_readMeadow_10 rfl ?_
    refine s_iconst 12 3 (by decide) dX12_readMeadow_11 rfl ?_
    exact s_pick (sBX12_readMeadow_12)
def EX12_readMeadow : List Value → HP → Option HP := en 6 BX12_readMeadow_0
theorem cmX12_readMeadow : CM XX12_readMeadow EX12_readMeadow fVH 0 0 := CM.of rfl (by decide) rfl rfl sBX12_readMeadow_0
theorem yoX12_readMeadow : YO XX12_readMeadow 0 0 0 := ⟨tw_1567, rfl, tw_12, (by decide +kernel), rfl, rfl⟩
abbrev XX12_readCells : MX := (yX12_readCells, cX12_readCells, 6, none, Cond.code yX12_readCells cX12_readCells 6 none :: WS, { frames := 2, cells := 0, slots := 0, locals := 43 })
def BX12_readCells_166 : KT HP :=
  oCal 1 (some 12) EX12_goesOn fVH (oVretH)
set_option maxRecDepth 20000 in
theorem sBX12_readCells_166 : Snd XX12_readCells fVH 166 (BX12_readCells_166) (0) (0) := by
  unfold BX12_readCells_166
  refine s_cal0 169 (run_V (X := XX12_readCells) rfl clX12 yoX12_goesOn rfl tw_1531 tw_1533 tw_p51 (by decide) dX12_readCells_166) cmX12_goesOn (fun _ _ _ => rfl) rfl ?_
  exact s_vretH rfl dX12_readCells_169
def BX12_readCells_156 (k54 : KT HP) : KT HP :=
  oCal 2 (some 12) EX12_flaw fVH (oInc 3 1 (oPick [0, 1, 2, 3] k54))
set_option maxRecDepth 20000 in
theorem sBX12_readCells_156 {k54 : KT HP} (hk54 : Snd XX12_readCells fVH 54 k54 0 0) : Snd XX12_readCells fVH 156 (BX12_readCells_156 k54) (0) (0) := by
  unfold BX12_readCells_156
  refine s_cal0 159 (run_V (X := XX12_readCells) rfl clX12 yoX12_flaw rfl tw_1568 tw_1570 tw_p57 (by decide) dX12_readCells_156) cmX12_flaw (fun _ _ _ => rfl) rfl ?_
  refine s_inc 3 1 162 (by decide) (by decide) dX12_readCells_159 rfl ?_
  refine s_goto 54 dX12_readCells_162 (by decide) ?_
  exact s_pick hk54
def BX12_readCells_54 (k54 : KT HP) : KT HP :=
  oIld 3 (oAld 0 (oGet 12 4 (oGet 11 0 (oCmpge (oAld 0 (oPick [] (BX12_readCells_166))) (oAld 0 (oGet 12 9 (oConst (.int 5) (oCmpeq (oAld 0 (oPick [] (BX12_readCells_166))) (oConst (.long 1) (oAld 0 (oGet 12 4 (oGet 11 0 (oIld 1 (oimul (oIld 3 (oiadd (olshl (oLst 4 (oAld 0 (oGet 12 16 (oIld 3 (oIa (oConst (.int 109) (oCmpne (oAld 0 (oGet 12 16 (oIld 3 (oIa (oConst (.int 115) (oCmpne (oIld 2 (oIfeq (oAld 0 (oConst (.int 7) (oPick [0, 1, 2, 3] (BX12_readCells_156 k54)))) (oAld 0 (oGet 12 16 (oIld 3 (oIa (oConst (.int 97) (oCmpeq (oInc 3 1 (oPick [0, 1, 2, 3] k54)) (oAld 0 (oConst (.int 7) (oPick [0, 1, 2, 3] (BX12_readCells_156 k54)))))))))))) (oAld 0 (odup (oGet 12 19 (oLld 4 (olor (oPut 12 19 .long (oInc 3 1 (oPick [0, 1, 2, 3] k54)))))))))))))) (oAld 0 (odup (oGet 12 18 (oLld 4 (olor (oPut 12 18 .long (oInc 3 1 (oPick [0, 1, 2, 3] k54))))))))))))))))))))))))))))))))
set_option maxRecDepth 20000 in
theorem sBX12_readCells_54 {k54 : KT HP} (hk54 : Snd XX12_readCells fVH 54 k54 0 0) : Snd XX12_readCells fVH 54 (BX12_readCells_54 k54) (0) (0) := by
  unfold BX12_readCells_54
  refine s_Ildn 3 rfl 55 dX12_readCells_54 rfl ?_
  refine s_Aldn 0 rfl 56 dX12_readCells_55 rfl ?_
  refine s_get 12 4 59 clX12 (by decide) tw_1292 dX12_readCells_56 rfl ?_
  refine s_getN 11 0 62 clX11 (by decide) nw_42 dX12_readCells_59 rfl ?_
  refine s_cmpge 165 65 dX12_readCells_62 (by decide) rfl ?_ ?_
  · refine s_Aldn 0 rfl 166 dX12_readCells_165 rfl ?_
    exact s_pick (sBX12_readCells_166)
  · refine s_Aldn 0 rfl 66 dX12_readCells_65 rfl ?_
    refine s_get 12 9 69 clX12 (by decide) tw_1297 dX12_readCells_66 rfl ?_
    refine s_iconst 70 5 (by decide) dX12_readCells_69 rfl ?_
    refine s_cmpeq 165 73 dX12_readCells_70 (by decide) rfl ?_ ?_
    · refine s_Aldn 0 rfl 166 dX12_readCells_165 rfl ?_
      exact s_pick (sBX12_readCells_166)
    · refine s_lconst 74 1 (by decide) dX12_readCells_73 rfl ?_
      refine s_Aldn 0 rfl 75 dX12_readCells_74 rfl ?_
      refine s_get 12 4 78 clX12 (by decide) tw_1292 dX12_readCells_75 rfl ?_
      refine s_getN 11 0 81 clX11 (by decide) nw_42 dX12_readCells_78 rfl ?_
      refine s_Ildn 1 rfl 82 dX12_readCells_81 rfl ?_
      refine s_imul 83 dX12_readCells_82 rfl ?_
      refine s_Ildn 3 rfl 84 dX12_readCells_83 rfl ?_
      refine s_iadd 85 dX12_readCells_84 rfl ?_
      refine s_lshl 86 dX12_readCells_85 rfl ?_
      refine s_Lst 4 88 (by decide) dX12_readCells_86 rfl ?_
      refine s_Aldn 0 rfl 89 dX12_readCells_88 rfl ?_
      refine s_get 12 16 92 clX12 (by decide) tw_1304 dX12_readCells_89 rfl ?_
      refine s_Ildn 3 rfl 93 dX12_readCells_92 rfl ?_
      refine s_Ia 94 dX12_readCells_93 rfl ?_
      refine s_bipush 96 109 (by decide) dX12_readCells_94 rfl ?_
      refine s_cmpne 113 99 dX12_readCells_96 (by decide) rfl ?_ ?_
      · refine s_Aldn 0 rfl 114 dX12_readCells_113 rfl ?_
        refine s_get 12 16 117 clX12 (by decide) tw_1304 dX12_readCells_114 rfl ?_
        refine s_Ildn 3 rfl 118 dX12_readCells_117 rfl ?_
        refine s_Ia 119 dX12_readCells_118 rfl ?_
        refine s_bipush 121 115 (by decide) dX12_readCells_119 rfl ?_
        refine s_cmpne 138 124 dX12_readCells_121 (by decide) rfl ?_ ?_
        · refine s_Ildn 2 rfl 139 dX12_readCells_138 rfl ?_
          refine s_ifeq 153 142 dX12_readCells_139 (by decide) rfl ?_ ?_
          · refine s_Aldn 0 rfl 154 dX12_readCells_153 rfl ?_
            refine s_bipush 156 7 (by decide) dX12_readCells_154 rfl ?_
            exact s_pick (sBX12_readCells_156 hk54)
          · refine s_Aldn 0 rfl 143 dX12_readCells_142 rfl ?_
            refine s_get 12 16 146 clX12 (by decide) tw_1304 dX12_readCells_143 rfl ?_
            refine s_Ildn 3 rfl 147 dX12_readCells_146 rfl ?_
            refine s_Ia 148 dX12_readCells_147 rfl ?_
            refine s_bipush 150 97 (by decide) dX12_readCells_148 rfl ?_
            refine s_cmpeq 159 153 dX12_readCells_150 (by decide) rfl ?_ ?_
            · refine s_inc 3 1 162 (by decide) (by decide) dX12_readCells_159 rfl ?_
              refine s_goto 54 dX12_readCells_162 (by decide) ?_
              exact s_pick hk54
            · refine s_Aldn 0 rfl 154 dX12_readCells_153 rfl ?_
              refine s_bipush 156 7 (by decide) dX12_readCells_154 rfl ?_
              exact s_pick (sBX12_readCells_156 hk54)
        · refine s_Aldn 0 rfl 125 dX12_readCells_124 rfl ?_
          refine s_dup 126 dX12_readCells_125 rfl ?_
          refine s_get 12 19 129 clX12 (by decide) tw_1307 dX12_readCells_126 rfl ?_
          refine s_Lld 4 131 dX12_readCells_129 rfl ?_
          refine s_lor 132 dX12_readCells_131 rfl ?_
          refine s_put 12 19 135 clX12 (by decide) rfl rfl pVH tw_1307 dX12_readCells_132 rfl ?_
          refine s_goto 159 dX12_readCells_135 (by decide) ?_
          refine s_inc 3 1 162 (by decide) (by decide) dX12_readCells_159 rfl ?_
          refine s_goto 54 dX12_readCells_162 (by decide) ?_
          exact s_pick hk54
      · refine s_Aldn 0 rfl 100 dX12_readCells_99 rfl ?_
        refine s_dup 101 dX12_readCells_100 rfl ?_
        refine s_get 12 18 104 clX12 (by decide) tw_1306 dX12_readCells_101 rfl ?_
        refine s_Lld 4 106 dX12_readCells_104 rfl ?_
        refine s_lor 107 dX12_readCells_106 rfl ?_
        refine s_put 12 18 110 clX12 (by decide) rfl rfl pVH tw_1306 dX12_readCells_107 rfl ?_
        refine s_goto 159 dX12_readCells_110 (by decide) ?_
        refine s_inc 3 1 162 (by decide) (by decide) dX12_readCells_159 rfl ?_
        refine s_goto 54 dX12_readCells_162 (by decide) ?_
        exact s_pick hk54
def BX12_readCells_49 : KT HP :=
  oCal 2 (some 12) EX12_flaw fVH (oConst (.int 0) (oIst 3 (oPick [0, 1, 2, 3] (lp (BX12_readCells_54) FU))))
set_option maxRecDepth 20000 in
theorem sBX12_readCells_49 : Snd XX12_readCells fVH 49 (BX12_readCells_49) (0) (0) := by
  unfold BX12_readCells_49
  refine s_cal0 52 (run_V (X := XX12_readCells) rfl clX12 yoX12_flaw rfl tw_1568 tw_1570 tw_p57 (by decide) dX12_readCells_49) cmX12_flaw (fun _ _ _ => rfl) rfl ?_
  refine s_iconst 53 0 (by decide) dX12_readCells_52 rfl ?_
  refine s_Istn 3 rfl 54 (by decide) dX12_readCells_53 rfl ?_
  exact s_pick (s_lp (fun k hk => sBX12_readCells_54  hk) FU)
def BX12_readCells_23 : KT HP :=
  oAld 0 (oGet 12 9 (oConst (.int 5) (oCmpne (oAld 0 (oGet 12 13 (oAld 0 (oGet 12 4 (oGet 11 0 (oCmpeq (oConst (.int 0) (oIst 3 (oPick [0, 1, 2, 3] (lp (BX12_readCells_54) FU)))) (oAld 0 (oConst (.int 7) (oPick [0, 1, 2] (BX12_readCells_49)))))))))) (oVretH))))
set_option maxRecDepth 20000 in
theorem sBX12_readCells_23 : Snd XX12_readCells fVH 23 (BX12_readCells_23) (0) (0) := by
  unfold BX12_readCells_23
  refine s_Aldn 0 rfl 24 dX12_readCells_23 rfl ?_
  refine s_get 12 9 27 clX12 (by decide) tw_1297 dX12_readCells_24 rfl ?_
  refine s_iconst 28 5 (by decide) dX12_readCells_27 rfl ?_
  refine s_cmpne 32 31 dX12_readCells_28 (by decide) rfl ?_ ?_
  · refine s_Aldn 0 rfl 33 dX12_readCells_32 rfl ?_
    refine s_get 12 13 36 clX12 (by decide) tw_1301 dX12_readCells_33 rfl ?_
    refine s_Aldn 0 rfl 37 dX12_readCells_36 rfl ?_
    refine s_get 12 4 40 clX12 (by decide) tw_1292 dX12_readCells_37 rfl ?_
    refine s_getN 11 0 43 clX11 (by decide) nw_42 dX12_readCells_40 rfl ?_
    refine s_cmpeq 52 46 dX12_readCells_43 (by decide) rfl ?_ ?_
    · refine s_iconst 53 0 (by decide) dX12_readCells_52 rfl ?_
      refine s_Istn 3 rfl 54 (by decide) dX12_readCells_53 rfl ?_
      exact s_pick (s_lp (fun k hk => sBX12_readCells_54  hk) FU)
    · refine s_Aldn 0 rfl 47 dX12_readCells_46 rfl ?_
      refine s_bipush 49 7 (by decide) dX12_readCells_47 rfl ?_
      exact s_pick (sBX12_readCells_49)
  · exact s_vretH rfl dX12_readCells_31
def BX12_readCells_20 : KT HP :=
  oCal 2 (some 12) EX12_flaw fVH (oPick [0, 1, 2] (BX12_readCells_23))
set_option maxRecDepth 20000 in
theorem sBX12_readCells_20 : Snd XX12_readCells fVH 20 (BX12_readCells_20) (0) (0) := by
  unfold BX12_readCells_20
  refine s_cal0 23 (run_V (X := XX12_readCells) rfl clX12 yoX12_flaw rfl tw_1568 tw_1570 tw_p57 (by decide) dX12_readCells_20) cmX12_flaw (fun _ _ _ => rfl) rfl ?_
  exact s_pick (sBX12_readCells_23)
def BX12_readCells_0 : KT HP :=
  oAld 0 (oConst (.long 0) (oPut 12 18 .long (oAld 0 (oConst (.long 0) (oPut 12 19 .long (oAld 0 (oGet 12 9 (oConst (.int 2) (oCmpeq (oPick [0, 1, 2] (BX12_readCells_23)) (oAld 0 (oConst (.int 1) (oPick [0, 1, 2] (BX12_readCells_20)))))))))))))
set_option maxRecDepth 20000 in
theorem sBX12_readCells_0 : Snd XX12_readCells fVH 0 (BX12_readCells_0) (0) (0) := by
  unfold BX12_readCells_0
  refine s_Aldn 0 rfl 1 dX12_readCells_0 rfl ?_
  refine s_lconst 2 0 (by decide) dX12_readCells_1 rfl ?_
  refine s_put 12 18 5 clX12 (by decide) rfl rfl pVH tw_1306 dX12_readCells_2 rfl ?_
  refine s_Aldn 0 rfl 6 dX12_readCells_5 rfl ?_
  refine s_lconst 7 0 (by decide) dX12_readCells_6 rfl ?_
  refine s_put 12 19 10 clX12 (by decide) rfl rfl pVH tw_1307 dX12_readCells_7 rfl ?_
  refine s_Aldn 0 rfl 11 dX12_readCells_10 rfl ?_
  refine s_get 12 9 14 clX12 (by decide) tw_1297 dX12_readCells_11 rfl ?_
  refine s_iconst 15 2 (by decide) dX12_readCells_14 rfl ?_
  refine s_cmpeq 23 18 dX12_readCells_15 (by decide) rfl ?_ ?_
  · exact s_pick (sBX12_readCells_23)
  · refine s_Aldn 0 rfl 19 dX12_readCells_18 rfl ?_
    refine s_iconst 20 1 (by decide) dX12_readCells_19 rfl ?_
    exact s_pick (sBX12_readCells_20)
def EX12_readCells : List Value → HP → Option HP := en 6 BX12_readCells_0
theorem cmX12_readCells : CM XX12_readCells EX12_readCells fVH 0 0 := CM.of rfl (by decide) rfl rfl sBX12_readCells_0
theorem yoX12_readCells : YO XX12_readCells 2 0 0 := ⟨tw_1608, rfl, tw_12, (by decide +kernel), rfl, rfl⟩
abbrev XX12_readRow : MX := (yX12_readRow, cX12_readRow, 1, none, Cond.code yX12_readRow cX12_readRow 1 none :: WS, { frames := 3, cells := 0, slots := 0, locals := 68 })
def BX12_readRow_41 : KT HP :=
  oCal 3 (some 12) EX12_readCells fVH (oAld 0 (oGet 12 9 (oConst (.int 5) (oCmpne (oAld 0 (oGet 12 4 (odup (oGet 11 12 (oAld 0 (oGet 12 18 (olor (oPut 11 12 .long (oAld 0 (oGet 12 4 (odup (oGet 11 5 (oConst (.int 1) (oiadd (oPut 11 5 .int (oVretH)))))))))))))))) (oVretH)))))
set_option maxRecDepth 20000 in
theorem sBX12_readRow_41 : Snd XX12_readRow fVH 41 (BX12_readRow_41) (0) (0) := by
  unfold BX12_readRow_41
  refine s_cal0 44 (run_V (X := XX12_readRow) rfl clX12 yoX12_readCells rfl tw_1605 tw_1607 tw_p64 (by decide) dX12_readRow_41) cmX12_readCells (fun _ _ _ => rfl) rfl ?_
  refine s_Aldn 0 rfl 45 dX12_readRow_44 rfl ?_
  refine s_get 12 9 48 clX12 (by decide) tw_1297 dX12_readRow_45 rfl ?_
  refine s_iconst 49 5 (by decide) dX12_readRow_48 rfl ?_
  refine s_cmpne 53 52 dX12_readRow_49 (by decide) rfl ?_ ?_
  · refine s_Aldn 0 rfl 54 dX12_readRow_53 rfl ?_
    refine s_get 12 4 57 clX12 (by decide) tw_1292 dX12_readRow_54 rfl ?_
    refine s_dup 58 dX12_readRow_57 rfl ?_
    refine s_getN 11 12 61 clX11 (by decide) nw_54 dX12_readRow_58 rfl ?_
    refine s_Aldn 0 rfl 62 dX12_readRow_61 rfl ?_
    refine s_get 12 18 65 clX12 (by decide) tw_1306 dX12_readRow_62 rfl ?_
    refine s_lor 66 dX12_readRow_65 rfl ?_
    refine s_putN 11 12 69 clX11 (by decide) rfl rfl pVH nw_54 dX12_readRow_66 rfl ?_
    refine s_Aldn 0 rfl 70 dX12_readRow_69 rfl ?_
    refine s_get 12 4 73 clX12 (by decide) tw_1292 dX12_readRow_70 rfl ?_
    refine s_dup 74 dX12_readRow_73 rfl ?_
    refine s_getN 11 5 77 clX11 (by decide) nw_47 dX12_readRow_74 rfl ?_
    refine s_iconst 78 1 (by decide) dX12_readRow_77 rfl ?_
    refine s_iadd 79 dX12_readRow_78 rfl ?_
    refine s_putN 11 5 82 clX11 (by decide) rfl rfl pVH nw_47 dX12_readRow_79 rfl ?_
    exact s_vretH rfl dX12_readRow_82
  · exact s_vretH rfl dX12_readRow_52
def BX12_readRow_29 : KT HP :=
  oCal 3 (some 12) EX12_begins fVH (oAld 0 (oAld 0 (oGet 12 4 (oGet 11 5 (oConst (.int 0) (oPick [0] (BX12_readRow_41)))))))
set_option maxRecDepth 20000 in
theorem sBX12_readRow_29 : Snd XX12_readRow fVH 29 (BX12_readRow_29) (0) (0) := by
  unfold BX12_readRow_29
  refine s_cal0 32 (run_V (X := XX12_readRow) rfl clX12 yoX12_begins rfl tw_1601 tw_1603 tw_p63 (by decide) dX12_readRow_29) cmX12_begins (fun _ _ _ => rfl) rfl ?_
  refine s_Aldn 0 rfl 33 dX12_readRow_32 rfl ?_
  refine s_Aldn 0 rfl 34 dX12_readRow_33 rfl ?_
  refine s_get 12 4 37 clX12 (by decide) tw_1292 dX12_readRow_34 rfl ?_
  refine s_getN 11 5 40 clX11 (by decide) nw_47 dX12_readRow_37 rfl ?_
  refine s_iconst 41 0 (by decide) dX12_readRow_40 rfl ?_
  exact s_pick (sBX12_readRow_41)
def BX12_readRow_0 : KT HP :=
  oAld 0 (oAld 0 (oGet 12 4 (oGet 11 5 (oAld 0 (oGet 12 4 (oGet 11 0 (oIfne (oAld 0 (oGet 12 4 (oGet 11 1 (oPick [0] (BX12_readRow_29))))) (oConst (.int (-1)) (oPick [0] (BX12_readRow_29))))))))))
set_option maxRecDepth 20000 in
theorem sBX12_readRow_0 : Snd XX12_readRow fVH 0 (BX12_readRow_0) (0) (0) := by
  unfold BX12_readRow_0
  refine s_Aldn 0 rfl 1 dX12_readRow_0 rfl ?_
  refine s_Aldn 0 rfl 2 dX12_readRow_1 rfl ?_
  refine s_get 12 4 5 clX12 (by decide) tw_1292 dX12_readRow_2 rfl ?_
  refine s_getN 11 5 8 clX11 (by decide) nw_47 dX12_readRow_5 rfl ?_
  refine s_Aldn 0 rfl 9 dX12_readRow_8 rfl ?_
  refine s_get 12 4 12 clX12 (by decide) tw_1292 dX12_readRow_9 rfl ?_
  refine s_getN 11 0 15 clX11 (by decide) nw_42 dX12_readRow_12 rfl ?_
  refine s_ifne 22 18 dX12_readRow_15 (by decide) rfl ?_ ?_
  · refine s_Aldn 0 rfl 23 dX12_readRow_22 rfl ?_
    refine s_get 12 4 26 clX12 (by decide) tw_1292 dX12_readRow_23 rfl ?_
    refine s_getN 11 1 29 clX11 (by decide) nw_43 dX12_readRow_26 rfl ?_
    exact s_pick (sBX12_readRow_29)
  · refine s_iconst 19 (-1) (by decide) dX12_readRow_18 rfl ?_
    refine s_goto 29 dX12_readRow_19 (by decide) ?_
    exact s_pick (sBX12_readRow_29)
def EX12_readRow : List Value → HP → Option HP := en 1 BX12_readRow_0
theorem cmX12_readRow : CM XX12_readRow EX12_readRow fVH 0 0 := CM.of rfl (by decide) rfl rfl sBX12_readRow_0
theorem yoX12_readRow : YO XX12_readRow 0 0 0 := ⟨tw_1600, rfl, tw_12, (by decide +kernel), rfl, rfl⟩
abbrev XX12_readWant : MX := (yX12_readWant, cX12_readWant, 1, none, Cond.code yX12_readWant cX12_readWant 1 none :: WS, { frames := 3, cells := 0, slots := 0, locals := 68 })
def BX12_readWant_41 : KT HP :=
  oCal 3 (some 12) EX12_readCells fVH (oAld 0 (oGet 12 9 (oConst (.int 5) (oCmpne (oAld 0 (oGet 12 4 (odup (oGet 11 13 (oAld 0 (oGet 12 18 (olor (oPut 11 13 .long (oAld 0 (oGet 12 4 (odup (oGet 11 14 (oAld 0 (oGet 12 19 (olor (oPut 11 14 .long (oAld 0 (oGet 12 4 (odup (oGet 11 6 (oConst (.int 1) (oiadd (oPut 11 6 .int (oVretH)))))))))))))))))))))))) (oVretH)))))
set_option maxRecDepth 20000 in
theorem sBX12_readWant_41 : Snd XX12_readWant fVH 41 (BX12_readWant_41) (0) (0) := by
  unfold BX12_readWant_41
  refine s_cal0 44 (run_V (X := XX12_readWant) rfl clX12 yoX12_readCells rfl tw_1605 tw_1607 tw_p64 (by decide) dX12_readWant_41) cmX12_readCells (fun _ _ _ => rfl) rfl ?_
  refine s_Aldn 0 rfl 45 dX12_readWant_44 rfl ?_
  refine s_get 12 9 48 clX12 (by decide) tw_1297 dX12_readWant_45 rfl ?_
  refine s_iconst 49 5 (by decide) dX12_readWant_48 rfl ?_
  refine s_cmpne 53 52 dX12_readWant_49 (by decide) rfl ?_ ?_
  · refine s_Aldn 0 rfl 54 dX12_readWant_53 rfl ?_
    refine s_get 12 4 57 clX12 (by decide) tw_1292 dX12_readWant_54 rfl ?_
    refine s_dup 58 dX12_readWant_57 rfl ?_
    refine s_getN 11 13 61 clX11 (by decide) nw_55 dX12_readWant_58 rfl ?_
    refine s_Aldn 0 rfl 62 dX12_readWant_61 rfl ?_
    refine s_get 12 18 65 clX12 (by decide) tw_1306 dX12_readWant_62 rfl ?_
    refine s_lor 66 dX12_readWant_65 rfl ?_
    refine s_putN 11 13 69 clX11 (by decide) rfl rfl pVH nw_55 dX12_readWant_66 rfl ?_
    refine s_Aldn 0 rfl 70 dX12_readWant_69 rfl ?_
    refine s_get 12 4 73 clX12 (by decide) tw_1292 dX12_readWant_70 rfl ?_
    refine s_dup 74 dX12_readWant_73 rfl ?_
    refine s_getN 11 14 77 clX11 (by decide) nw_56 dX12_readWant_74 rfl ?_
    refine s_Aldn 0 rfl 78 dX12_readWant_77 rfl ?_
    refine s_get 12 19 81 clX12 (by decide) tw_1307 dX12_readWant_78 rfl ?_
    refine s_lor 82 dX12_readWant_81 rfl ?_
    refine s_putN 11 14 85 clX11 (by decide) rfl rfl pVH nw_56 dX12_readWant_82 rfl ?_
    refine s_Aldn 0 rfl 86 dX12_readWant_85 rfl ?_
    refine s_get 12 4 89 clX12 (by decide) tw_1292 dX12_readWant_86 rfl ?_
    refine s_dup 90 dX12_readWant_89 rfl ?_
    refine s_getN 11 6 93 clX11 (by decide) nw_48 dX12_readWant_90 rfl ?_
    refine s_iconst 94 1 (by decide) dX12_readWant_93 rfl ?_
    refine s_iadd 95 dX12_readWant_94 rfl ?_
    refine s_putN 11 6 98 clX11 (by decide) rfl rfl pVH nw_48 dX12_readWant_95 rfl ?_
    exact s_vretH rfl dX12_readWant_98
  · exact s_vretH rfl dX12_readWant_52
def BX12_readWant_29 : KT HP :=
  oCal 3 (some 12) EX12_begins fVH (oAld 0 (oAld 0 (oGet 12 4 (oGet 11 6 (oConst (.int 1) (oPick [0] (BX12_readWant_41)))))))
set_option maxRecDepth 20000 in
theorem sBX12_readWant_29 : Snd XX12_readWant fVH 29 (BX12_readWant_29) (0) (0) := by
  unfold BX12_readWant_29
  refine s_cal0 32 (run_V (X := XX12_readWant) rfl clX12 yoX12_begins rfl tw_1601 tw_1603 tw_p63 (by decide) dX12_readWant_29) cmX12_begins (fun _ _ _ => rfl) rfl ?_
  refine s_Aldn 0 rfl 33 dX12_readWant_32 rfl ?_
  refine s_Aldn 0 rfl 34 dX12_readWant_33 rfl ?_
  refine s_get 12 4 37 clX12 (by decide) tw_1292 dX12_readWant_34 rfl ?_
  refine s_getN 11 6 40 clX11 (by decide) nw_48 dX12_readWant_37 rfl ?_
  refine s_iconst 41 1 (by decide) dX12_readWant_40 rfl ?_
  exact s_pick (sBX12_readWant_41)
def BX12_readWant_0 : KT HP :=
  oAld 0 (oAld 0 (oGet 12 4 (oGet 11 6 (oAld 0 (oGet 12 4 (oGet 11 0 (oIfne (oAld 0 (oGet 12 4 (oGet 11 1 (oPick [0] (BX12_readWant_29))))) (oConst (.int (-1)) (oPick [0] (BX12_readWant_29))))))))))
set_option maxRecDepth 20000 in
theorem sBX12_readWant_0 : Snd XX12_readWant fVH 0 (BX12_readWant_0) (0) (0) := by
  unfold BX12_readWant_0
  refine s_Aldn 0 rfl 1 dX12_readWant_0 rfl ?_
  refine s_Aldn 0 rfl 2 dX12_readWant_1 rfl ?_
  refine s_get 12 4 5 clX12 (by decide) tw_1292 dX12_readWant_2 rfl ?_
  refine s_getN 11 6 8 clX11 (by decide) nw_48 dX12_readWant_5 rfl ?_
  refine s_Aldn 0 rfl 9 dX12_readWant_8 rfl ?_
  refine s_get 12 4 12 clX12 (by decide) tw_1292 dX12_readWant_9 rfl ?_
  refine s_getN 11 0 15 clX11 (by decide) nw_42 dX12_readWant_12 rfl ?_
  refine s_ifne 22 18 dX12_readWant_15 (by decide) rfl ?_ ?_
  · refine s_Aldn 0 rfl 23 dX12_readWant_22 rfl ?_
    refine s_get 12 4 26 clX12 (by decide) tw_1292 dX12_readWant_23 rfl ?_
    refine s_getN 11 1 29 clX11 (by decide) nw_43 dX12_readWant_26 rfl ?_
    exact s_pick (sBX12_readWant_29)
  · refine s_iconst 19 (-1) (by decide) dX12_readWant_18 rfl ?_
    refine s_goto 29 dX12_readWant_19 (by decide) ?_
    exact s_pick (sBX12_readWant_29)
def EX12_readWant : List Value → HP → Option HP := en 1 BX12_readWant_0
theorem cmX12_readWant : CM XX12_readWant EX12_readWant fVH 0 0 := CM.of rfl (by decide) rfl rfl sBX12_readWant_0
theorem yoX12_readWant : YO XX12_readWant 0 0 0 := ⟨tw_1613, rfl, tw_12, (by decide +kernel), rfl, rfl⟩
abbrev XX12_readMoon : MX := (yX12_readMoon, cX12_readMoon, 1, none, Cond.code yX12_readMoon cX12_readMoon 1 none :: WS, { frames := 3, cells := 0, slots := 0, locals := 68 })
def BX12_readMoon_41 : KT HP :=
  oCal 3 (some 12) EX12_readCells fVH (oAld 0 (oGet 12 9 (oConst (.int 5) (oCmpne (oAld 0 (oGet 12 4 (odup (oGet 11 15 (oAld 0 (oGet 12 18 (olor (oPut 11 15 .long (oAld 0 (oGet 12 4 (odup (oGet 11 16 (oAld 0 (oGet 12 19 (olor (oPut 11 16 .long (oAld 0 (oGet 12 4 (odup (oGet 11 7 (oConst (.int 1) (oiadd (oPut 11 7 .int (oVretH)))))))))))))))))))))))) (oVretH)))))
set_option maxRecDepth 20000 in
theorem sBX12_readMoon_41 : Snd XX12_readMoon fVH 41 (BX12_readMoon_41) (0) (0) := by
  unfold BX12_readMoon_41
  refine s_cal0 44 (run_V (X := XX12_readMoon) rfl clX12 yoX12_readCells rfl tw_1605 tw_1607 tw_p64 (by decide) dX12_readMoon_41) cmX12_readCells (fun _ _ _ => rfl) rfl ?_
  refine s_Aldn 0 rfl 45 dX12_readMoon_44 rfl ?_
  refine s_get 12 9 48 clX12 (by decide) tw_1297 dX12_readMoon_45 rfl ?_
  refine s_iconst 49 5 (by decide) dX12_readMoon_48 rfl ?_
  refine s_cmpne 53 52 dX12_readMoon_49 (by decide) rfl ?_ ?_
  · refine s_Aldn 0 rfl 54 dX12_readMoon_53 rfl ?_
    refine s_get 12 4 57 clX12 (by decide) tw_1292 dX12_readMoon_54 rfl ?_
    refine s_dup 58 dX12_readMoon_57 rfl ?_
    refine s_getN 11 15 61 clX11 (by decide) nw_57 dX12_readMoon_58 rfl ?_
    refine s_Aldn 0 rfl 62 dX12_readMoon_61 rfl ?_
    refine s_get 12 18 65 clX12 (by decide) tw_1306 dX12_readMoon_62 rfl ?_
    refine s_lor 66 dX12_readMoon_65 rfl ?_
    refine s_putN 11 15 69 clX11 (by decide) rfl rfl pVH nw_57 dX12_readMoon_66 rfl ?_
    refine s_Aldn 0 rfl 70 dX12_readMoon_69 rfl ?_
    refine s_get 12 4 73 clX12 (by decide) tw_1292 dX12_readMoon_70 rfl ?_
    refine s_dup 74 dX12_readMoon_73 rfl ?_
    refine s_getN 11 16 77 clX11 (by decide) nw_58 dX12_readMoon_74 rfl ?_
    refine s_Aldn 0 rfl 78 dX12_readMoon_77 rfl ?_
    refine s_get 12 19 81 clX12 (by decide) tw_1307 dX12_readMoon_78 rfl ?_
    refine s_lor 82 dX12_readMoon_81 rfl ?_
    refine s_putN 11 16 85 clX11 (by decide) rfl rfl pVH nw_58 dX12_readMoon_82 rfl ?_
    refine s_Aldn 0 rfl 86 dX12_readMoon_85 rfl ?_
    refine s_get 12 4 89 clX12 (by decide) tw_1292 dX12_readMoon_86 rfl ?_
    refine s_dup 90 dX12_readMoon_89 rfl ?_
    refine s_getN 11 7 93 clX11 (by decide) nw_49 dX12_readMoon_90 rfl ?_
    refine s_iconst 94 1 (by decide) dX12_readMoon_93 rfl ?_
    refine s_iadd 95 dX12_readMoon_94 rfl ?_
    refine s_putN 11 7 98 clX11 (by decide) rfl rfl pVH nw_49 dX12_readMoon_95 rfl ?_
    exact s_vretH rfl dX12_readMoon_98
  · exact s_vretH rfl dX12_readMoon_52
def BX12_readMoon_29 : KT HP :=
  oCal 3 (some 12) EX12_begins fVH (oAld 0 (oAld 0 (oGet 12 4 (oGet 11 7 (oConst (.int 1) (oPick [0] (BX12_readMoon_41)))))))
set_option maxRecDepth 20000 in
theorem sBX12_readMoon_29 : Snd XX12_readMoon fVH 29 (BX12_readMoon_29) (0) (0) := by
  unfold BX12_readMoon_29
  refine s_cal0 32 (run_V (X := XX12_readMoon) rfl clX12 yoX12_begins rfl tw_1601 tw_1603 tw_p63 (by decide) dX12_readMoon_29) cmX12_begins (fun _ _ _ => rfl) rfl ?_
  refine s_Aldn 0 rfl 33 dX12_readMoon_32 rfl ?_
  refine s_Aldn 0 rfl 34 dX12_readMoon_33 rfl ?_
  refine s_get 12 4 37 clX12 (by decide) tw_1292 dX12_readMoon_34 rfl ?_
  refine s_getN 11 7 40 clX11 (by decide) nw_49 dX12_readMoon_37 rfl ?_
  refine s_iconst 41 1 (by decide) dX12_readMoon_40 rfl ?_
  exact s_pick (sBX12_readMoon_41)
def BX12_readMoon_0 : KT HP :=
  oAld 0 (oAld 0 (oGet 12 4 (oGet 11 7 (oAld 0 (oGet 12 4 (oGet 11 0 (oIfne (oAld 0 (oGet 12 4 (oGet 11 1 (oPick [0] (BX12_readMoon_29))))) (oConst (.int (-1)) (oPick [0] (BX12_readMoon_29))))))))))
set_option maxRecDepth 20000 in
theorem sBX12_readMoon_0 : Snd XX12_readMoon fVH 0 (BX12_readMoon_0) (0) (0) := by
  unfold BX12_readMoon_0
  refine s_Aldn 0 rfl 1 dX12_readMoon_0 rfl ?_
  refine s_Aldn 0 rfl 2 dX12_readMoon_1 rfl ?_
  refine s_get 12 4 5 clX12 (by decide) tw_1292 dX12_readMoon_2 rfl ?_
  refine s_getN 11 7 8 clX11 (by decide) nw_49 dX12_readMoon_5 rfl ?_
  refine s_Aldn 0 rfl 9 dX12_readMoon_8 rfl ?_
  refine s_get 12 4 12 clX12 (by decide) tw_1292 dX12_readMoon_9 rfl ?_
  refine s_getN 11 0 15 clX11 (by decide) nw_42 dX12_readMoon_12 rfl ?_
  refine s_ifne 22 18 dX12_readMoon_15 (by decide) rfl ?_ ?_
  · refine s_Aldn 0 rfl 23 dX12_readMoon_22 rfl ?_
    refine s_get 12 4 26 clX12 (by decide) tw_1292 dX12_readMoon_23 rfl ?_
    refine s_getN 11 1 29 clX11 (by decide) nw_43 dX12_readMoon_26 rfl ?_
    exact s_pick (sBX12_readMoon_29)
  · refine s_iconst 19 (-1) (by decide) dX12_readMoon_18 rfl ?_
    refine s_goto 29 dX12_readMoon_19 (by decide) ?_
    exact s_pick (sBX12_readMoon_29)
def EX12_readMoon : List Value → HP → Option HP := en 1 BX12_readMoon_0
theorem cmX12_readMoon : CM XX12_readMoon EX12_readMoon fVH 0 0 := CM.of rfl (by decide) rfl rfl sBX12_readMoon_0
theorem yoX12_readMoon : YO XX12_readMoon 0 0 0 := ⟨tw_1618, rfl, tw_12, (by decide +kernel), rfl, rfl⟩
abbrev XX12_readGate : MX := (yX12_readGate, cX12_readGate, 3, none, Cond.code yX12_readGate cX12_readGate 3 none :: WS, { frames := 3, cells := 0, slots := 0, locals := 67 })
def BX12_readGate_86 : KT HP :=
  oCal 1 (some 12) EX12_goesOn fVH (oAld 0 (oGet 12 9 (oConst (.int 5) (oCmpne (oAld 0 (oGet 12 4 (oGet 11 18 (oAld 0 (oGet 12 4 (oGet 11 8 (oIld 2 (oIw (oAld 0 (oGet 12 4 (odup (oGet 11 17 (oConst (.long 1) (oIld 2 (olshl (olor (oPut 11 17 .long (oAld 0 (oGet 12 4 (odup (oGet 11 8 (oConst (.int 1) (oiadd (oPut 11 8 .int (oVretH))))))))))))))))))))))))) (oVretH)))))
set_option maxRecDepth 20000 in
theorem sBX12_readGate_86 : Snd XX12_readGate fVH 86 (BX12_readGate_86) (0) (0) := by
  unfold BX12_readGate_86
  refine s_cal0 89 (run_V (X := XX12_readGate) rfl clX12 yoX12_goesOn rfl tw_1531 tw_1533 tw_p51 (by decide) dX12_readGate_86) cmX12_goesOn (fun _ _ _ => rfl) rfl ?_
  refine s_Aldn 0 rfl 90 dX12_readGate_89 rfl ?_
  refine s_get 12 9 93 clX12 (by decide) tw_1297 dX12_readGate_90 rfl ?_
  refine s_iconst 94 5 (by decide) dX12_readGate_93 rfl ?_
  refine s_cmpne 98 97 dX12_readGate_94 (by decide) rfl ?_ ?_
  · refine s_Aldn 0 rfl 99 dX12_readGate_98 rfl ?_
    refine s_get 12 4 102 clX12 (by decide) tw_1292 dX12_readGate_99 rfl ?_
    refine s_getN 11 18 105 clX11 (by decide) nw_60 dX12_readGate_102 rfl ?_
    refine s_Aldn 0 rfl 106 dX12_readGate_105 rfl ?_
    refine s_get 12 4 109 clX12 (by decide) tw_1292 dX12_readGate_106 rfl ?_
    refine s_getN 11 8 112 clX11 (by decide) nw_50 dX12_readGate_109 rfl ?_
    refine s_Ildn 2 rfl 113 dX12_readGate_112 rfl ?_
    refine s_Iw 114 pVH dX12_readGate_113 rfl ?_
    refine s_Aldn 0 rfl 115 dX12_readGate_114 rfl ?_
    refine s_get 12 4 118 clX12 (by decide) tw_1292 dX12_readGate_115 rfl ?_
    refine s_dup 119 dX12_readGate_118 rfl ?_
    refine s_getN 11 17 122 clX11 (by decide) nw_59 dX12_readGate_119 rfl ?_
    refine s_lconst 123 1 (by decide) dX12_readGate_122 rfl ?_
    refine s_Ildn 2 rfl 124 dX12_readGate_123 rfl ?_
    refine s_lshl 125 dX12_readGate_124 rfl ?_
    refine s_lor 126 dX12_readGate_125 rfl ?_
    refine s_putN 11 17 129 clX11 (by decide) rfl rfl pVH nw_59 dX12_readGate_126 rfl ?_
    refine s_Aldn 0 rfl 130 dX12_readGate_129 rfl ?_
    refine s_get 12 4 133 clX12 (by decide) tw_1292 dX12_readGate_130 rfl ?_
    refine s_dup 134 dX12_readGate_133 rfl ?_
    refine s_getN 11 8 137 clX11 (by decide) nw_50 dX12_readGate_134 rfl ?_
    refine s_iconst 138 1 (by decide) dX12_readGate_137 rfl ?_
    refine s_iadd 139 dX12_readGate_138 rfl ?_
    refine s_putN 11 8 142 clX11 (by decide) rfl rfl pVH nw_50 dX12_readGate_139 rfl ?_
    exact s_vretH rfl dX12_readGate_142
  · exact s_vretH rfl dX12_readGate_97
def BX12_readGate_85 : KT HP :=
  oAld 0 (oPick [0, 2] (BX12_readGate_86))
set_option maxRecDepth 20000 in
theorem sBX12_readGate_85 : Snd XX12_readGate fVH 85 (BX12_readGate_85) (0) (0) := by
  unfold BX12_readGate_85
  refine s_Aldn 0 rfl 86 dX12_readGate_85 rfl ?_
  exact s_pick (sBX12_readGate_86)
def BX12_readGate_82 : KT HP :=
  oCal 2 (some 12) EX12_flaw fVH (oPick [0, 2] (BX12_readGate_85))
set_option maxRecDepth 20000 in
theorem sBX12_readGate_82 : Snd XX12_readGate fVH 82 (BX12_readGate_82) (0) (0) := by
  unfold BX12_readGate_82
  refine s_cal0 85 (run_V (X := XX12_readGate) rfl clX12 yoX12_flaw rfl tw_1568 tw_1570 tw_p57 (by decide) dX12_readGate_82) cmX12_flaw (fun _ _ _ => rfl) rfl ?_
  exact s_pick (sBX12_readGate_85)
def BX12_readGate_74 : KT HP :=
  oCal 2 none EX12_has fZ (oIfeq (oPick [0, 2] (BX12_readGate_85)) (oAld 0 (oConst (.int 3) (oPick [0, 2] (BX12_readGate_82)))))
set_option maxRecDepth 20000 in
theorem sBX12_readGate_74 : Snd XX12_readGate fVH 74 (BX12_readGate_74) (0) (0) := by
  unfold BX12_readGate_74
  refine s_cal0 77 (run_S (X := XX12_readGate) yoX12_has tw_1628 tw_1629 (by decide) dX12_readGate_74) cmX12_has (fun _ _ _ => rfl) rfl ?_
  refine s_ifeq 85 80 dX12_readGate_77 (by decide) rfl ?_ ?_
  · exact s_pick (sBX12_readGate_85)
  · refine s_Aldn 0 rfl 81 dX12_readGate_80 rfl ?_
    refine s_iconst 82 3 (by decide) dX12_readGate_81 rfl ?_
    exact s_pick (sBX12_readGate_82)
def BX12_readGate_51 : KT HP :=
  oCal 3 (some 12) EX12_bounded fIH (oimul (oIld 1 (oiadd (oIst 2 (oAld 0 (oGet 12 9 (oConst (.int 5) (oCmpeq (oPick [0, 2] (BX12_readGate_85)) (oAld 0 (oGet 12 4 (oGet 11 17 (oIld 2 (oPick [0, 2] (BX12_readGate_74))))))))))))))
set_option maxRecDepth 20000 in
theorem sBX12_readGate_51 : Snd XX12_readGate fVH 51 (BX12_readGate_51) (0) (0) := by
  unfold BX12_readGate_51
  refine s_cal0 54 (run_V (X := XX12_readGate) rfl clX12 yoX12_bounded rfl tw_1585 tw_1587 tw_p61 (by decide) dX12_readGate_51) cmX12_bounded (fun _ _ _ => rfl) rfl ?_
  refine s_imul 55 dX12_readGate_54 rfl ?_
  refine s_Ildn 1 rfl 56 dX12_readGate_55 rfl ?_
  refine s_iadd 57 dX12_readGate_56 rfl ?_
  refine s_Istn 2 rfl 58 (by decide) dX12_readGate_57 rfl ?_
  refine s_Aldn 0 rfl 59 dX12_readGate_58 rfl ?_
  refine s_get 12 9 62 clX12 (by decide) tw_1297 dX12_readGate_59 rfl ?_
  refine s_iconst 63 5 (by decide) dX12_readGate_62 rfl ?_
  refine s_cmpeq 85 66 dX12_readGate_63 (by decide) rfl ?_ ?_
  · exact s_pick (sBX12_readGate_85)
  · refine s_Aldn 0 rfl 67 dX12_readGate_66 rfl ?_
    refine s_get 12 4 70 clX12 (by decide) tw_1292 dX12_readGate_67 rfl ?_
    refine s_getN 11 17 73 clX11 (by decide) nw_59 dX12_readGate_70 rfl ?_
    refine s_Ildn 2 rfl 74 dX12_readGate_73 rfl ?_
    exact s_pick (sBX12_readGate_74)
def BX12_readGate_30 : KT HP :=
  oCal 2 (some 12) EX12_needsSign fVH (oAld 0 (oGet 12 4 (oGet 11 0 (oAld 0 (oConst (.int 0) (oAld 0 (oGet 12 4 (oGet 11 1 (oConst (.int 1) (oisub (oPick [0, 1] (BX12_readGate_51))))))))))))
set_option maxRecDepth 20000 in
theorem sBX12_readGate_30 : Snd XX12_readGate fVH 30 (BX12_readGate_30) (0) (0) := by
  unfold BX12_readGate_30
  refine s_cal0 33 (run_V (X := XX12_readGate) rfl clX12 yoX12_needsSign rfl tw_1624 tw_1626 tw_p68 (by decide) dX12_readGate_30) cmX12_needsSign (fun _ _ _ => rfl) rfl ?_
  refine s_Aldn 0 rfl 34 dX12_readGate_33 rfl ?_
  refine s_get 12 4 37 clX12 (by decide) tw_1292 dX12_readGate_34 rfl ?_
  refine s_getN 11 0 40 clX11 (by decide) nw_42 dX12_readGate_37 rfl ?_
  refine s_Aldn 0 rfl 41 dX12_readGate_40 rfl ?_
  refine s_iconst 42 0 (by decide) dX12_readGate_41 rfl ?_
  refine s_Aldn 0 rfl 43 dX12_readGate_42 rfl ?_
  refine s_get 12 4 46 clX12 (by decide) tw_1292 dX12_readGate_43 rfl ?_
  refine s_getN 11 1 49 clX11 (by decide) nw_43 dX12_readGate_46 rfl ?_
  refine s_iconst 50 1 (by decide) dX12_readGate_49 rfl ?_
  refine s_isub 51 dX12_readGate_50 rfl ?_
  exact s_pick (sBX12_readGate_51)
def BX12_readGate_23 : KT HP :=
  oCal 3 (some 12) EX12_readWhole fIH (oIst 1 (oAld 0 (oConst (.int 44) (oPick [0, 1] (BX12_readGate_30)))))
set_option maxRecDepth 20000 in
theorem sBX12_readGate_23 : Snd XX12_readGate fVH 23 (BX12_readGate_23) (0) (0) := by
  unfold BX12_readGate_23
  refine s_cal0 26 (run_V (X := XX12_readGate) rfl clX12 yoX12_readWhole rfl tw_1581 tw_1583 tw_p60 (by decide) dX12_readGate_23) cmX12_readWhole (fun _ _ _ => rfl) rfl ?_
  refine s_Istn 1 rfl 27 (by decide) dX12_readGate_26 rfl ?_
  refine s_Aldn 0 rfl 28 dX12_readGate_27 rfl ?_
  refine s_bipush 30 44 (by decide) dX12_readGate_28 rfl ?_
  exact s_pick (sBX12_readGate_30)
def BX12_readGate_9 : KT HP :=
  oCal 3 (some 12) EX12_begins fVH (oAld 0 (oConst (.int 0) (oAld 0 (oGet 12 4 (oGet 11 0 (oConst (.int 1) (oisub (oPick [0] (BX12_readGate_23)))))))))
set_option maxRecDepth 20000 in
theorem sBX12_readGate_9 : Snd XX12_readGate fVH 9 (BX12_readGate_9) (0) (0) := by
  unfold BX12_readGate_9
  refine s_cal0 12 (run_V (X := XX12_readGate) rfl clX12 yoX12_begins rfl tw_1601 tw_1603 tw_p63 (by decide) dX12_readGate_9) cmX12_begins (fun _ _ _ => rfl) rfl ?_
  refine s_Aldn 0 rfl 13 dX12_readGate_12 rfl ?_
  refine s_iconst 14 0 (by decide) dX12_readGate_13 rfl ?_
  refine s_Aldn 0 rfl 15 dX12_readGate_14 rfl ?_
  refine s_get 12 4 18 clX12 (by decide) tw_1292 dX12_readGate_15 rfl ?_
  refine s_getN 11 0 21 clX11 (by decide) nw_42 dX12_readGate_18 rfl ?_
  refine s_iconst 22 1 (by decide) dX12_readGate_21 rfl ?_
  refine s_isub 23 dX12_readGate_22 rfl ?_
  exact s_pick (sBX12_readGate_23)
def BX12_readGate_0 : KT HP :=
  oAld 0 (oAld 0 (oGet 12 4 (oGet 11 8 (oConst (.int 4) (oPick [0] (BX12_readGate_9))))))
set_option maxRecDepth 20000 in
theorem sBX12_readGate_0 : Snd XX12_readGate fVH 0 (BX12_readGate_0) (0) (0) := by
  unfold BX12_readGate_0
  refine s_Aldn 0 rfl 1 dX12_readGate_0 rfl ?_
  refine s_Aldn 0 rfl 2 dX12_readGate_1 rfl ?_
  refine s_get 12 4 5 clX12 (by decide) tw_1292 dX12_readGate_2 rfl ?_
  refine s_getN 11 8 8 clX11 (by decide) nw_50 dX12_readGate_5 rfl ?_
  refine s_iconst 9 4 (by decide) dX12_readGate_8 rfl ?_
  exact s_pick (sBX12_readGate_9)
def EX12_readGate : List Value → HP → Option HP := en 3 BX12_readGate_0
theorem cmX12_readGate : CM XX12_readGate EX12_readGate fVH 0 0 := CM.of rfl (by decide) rfl rfl sBX12_readGate_0
theorem yoX12_readGate : YO XX12_readGate 0 0 0 := ⟨tw_1623, rfl, tw_12, (by decide +kernel), rfl, rfl⟩
abbrev XX12_readNoise : MX := (yX12_readNoise, cX12_readNoise, 2, none, Cond.code yX12_readNoise cX12_readNoise 2 none :: WS, { frames := 4, cells := 0, slots := 0, locals := 89 })
def BX12_readNoise_24 : KT HP :=
  oCal 1 (some 12) EX12_readCell fIH (oIst 1 (oAld 0 (oGet 12 9 (oConst (.int 5) (oCmpeq (oVretH) (oAld 0 (oGet 12 4 (oIld 1 (oPut 11 11 .int (oVretH))))))))))
set_option maxRecDepth 20000 in
theorem sBX12_readNoise_24 : Snd XX12_readNoise fVH 24 (BX12_readNoise_24) (0) (0) := by
  unfold BX12_readNoise_24
  refine s_cal0 27 (run_V (X := XX12_readNoise) rfl clX12 yoX12_readCell rfl tw_1636 tw_1638 tw_p70 (by decide) dX12_readNoise_24) cmX12_readCell (fun _ _ _ => rfl) rfl ?_
  refine s_Istn 1 rfl 28 (by decide) dX12_readNoise_27 rfl ?_
  refine s_Aldn 0 rfl 29 dX12_readNoise_28 rfl ?_
  refine s_get 12 9 32 clX12 (by decide) tw_1297 dX12_readNoise_29 rfl ?_
  refine s_iconst 33 5 (by decide) dX12_readNoise_32 rfl ?_
  refine s_cmpeq 44 36 dX12_readNoise_33 (by decide) rfl ?_ ?_
  · exact s_vretH rfl dX12_readNoise_44
  · refine s_Aldn 0 rfl 37 dX12_readNoise_36 rfl ?_
    refine s_get 12 4 40 clX12 (by decide) tw_1292 dX12_readNoise_37 rfl ?_
    refine s_Ildn 1 rfl 41 dX12_readNoise_40 rfl ?_
    refine s_putN 11 11 44 clX11 (by decide) rfl rfl pVH nw_53 dX12_readNoise_41 rfl ?_
    exact s_vretH rfl dX12_readNoise_44
def BX12_readNoise_20 : KT HP :=
  oCal 3 (some 12) EX12_begins fVH (oAld 0 (oPick [0] (BX12_readNoise_24)))
set_option maxRecDepth 20000 in
theorem sBX12_readNoise_20 : Snd XX12_readNoise fVH 20 (BX12_readNoise_20) (0) (0) := by
  unfold BX12_readNoise_20
  refine s_cal0 23 (run_V (X := XX12_readNoise) rfl clX12 yoX12_begins rfl tw_1601 tw_1603 tw_p63 (by decide) dX12_readNoise_20) cmX12_begins (fun _ _ _ => rfl) rfl ?_
  refine s_Aldn 0 rfl 24 dX12_readNoise_23 rfl ?_
  exact s_pick (sBX12_readNoise_24)
def BX12_readNoise_17 : KT HP :=
  oAld 0 (oConst (.int 0) (oConst (.int 1) (oPick [0] (BX12_readNoise_20))))
set_option maxRecDepth 20000 in
theorem sBX12_readNoise_17 : Snd XX12_readNoise fVH 17 (BX12_readNoise_17) (0) (0) := by
  unfold BX12_readNoise_17
  refine s_Aldn 0 rfl 18 dX12_readNoise_17 rfl ?_
  refine s_iconst 19 0 (by decide) dX12_readNoise_18 rfl ?_
  refine s_iconst 20 1 (by decide) dX12_readNoise_19 rfl ?_
  exact s_pick (sBX12_readNoise_20)
def BX12_readNoise_14 : KT HP :=
  oCal 2 (some 12) EX12_flaw fVH (oPick [0] (BX12_readNoise_17))
set_option maxRecDepth 20000 in
theorem sBX12_readNoise_14 : Snd XX12_readNoise fVH 14 (BX12_readNoise_14) (0) (0) := by
  unfold BX12_readNoise_14
  refine s_cal0 17 (run_V (X := XX12_readNoise) rfl clX12 yoX12_flaw rfl tw_1568 tw_1570 tw_p57 (by decide) dX12_readNoise_14) cmX12_flaw (fun _ _ _ => rfl) rfl ?_
  exact s_pick (sBX12_readNoise_17)
def BX12_readNoise_0 : KT HP :=
  oAld 0 (oGet 12 4 (oGet 11 11 (oConst (.int (-2)) (oCmpeq (oPick [0] (BX12_readNoise_17)) (oAld 0 (oConst (.int 3) (oPick [0] (BX12_readNoise_14))))))))
set_option maxRecDepth 20000 in
theorem sBX12_readNoise_0 : Snd XX12_readNoise fVH 0 (BX12_readNoise_0) (0) (0) := by
  unfold BX12_readNoise_0
  refine s_Aldn 0 rfl 1 dX12_readNoise_0 rfl ?_
  refine s_get 12 4 4 clX12 (by decide) tw_1292 dX12_readNoise_1 rfl ?_
  refine s_getN 11 11 7 clX11 (by decide) nw_53 dX12_readNoise_4 rfl ?_
  refine s_bipush 9 (-2) (by decide) dX12_readNoise_7 rfl ?_
  refine s_cmpeq 17 12 dX12_readNoise_9 (by decide) rfl ?_ ?_
  · exact s_pick (sBX12_readNoise_17)
  · refine s_Aldn 0 rfl 13 dX12_readNoise_12 rfl ?_
    refine s_iconst 14 3 (by decide) dX12_readNoise_13 rfl ?_
    exact s_pick (sBX12_readNoise_14)
def EX12_readNoise : List Value → HP → Option HP := en 2 BX12_readNoise_0
theorem cmX12_readNoise : CM XX12_readNoise EX12_readNoise fVH 0 0 := CM.of rfl (by decide) rfl rfl sBX12_readNoise_0
theorem yoX12_readNoise : YO XX12_readNoise 0 0 0 := ⟨tw_1635, rfl, tw_12, (by decide +kernel), rfl, rfl⟩
abbrev XX12_readHeard : MX := (yX12_readHeard, cX12_readHeard, 3, none, Cond.code yX12_readHeard cX12_readHeard 3 none :: WS, { frames := 7, cells := 0, slots := 0, locals := 150 })
def BX12_readHeard_28 : KT HP :=
  oCal 1 (some 12) EX12_readCell fIH (oIst 2 (oAld 0 (oGet 12 9 (oConst (.int 5) (oCmpne (oAld 0 (oGet 12 4 (oGet 11 19 (oAld 0 (oGet 12 4 (oGet 11 9 (oIld 1 (oIw (oAld 0 (oGet 12 4 (oGet 11 20 (oAld 0 (oGet 12 4 (oGet 11 9 (oIld 2 (oIw (oAld 0 (oGet 12 4 (odup (oGet 11 9 (oConst (.int 1) (oiadd (oPut 11 9 .int (oVretH)))))))))))))))))))))))) (oVretH))))))
set_option maxRecDepth 20000 in
theorem sBX12_readHeard_28 : Snd XX12_readHeard fVH 28 (BX12_readHeard_28) (0) (0) := by
  unfold BX12_readHeard_28
  refine s_cal0 31 (run_V (X := XX12_readHeard) rfl clX12 yoX12_readCell rfl tw_1636 tw_1638 tw_p70 (by decide) dX12_readHeard_28) cmX12_readCell (fun _ _ _ => rfl) rfl ?_
  refine s_Istn 2 rfl 32 (by decide) dX12_readHeard_31 rfl ?_
  refine s_Aldn 0 rfl 33 dX12_readHeard_32 rfl ?_
  refine s_get 12 9 36 clX12 (by decide) tw_1297 dX12_readHeard_33 rfl ?_
  refine s_iconst 37 5 (by decide) dX12_readHeard_36 rfl ?_
  refine s_cmpne 41 40 dX12_readHeard_37 (by decide) rfl ?_ ?_
  · refine s_Aldn 0 rfl 42 dX12_readHeard_41 rfl ?_
    refine s_get 12 4 45 clX12 (by decide) tw_1292 dX12_readHeard_42 rfl ?_
    refine s_getN 11 19 48 clX11 (by decide) nw_61 dX12_readHeard_45 rfl ?_
    refine s_Aldn 0 rfl 49 dX12_readHeard_48 rfl ?_
    refine s_get 12 4 52 clX12 (by decide) tw_1292 dX12_readHeard_49 rfl ?_
    refine s_getN 11 9 55 clX11 (by decide) nw_51 dX12_readHeard_52 rfl ?_
    refine s_Ildn 1 rfl 56 dX12_readHeard_55 rfl ?_
    refine s_Iw 57 pVH dX12_readHeard_56 rfl ?_
    refine s_Aldn 0 rfl 58 dX12_readHeard_57 rfl ?_
    refine s_get 12 4 61 clX12 (by decide) tw_1292 dX12_readHeard_58 rfl ?_
    refine s_getN 11 20 64 clX11 (by decide) nw_62 dX12_readHeard_61 rfl ?_
    refine s_Aldn 0 rfl 65 dX12_readHeard_64 rfl ?_
    refine s_get 12 4 68 clX12 (by decide) tw_1292 dX12_readHeard_65 rfl ?_
    refine s_getN 11 9 71 clX11 (by decide) nw_51 dX12_readHeard_68 rfl ?_
    refine s_Ildn 2 rfl 72 dX12_readHeard_71 rfl ?_
    refine s_Iw 73 pVH dX12_readHeard_72 rfl ?_
    refine s_Aldn 0 rfl 74 dX12_readHeard_73 rfl ?_
    refine s_get 12 4 77 clX12 (by decide) tw_1292 dX12_readHeard_74 rfl ?_
    refine s_dup 78 dX12_readHeard_77 rfl ?_
    refine s_getN 11 9 81 clX11 (by decide) nw_51 dX12_readHeard_78 rfl ?_
    refine s_iconst 82 1 (by decide) dX12_readHeard_81 rfl ?_
    refine s_iadd 83 dX12_readHeard_82 rfl ?_
    refine s_putN 11 9 86 clX11 (by decide) rfl rfl pVH nw_51 dX12_readHeard_83 rfl ?_
    exact s_vretH rfl dX12_readHeard_86
  · exact s_vretH rfl dX12_readHeard_40
def BX12_readHeard_24 : KT HP :=
  oCal 2 (some 12) EX12_needs fVH (oAld 0 (oPick [0, 1] (BX12_readHeard_28)))
set_option maxRecDepth 20000 in
theorem sBX12_readHeard_24 : Snd XX12_readHeard fVH 24 (BX12_readHeard_24) (0) (0) := by
  unfold BX12_readHeard_24
  refine s_cal0 27 (run_V (X := XX12_readHeard) rfl clX12 yoX12_needs rfl tw_1577 tw_1579 tw_p59 (by decide) dX12_readHeard_24) cmX12_needs (fun _ _ _ => rfl) rfl ?_
  refine s_Aldn 0 rfl 28 dX12_readHeard_27 rfl ?_
  exact s_pick (sBX12_readHeard_28)
def BX12_readHeard_16 : KT HP :=
  oCal 3 (some 12) EX12_readWhole fIH (oIst 1 (oAld 0 (oConst (.ref 2025) (oPick [0, 1] (BX12_readHeard_24)))))
set_option maxRecDepth 20000 in
theorem sBX12_readHeard_16 : Snd XX12_readHeard fVH 16 (BX12_readHeard_16) (0) (0) := by
  unfold BX12_readHeard_16
  refine s_cal0 19 (run_V (X := XX12_readHeard) rfl clX12 yoX12_readWhole rfl tw_1581 tw_1583 tw_p60 (by decide) dX12_readHeard_16) cmX12_readWhole (fun _ _ _ => rfl) rfl ?_
  refine s_Istn 1 rfl 20 (by decide) dX12_readHeard_19 rfl ?_
  refine s_Aldn 0 rfl 21 dX12_readHeard_20 rfl ?_
  refine s_ldcSw 24 25 2025 rfl sr_MownMazeModel_294 dX12_readHeard_21 rfl ?_
  exact s_pick (sBX12_readHeard_24)
def BX12_readHeard_9 : KT HP :=
  oCal 3 (some 12) EX12_begins fVH (oAld 0 (oConst (.int 0) (oConst (.int 60) (oPick [0] (BX12_readHeard_16)))))
set_option maxRecDepth 20000 in
theorem sBX12_readHeard_9 : Snd XX12_readHeard fVH 9 (BX12_readHeard_9) (0) (0) := by
  unfold BX12_readHeard_9
  refine s_cal0 12 (run_V (X := XX12_readHeard) rfl clX12 yoX12_begins rfl tw_1601 tw_1603 tw_p63 (by decide) dX12_readHeard_9) cmX12_begins (fun _ _ _ => rfl) rfl ?_
  refine s_Aldn 0 rfl 13 dX12_readHeard_12 rfl ?_
  refine s_iconst 14 0 (by decide) dX12_readHeard_13 rfl ?_
  refine s_bipush 16 60 (by decide) dX12_readHeard_14 rfl ?_
  exact s_pick (sBX12_readHeard_16)
def BX12_readHeard_0 : KT HP :=
  oAld 0 (oAld 0 (oGet 12 4 (oGet 11 9 (oConst (.int 5) (oPick [0] (BX12_readHeard_9))))))
set_option maxRecDepth 20000 in
theorem sBX12_readHeard_0 : Snd XX12_readHeard fVH 0 (BX12_readHeard_0) (0) (0) := by
  unfold BX12_readHeard_0
  refine s_Aldn 0 rfl 1 dX12_readHeard_0 rfl ?_
  refine s_Aldn 0 rfl 2 dX12_readHeard_1 rfl ?_
  refine s_get 12 4 5 clX12 (by decide) tw_1292 dX12_readHeard_2 rfl ?_
  refine s_getN 11 9 8 clX11 (by decide) nw_51 dX12_readHeard_5 rfl ?_
  refine s_iconst 9 5 (by decide) dX12_readHeard_8 rfl ?_
  exact s_pick (sBX12_readHeard_9)
def EX12_readHeard : List Value → HP → Option HP := en 3 BX12_readHeard_0
theorem cmX12_readHeard : CM XX12_readHeard EX12_readHeard fVH 0 0 := CM.of rfl (by decide) rfl rfl sBX12_readHeard_0
theorem yoX12_readHeard : YO XX12_readHeard 0 0 0 := ⟨tw_1644, rfl, tw_12, (by decide +kernel), rfl, rfl⟩
abbrev XX12_isName : MX := (yX12_isName, cX12_isName, 1, (Option.some .boolean), Cond.code yX12_isName cX12_isName 1 (Option.some .boolean) :: WS, { frames := 6, cells := 0, slots := 0, locals := 129 })
def BX12_isName_76 : KT Bool :=
  oCal 2 (some 12) EX12_isWord fZ (oIfne (oConst (.int 0) (oZretP)) (oConst (.int 1) (oZretP)))
set_option maxRecDepth 20000 in
theorem sBX12_isName_76 : Snd XX12_isName fZ 76 (BX12_isName_76) (0) (0) := by
  unfold BX12_isName_76
  refine s_cal0 79 (run_V (X := XX12_isName) rfl clX12 yoX12_isWord rfl tw_1555 tw_1557 tw_p55 (by decide) dX12_isName_76) cmX12_isWord (fun _ _ _ => rfl) rfl ?_
  refine s_ifne 86 82 dX12_isName_79 (by decide) rfl ?_ ?_
  · refine s_iconst 87 0 (by decide) dX12_isName_86 rfl ?_
    exact s_zretP rfl dX12_isName_87
  · refine s_iconst 83 1 (by decide) dX12_isName_82 rfl ?_
    refine s_goto 87 dX12_isName_83 (by decide) ?_
    exact s_zretP rfl dX12_isName_87
def BX12_isName_67 : KT Bool :=
  oCal 2 (some 12) EX12_isWord fZ (oIfne (oConst (.int 0) (oZretP)) (oAld 0 (oConst (.ref 2026) (oPick [] (BX12_isName_76)))))
set_option maxRecDepth 20000 in
theorem sBX12_isName_67 : Snd XX12_isName fZ 67 (BX12_isName_67) (0) (0) := by
  unfold BX12_isName_67
  refine s_cal0 70 (run_V (X := XX12_isName) rfl clX12 yoX12_isWord rfl tw_1555 tw_1557 tw_p55 (by decide) dX12_isName_67) cmX12_isWord (fun _ _ _ => rfl) rfl ?_
  refine s_ifne 86 73 dX12_isName_70 (by decide) rfl ?_ ?_
  · refine s_iconst 87 0 (by decide) dX12_isName_86 rfl ?_
    exact s_zretP rfl dX12_isName_87
  · refine s_Aldn 0 rfl 74 dX12_isName_73 rfl ?_
    refine s_ldcS 76 26 2026 rfl sr_MownMazeModel_220 dX12_isName_74 rfl ?_
    exact s_pick (sBX12_isName_76)
def BX12_isName_58 : KT Bool :=
  oCal 2 (some 12) EX12_isWord fZ (oIfne (oConst (.int 0) (oZretP)) (oAld 0 (oConst (.ref 2024) (oPick [0] (BX12_isName_67)))))
set_option maxRecDepth 20000 in
theorem sBX12_isName_58 : Snd XX12_isName fZ 58 (BX12_isName_58) (0) (0) := by
  unfold BX12_isName_58
  refine s_cal0 61 (run_V (X := XX12_isName) rfl clX12 yoX12_isWord rfl tw_1555 tw_1557 tw_p55 (by decide) dX12_isName_58) cmX12_isWord (fun _ _ _ => rfl) rfl ?_
  refine s_ifne 86 64 dX12_isName_61 (by decide) rfl ?_ ?_
  · refine s_iconst 87 0 (by decide) dX12_isName_86 rfl ?_
    exact s_zretP rfl dX12_isName_87
  · refine s_Aldn 0 rfl 65 dX12_isName_64 rfl ?_
    refine s_ldcS 67 24 2024 rfl sr_MownMazeModel_215 dX12_isName_65 rfl ?_
    exact s_pick (sBX12_isName_67)
def BX12_isName_49 : KT Bool :=
  oCal 2 (some 12) EX12_isWord fZ (oIfne (oConst (.int 0) (oZretP)) (oAld 0 (oConst (.ref 2023) (oPick [0] (BX12_isName_58)))))
set_option maxRecDepth 20000 in
theorem sBX12_isName_49 : Snd XX12_isName fZ 49 (BX12_isName_49) (0) (0) := by
  unfold BX12_isName_49
  refine s_cal0 52 (run_V (X := XX12_isName) rfl clX12 yoX12_isWord rfl tw_1555 tw_1557 tw_p55 (by decide) dX12_isName_49) cmX12_isWord (fun _ _ _ => rfl) rfl ?_
  refine s_ifne 86 55 dX12_isName_52 (by decide) rfl ?_ ?_
  · refine s_iconst 87 0 (by decide) dX12_isName_86 rfl ?_
    exact s_zretP rfl dX12_isName_87
  · refine s_Aldn 0 rfl 56 dX12_isName_55 rfl ?_
    refine s_ldcS 58 23 2023 rfl sr_MownMazeModel_210 dX12_isName_56 rfl ?_
    exact s_pick (sBX12_isName_58)
def BX12_isName_38 : KT Bool :=
  oCal 2 (some 12) EX12_isWord fZ (oIfeq (oAld 0 (oConst (.ref 2022) (oPick [0] (BX12_isName_49)))) (oConst (.int 0) (oZretP)))
set_option maxRecDepth 20000 in
theorem sBX12_isName_38 : Snd XX12_isName fZ 38 (BX12_isName_38) (0) (0) := by
  unfold BX12_isName_38
  refine s_cal0 41 (run_V (X := XX12_isName) rfl clX12 yoX12_isWord rfl tw_1555 tw_1557 tw_p55 (by decide) dX12_isName_38) cmX12_isWord (fun _ _ _ => rfl) rfl ?_
  refine s_ifeq 46 44 dX12_isName_41 (by decide) rfl ?_ ?_
  · refine s_Aldn 0 rfl 47 dX12_isName_46 rfl ?_
    refine s_ldcS 49 22 2022 rfl sr_MownMazeModel_205 dX12_isName_47 rfl ?_
    exact s_pick (sBX12_isName_49)
  · refine s_iconst 45 0 (by decide) dX12_isName_44 rfl ?_
    exact s_zretP rfl dX12_isName_45
def BX12_isName_29 : KT Bool :=
  oCal 2 (some 12) EX12_isWord fZ (oIfne (oConst (.int 0) (oZretP)) (oAld 0 (oConst (.ref 2021) (oPick [0] (BX12_isName_38)))))
set_option maxRecDepth 20000 in
theorem sBX12_isName_29 : Snd XX12_isName fZ 29 (BX12_isName_29) (0) (0) := by
  unfold BX12_isName_29
  refine s_cal0 32 (run_V (X := XX12_isName) rfl clX12 yoX12_isWord rfl tw_1555 tw_1557 tw_p55 (by decide) dX12_isName_29) cmX12_isWord (fun _ _ _ => rfl) rfl ?_
  refine s_ifne 44 35 dX12_isName_32 (by decide) rfl ?_ ?_
  · refine s_iconst 45 0 (by decide) dX12_isName_44 rfl ?_
    exact s_zretP rfl dX12_isName_45
  · refine s_Aldn 0 rfl 36 dX12_isName_35 rfl ?_
    refine s_ldcS 38 21 2021 rfl sr_MownMazeModel_200 dX12_isName_36 rfl ?_
    exact s_pick (sBX12_isName_38)
def BX12_isName_20 : KT Bool :=
  oCal 2 (some 12) EX12_isWord fZ (oIfne (oConst (.int 0) (oZretP)) (oAld 0 (oConst (.ref 2020) (oPick [0] (BX12_isName_29)))))
set_option maxRecDepth 20000 in
theorem sBX12_isName_20 : Snd XX12_isName fZ 20 (BX12_isName_20) (0) (0) := by
  unfold BX12_isName_20
  refine s_cal0 23 (run_V (X := XX12_isName) rfl clX12 yoX12_isWord rfl tw_1555 tw_1557 tw_p55 (by decide) dX12_isName_20) cmX12_isWord (fun _ _ _ => rfl) rfl ?_
  refine s_ifne 44 26 dX12_isName_23 (by decide) rfl ?_ ?_
  · refine s_iconst 45 0 (by decide) dX12_isName_44 rfl ?_
    exact s_zretP rfl dX12_isName_45
  · refine s_Aldn 0 rfl 27 dX12_isName_26 rfl ?_
    refine s_ldcS 29 20 2020 rfl sr_MownMazeModel_195 dX12_isName_27 rfl ?_
    exact s_pick (sBX12_isName_29)
def BX12_isName_11 : KT Bool :=
  oCal 2 (some 12) EX12_isWord fZ (oIfne (oConst (.int 0) (oZretP)) (oAld 0 (oConst (.ref 2019) (oPick [0] (BX12_isName_20)))))
set_option maxRecDepth 20000 in
theorem sBX12_isName_11 : Snd XX12_isName fZ 11 (BX12_isName_11) (0) (0) := by
  unfold BX12_isName_11
  refine s_cal0 14 (run_V (X := XX12_isName) rfl clX12 yoX12_isWord rfl tw_1555 tw_1557 tw_p55 (by decide) dX12_isName_11) cmX12_isWord (fun _ _ _ => rfl) rfl ?_
  refine s_ifne 44 17 dX12_isName_14 (by decide) rfl ?_ ?_
  · refine s_iconst 45 0 (by decide) dX12_isName_44 rfl ?_
    exact s_zretP rfl dX12_isName_45
  · refine s_Aldn 0 rfl 18 dX12_isName_17 rfl ?_
    refine s_ldcS 20 19 2019 rfl sr_MownMazeModel_191 dX12_isName_18 rfl ?_
    exact s_pick (sBX12_isName_20)
def BX12_isName_0 : KT Bool :=
  oAld 0 (oGet 12 9 (oConst (.int 2) (oCmpne (oConst (.int 0) (oZretP)) (oAld 0 (oConst (.ref 2013) (oPick [0] (BX12_isName_11)))))))
set_option maxRecDepth 20000 in
theorem sBX12_isName_0 : Snd XX12_isName fZ 0 (BX12_isName_0) (0) (0) := by
  unfold BX12_isName_0
  refine s_Aldn 0 rfl 1 dX12_isName_0 rfl ?_
  refine s_get 12 9 4 clX12 (by decide) tw_1297 dX12_isName_1 rfl ?_
  refine s_iconst 5 2 (by decide) dX12_isName_4 rfl ?_
  refine s_cmpne 44 8 dX12_isName_5 (by decide) rfl ?_ ?_
  · refine s_iconst 45 0 (by decide) dX12_isName_44 rfl ?_
    exact s_zretP rfl dX12_isName_45
  · refine s_Aldn 0 rfl 9 dX12_isName_8 rfl ?_
    refine s_ldcS 11 13 2013 rfl sr_MownMazeModel_186 dX12_isName_9 rfl ?_
    exact s_pick (sBX12_isName_11)
def EX12_isName : List Value → HP → Option Bool := en 1 BX12_isName_0
theorem cmX12_isName : CM XX12_isName EX12_isName fZ 0 0 := CM.of rfl (by decide) rfl rfl sBX12_isName_0
theorem yoX12_isName : YO XX12_isName 0 0 0 := ⟨tw_1654, rfl, tw_12, (by decide +kernel), rfl, rfl⟩
abbrev XX12_readWalker : MX := (yX12_readWalker, cX12_readWalker, 7, none, Cond.code yX12_readWalker cX12_readWalker 7 none :: WS, { frames := 8, cells := 0, slots := 0, locals := 173 })
def BX12_readWalker_261 : KT HP :=
  oCal 4 (some 12) EX12_readPart fIH (oIst 6 (oAld 0 (oGet 12 9 (oConst (.int 5) (oCmpne (oAld 0 (oGet 12 4 (oGet 11 25 (oAld 0 (oGet 12 4 (oGet 11 10 (oLld 1 (oJw (oAld 0 (oGet 12 4 (oGet 11 21 (oAld 0 (oGet 12 4 (oGet 11 10 (oIld 3 (oIw (oAld 0 (oGet 12 4 (oGet 11 22 (oAld 0 (oGet 12 4 (oGet 11 10 (oIld 4 (oIw (oAld 0 (oGet 12 4 (oGet 11 23 (oAld 0 (oGet 12 4 (oGet 11 10 (oIld 5 (oIw (oAld 0 (oGet 12 4 (oGet 11 24 (oAld 0 (oGet 12 4 (oGet 11 10 (oIld 6 (oIw (oAld 0 (oGet 12 4 (odup (oGet 11 10 (oConst (.int 1) (oiadd (oPut 11 10 .int (oVretH)))))))))))))))))))))))))))))))))))))))))))))))) (oVretH))))))
set_option maxRecDepth 20000 in
theorem sBX12_readWalker_261 : Snd XX12_readWalker fVH 261 (BX12_readWalker_261) (0) (0) := by
  unfold BX12_readWalker_261
  refine s_cal0 264 (run_V (X := XX12_readWalker) rfl clX12 yoX12_readPart rfl tw_1573 tw_1575 tw_p58 (by decide) dX12_readWalker_261) cmX12_readPart (fun _ _ _ => rfl) rfl ?_
  refine s_Ist 6 266 (by decide) dX12_readWalker_264 rfl ?_
  refine s_Aldn 0 rfl 267 dX12_readWalker_266 rfl ?_
  refine s_get 12 9 270 clX12 (by decide) tw_1297 dX12_readWalker_267 rfl ?_
  refine s_iconst 271 5 (by decide) dX12_readWalker_270 rfl ?_
  refine s_cmpne 275 274 dX12_readWalker_271 (by decide) rfl ?_ ?_
  · refine s_Aldn 0 rfl 276 dX12_readWalker_275 rfl ?_
    refine s_get 12 4 279 clX12 (by decide) tw_1292 dX12_readWalker_276 rfl ?_
    refine s_getN 11 25 282 clX11 (by decide) nw_67 dX12_readWalker_279 rfl ?_
    refine s_Aldn 0 rfl 283 dX12_readWalker_282 rfl ?_
    refine s_get 12 4 286 clX12 (by decide) tw_1292 dX12_readWalker_283 rfl ?_
    refine s_getN 11 10 289 clX11 (by decide) nw_52 dX12_readWalker_286 rfl ?_
    refine s_Lldn 1 rfl 290 dX12_readWalker_289 rfl ?_
    refine s_Jw 291 pVH dX12_readWalker_290 rfl ?_
    refine s_Aldn 0 rfl 292 dX12_readWalker_291 rfl ?_
    refine s_get 12 4 295 clX12 (by decide) tw_1292 dX12_readWalker_292 rfl ?_
    refine s_getN 11 21 298 clX11 (by decide) nw_63 dX12_readWalker_295 rfl ?_
    refine s_Aldn 0 rfl 299 dX12_readWalker_298 rfl ?_
    refine s_get 12 4 302 clX12 (by decide) tw_1292 dX12_readWalker_299 rfl ?_
    refine s_getN 11 10 305 clX11 (by decide) nw_52 dX12_readWalker_302 rfl ?_
    refine s_Ildn 3 rfl 306 dX12_readWalker_305 rfl ?_
    refine s_Iw 307 pVH dX12_readWalker_306 rfl ?_
    refine s_Aldn 0 rfl 308 dX12_readWalker_307 rfl ?_
    refine s_get 12 4 311 clX12 (by decide) tw_1292 dX12_readWalker_308 rfl ?_
    refine s_getN 11 22 314 clX11 (by decide) nw_64 dX12_readWalker_311 rfl ?_
    refine s_Aldn 0 rfl 315 dX12_readWalker_314 rfl ?_
    refine s_get 12 4 318 clX12 (by decide) tw_1292 dX12_readWalker_315 rfl ?_
    refine s_getN 11 10 321 clX11 (by decide) nw_52 dX12_readWalker_318 rfl ?_
    refine s_Ild 4 323 dX12_readWalker_321 rfl ?_
    refine s_Iw 324 pVH dX12_readWalker_323 rfl ?_
    refine s_Aldn 0 rfl 325 dX12_readWalker_324 rfl ?_
    refine s_get 12 4 328 clX12 (by decide) tw_1292 dX12_readWalker_325 rfl ?_
    refine s_getN 11 23 331 clX11 (by decide) nw_65 dX12_readWalker_328 rfl ?_
    refine s_Aldn 0 rfl 332 dX12_readWalker_331 rfl ?_
    refine s_get 12 4 335 clX12 (by decide) tw_1292 dX12_readWalker_332 rfl ?_
    refine s_getN 11 10 338 clX11 (by decide) nw_52 dX12_readWalker_335 rfl ?_
    refine s_Ild 5 340 dX12_readWalker_338 rfl ?_
    refine s_Iw 341 pVH dX12_readWalker_340 rfl ?_
    refine s_Aldn 0 rfl 342 dX12_readWalker_341 rfl ?_
    refine s_get 12 4 345 clX12 (by decide) tw_1292 dX12_readWalker_342 rfl ?_
    refine s_getN 11 24 348 clX11 (by decide) nw_66 dX12_readWalker_345 rfl ?_
    refine s_Aldn 0 rfl 349 dX12_readWalker_348 rfl ?_
    refine s_get 12 4 352 clX12 (by decide) tw_1292 dX12_readWalker_349 rfl ?_
    refine s_getN 11 10 355 clX11 (by decide) nw_52 dX12_readWalker_352 rfl ?_
    refine s_Ild 6 357 dX12_readWalker_355 rfl ?_
    refine s_Iw 358 pVH dX12_readWalker_357 rfl ?_
    refine s_Aldn 0 rfl 359 dX12_readWalker_358 rfl ?_
    refine s_get 12 4 362 clX12 (by decide) tw_1292 dX12_readWalker_359 rfl ?_
    refine s_dup 363 dX12_readWalker_362 rfl ?_
    refine s_getN 11 10 366 clX11 (by decide) nw_52 dX12_readWalker_363 rfl ?_
    refine s_iconst 367 1 (by decide) dX12_readWalker_366 rfl ?_
    refine s_iadd 368 dX12_readWalker_367 rfl ?_
    refine s_putN 11 10 371 clX11 (by decide) rfl rfl pVH nw_52 dX12_readWalker_368 rfl ?_
    exact s_vretH rfl dX12_readWalker_371
  · exact s_vretH rfl dX12_readWalker_274
def BX12_readWalker_254 : KT HP :=
  oAld 0 (oConst (.ref 2038) (oConst (.int 0) (oConst (.int 99) (oPick [0, 1, 3, 4, 5] (BX12_readWalker_261)))))
set_option maxRecDepth 20000 in
theorem sBX12_readWalker_254 : Snd XX12_readWalker fVH 254 (BX12_readWalker_254) (0) (0) := by
  unfold BX12_readWalker_254
  refine s_Aldn 0 rfl 255 dX12_readWalker_254 rfl ?_
  refine s_ldcSw 258 38 2038 rfl sr_MownMazeModel_336 dX12_readWalker_255 rfl ?_
  refine s_iconst 259 0 (by decide) dX12_readWalker_258 rfl ?_
  refine s_bipush 261 99 (by decide) dX12_readWalker_259 rfl ?_
  exact s_pick (sBX12_readWalker_261)
def BX12_readWalker_251 : KT HP :=
  oCal 2 (some 12) EX12_flaw fVH (oPick [0, 1, 3, 4, 5] (BX12_readWalker_254))
set_option maxRecDepth 20000 in
theorem sBX12_readWalker_251 : Snd XX12_readWalker fVH 251 (BX12_readWalker_251) (0) (0) := by
  unfold BX12_readWalker_251
  refine s_cal0 254 (run_V (X := XX12_readWalker) rfl clX12 yoX12_flaw rfl tw_1568 tw_1570 tw_p57 (by decide) dX12_readWalker_251) cmX12_flaw (fun _ _ _ => rfl) rfl ?_
  exact s_pick (sBX12_readWalker_254)
def BX12_readWalker_241 : KT HP :=
  oIst 5 (oIld 5 (oConst (.int (-1)) (oCmpne (oPick [0, 1, 3, 4, 5] (BX12_readWalker_254)) (oAld 0 (oConst (.int 1) (oPick [0, 1, 3, 4, 5] (BX12_readWalker_251)))))))
set_option maxRecDepth 20000 in
theorem sBX12_readWalker_241 : Snd XX12_readWalker fVH 241 (BX12_readWalker_241) (0) (0) := by
  unfold BX12_readWalker_241
  refine s_Ist 5 243 (by decide) dX12_readWalker_241 rfl ?_
  refine s_Ild 5 245 dX12_readWalker_243 rfl ?_
  refine s_iconst 246 (-1) (by decide) dX12_readWalker_245 rfl ?_
  refine s_cmpne 254 249 dX12_readWalker_246 (by decide) rfl ?_ ?_
  · exact s_pick (sBX12_readWalker_254)
  · refine s_Aldn 0 rfl 250 dX12_readWalker_249 rfl ?_
    refine s_iconst 251 1 (by decide) dX12_readWalker_250 rfl ?_
    exact s_pick (sBX12_readWalker_251)
def BX12_readWalker_230 : KT HP :=
  oCal 2 (some 12) EX12_eatsWord fZH (oIfeq (oConst (.int (-1)) (oPick [0, 1, 3, 4] (BX12_readWalker_241))) (oConst (.int 3) (oPick [0, 1, 3, 4] (BX12_readWalker_241))))
set_option maxRecDepth 20000 in
theorem sBX12_readWalker_230 : Snd XX12_readWalker fVH 230 (BX12_readWalker_230) (0) (0) := by
  unfold BX12_readWalker_230
  refine s_cal0 233 (run_V (X := XX12_readWalker) rfl clX12 yoX12_eatsWord rfl tw_1656 tw_1658 tw_p74 (by decide) dX12_readWalker_230) cmX12_eatsWord (fun _ _ _ => rfl) rfl ?_
  refine s_ifeq 240 236 dX12_readWalker_233 (by decide) rfl ?_ ?_
  · refine s_iconst 241 (-1) (by decide) dX12_readWalker_240 rfl ?_
    exact s_pick (sBX12_readWalker_241)
  · refine s_iconst 237 3 (by decide) dX12_readWalker_236 rfl ?_
    refine s_goto 241 dX12_readWalker_237 (by decide) ?_
    exact s_pick (sBX12_readWalker_241)
def BX12_readWalker_216 : KT HP :=
  oCal 2 (some 12) EX12_eatsWord fZH (oIfeq (oAld 0 (oConst (.ref 2037) (oPick [0, 1, 3, 4] (BX12_readWalker_230)))) (oConst (.int 2) (oPick [0, 1, 3, 4] (BX12_readWalker_241))))
set_option maxRecDepth 20000 in
theorem sBX12_readWalker_216 : Snd XX12_readWalker fVH 216 (BX12_readWalker_216) (0) (0) := by
  unfold BX12_readWalker_216
  refine s_cal0 219 (run_V (X := XX12_readWalker) rfl clX12 yoX12_eatsWord rfl tw_1656 tw_1658 tw_p74 (by decide) dX12_readWalker_216) cmX12_eatsWord (fun _ _ _ => rfl) rfl ?_
  refine s_ifeq 226 222 dX12_readWalker_219 (by decide) rfl ?_ ?_
  · refine s_Aldn 0 rfl 227 dX12_readWalker_226 rfl ?_
    refine s_ldcSw 230 37 2037 rfl sr_MownMazeModel_334 dX12_readWalker_227 rfl ?_
    exact s_pick (sBX12_readWalker_230)
  · refine s_iconst 223 2 (by decide) dX12_readWalker_222 rfl ?_
    refine s_goto 241 dX12_readWalker_223 (by decide) ?_
    exact s_pick (sBX12_readWalker_241)
def BX12_readWalker_202 : KT HP :=
  oCal 2 (some 12) EX12_eatsWord fZH (oIfeq (oAld 0 (oConst (.ref 2036) (oPick [0, 1, 3, 4] (BX12_readWalker_216)))) (oConst (.int 1) (oPick [0, 1, 3, 4] (BX12_readWalker_241))))
set_option maxRecDepth 20000 in
theorem sBX12_readWalker_202 : Snd XX12_readWalker fVH 202 (BX12_readWalker_202) (0) (0) := by
  unfold BX12_readWalker_202
  refine s_cal0 205 (run_V (X := XX12_readWalker) rfl clX12 yoX12_eatsWord rfl tw_1656 tw_1658 tw_p74 (by decide) dX12_readWalker_202) cmX12_eatsWord (fun _ _ _ => rfl) rfl ?_
  refine s_ifeq 212 208 dX12_readWalker_205 (by decide) rfl ?_ ?_
  · refine s_Aldn 0 rfl 213 dX12_readWalker_212 rfl ?_
    refine s_ldcSw 216 36 2036 rfl sr_MownMazeModel_332 dX12_readWalker_213 rfl ?_
    exact s_pick (sBX12_readWalker_216)
  · refine s_iconst 209 1 (by decide) dX12_readWalker_208 rfl ?_
    refine s_goto 241 dX12_readWalker_209 (by decide) ?_
    exact s_pick (sBX12_readWalker_241)
def BX12_readWalker_188 : KT HP :=
  oCal 2 (some 12) EX12_eatsWord fZH (oIfeq (oAld 0 (oConst (.ref 2035) (oPick [0, 1, 3, 4] (BX12_readWalker_202)))) (oConst (.int 0) (oPick [0, 1, 3, 4] (BX12_readWalker_241))))
set_option maxRecDepth 20000 in
theorem sBX12_readWalker_188 : Snd XX12_readWalker fVH 188 (BX12_readWalker_188) (0) (0) := by
  unfold BX12_readWalker_188
  refine s_cal0 191 (run_V (X := XX12_readWalker) rfl clX12 yoX12_eatsWord rfl tw_1656 tw_1658 tw_p74 (by decide) dX12_readWalker_188) cmX12_eatsWord (fun _ _ _ => rfl) rfl ?_
  refine s_ifeq 198 194 dX12_readWalker_191 (by decide) rfl ?_ ?_
  · refine s_Aldn 0 rfl 199 dX12_readWalker_198 rfl ?_
    refine s_ldcSw 202 35 2035 rfl sr_MownMazeModel_330 dX12_readWalker_199 rfl ?_
    exact s_pick (sBX12_readWalker_202)
  · refine s_iconst 195 0 (by decide) dX12_readWalker_194 rfl ?_
    refine s_goto 241 dX12_readWalker_195 (by decide) ?_
    exact s_pick (sBX12_readWalker_241)
def BX12_readWalker_181 : KT HP :=
  oCal 2 (some 12) EX12_needs fVH (oAld 0 (oConst (.ref 2034) (oPick [0, 1, 3, 4] (BX12_readWalker_188))))
set_option maxRecDepth 20000 in
theorem sBX12_readWalker_181 : Snd XX12_readWalker fVH 181 (BX12_readWalker_181) (0) (0) := by
  unfold BX12_readWalker_181
  refine s_cal0 184 (run_V (X := XX12_readWalker) rfl clX12 yoX12_needs rfl tw_1577 tw_1579 tw_p59 (by decide) dX12_readWalker_181) cmX12_needs (fun _ _ _ => rfl) rfl ?_
  refine s_Aldn 0 rfl 185 dX12_readWalker_184 rfl ?_
  refine s_ldcSw 188 34 2034 rfl sr_MownMazeModel_328 dX12_readWalker_185 rfl ?_
  exact s_pick (sBX12_readWalker_188)
def BX12_readWalker_172 : KT HP :=
  oCal 1 (some 12) EX12_readCell fIH (oIst 4 (oAld 0 (oConst (.ref 2033) (oPick [0, 1, 3, 4] (BX12_readWalker_181)))))
set_option maxRecDepth 20000 in
theorem sBX12_readWalker_172 : Snd XX12_readWalker fVH 172 (BX12_readWalker_172) (0) (0) := by
  unfold BX12_readWalker_172
  refine s_cal0 175 (run_V (X := XX12_readWalker) rfl clX12 yoX12_readCell rfl tw_1636 tw_1638 tw_p70 (by decide) dX12_readWalker_172) cmX12_readCell (fun _ _ _ => rfl) rfl ?_
  refine s_Ist 4 177 (by decide) dX12_readWalker_175 rfl ?_
  refine s_Aldn 0 rfl 178 dX12_readWalker_177 rfl ?_
  refine s_ldcSw 181 33 2033 rfl sr_MownMazeModel_326 dX12_readWalker_178 rfl ?_
  exact s_pick (sBX12_readWalker_181)
def BX12_readWalker_168 : KT HP :=
  oCal 2 (some 12) EX12_needs fVH (oAld 0 (oPick [0, 1, 3] (BX12_readWalker_172)))
set_option maxRecDepth 20000 in
theorem sBX12_readWalker_168 : Snd XX12_readWalker fVH 168 (BX12_readWalker_168) (0) (0) := by
  unfold BX12_readWalker_168
  refine s_cal0 171 (run_V (X := XX12_readWalker) rfl clX12 yoX12_needs rfl tw_1577 tw_1579 tw_p59 (by decide) dX12_readWalker_168) cmX12_needs (fun _ _ _ => rfl) rfl ?_
  refine s_Aldn 0 rfl 172 dX12_readWalker_171 rfl ?_
  exact s_pick (sBX12_readWalker_172)
def BX12_readWalker_164 : KT HP :=
  oAld 0 (oConst (.ref 2032) (oPick [0, 1, 3] (BX12_readWalker_168)))
set_option maxRecDepth 20000 in
theorem sBX12_readWalker_164 : Snd XX12_readWalker fVH 164 (BX12_readWalker_164) (0) (0) := by
  unfold BX12_readWalker_164
  refine s_Aldn 0 rfl 165 dX12_readWalker_164 rfl ?_
  refine s_ldcSw 168 32 2032 rfl sr_MownMazeModel_324 dX12_readWalker_165 rfl ?_
  exact s_pick (sBX12_readWalker_168)
def BX12_readWalker_161 : KT HP :=
  oCal 2 (some 12) EX12_flaw fVH (oPick [0, 1, 3] (BX12_readWalker_164))
set_option maxRecDepth 20000 in
theorem sBX12_readWalker_161 : Snd XX12_readWalker fVH 161 (BX12_readWalker_161) (0) (0) := by
  unfold BX12_readWalker_161
  refine s_cal0 164 (run_V (X := XX12_readWalker) rfl clX12 yoX12_flaw rfl tw_1568 tw_1570 tw_p57 (by decide) dX12_readWalker_161) cmX12_flaw (fun _ _ _ => rfl) rfl ?_
  exact s_pick (sBX12_readWalker_164)
def BX12_readWalker_153 : KT HP :=
  oIst 3 (oIld 3 (oConst (.int (-1)) (oCmpne (oPick [0, 1, 3] (BX12_readWalker_164)) (oAld 0 (oConst (.int 1) (oPick [0, 1, 3] (BX12_readWalker_161)))))))
set_option maxRecDepth 20000 in
theorem sBX12_readWalker_153 : Snd XX12_readWalker fVH 153 (BX12_readWalker_153) (0) (0) := by
  unfold BX12_readWalker_153
  refine s_Istn 3 rfl 154 (by decide) dX12_readWalker_153 rfl ?_
  refine s_Ildn 3 rfl 155 dX12_readWalker_154 rfl ?_
  refine s_iconst 156 (-1) (by decide) dX12_readWalker_155 rfl ?_
  refine s_cmpne 164 159 dX12_readWalker_156 (by decide) rfl ?_ ?_
  · exact s_pick (sBX12_readWalker_164)
  · refine s_Aldn 0 rfl 160 dX12_readWalker_159 rfl ?_
    refine s_iconst 161 1 (by decide) dX12_readWalker_160 rfl ?_
    exact s_pick (sBX12_readWalker_161)
def BX12_readWalker_142 : KT HP :=
  oCal 2 (some 12) EX12_eatsWord fZH (oIfeq (oConst (.int (-1)) (oPick [0, 1] (BX12_readWalker_153))) (oConst (.int 4) (oPick [0, 1] (BX12_readWalker_153))))
set_option maxRecDepth 20000 in
theorem sBX12_readWalker_142 : Snd XX12_readWalker fVH 142 (BX12_readWalker_142) (0) (0) := by
  unfold BX12_readWalker_142
  refine s_cal0 145 (run_V (X := XX12_readWalker) rfl clX12 yoX12_eatsWord rfl tw_1656 tw_1658 tw_p74 (by decide) dX12_readWalker_142) cmX12_eatsWord (fun _ _ _ => rfl) rfl ?_
  refine s_ifeq 152 148 dX12_readWalker_145 (by decide) rfl ?_ ?_
  · refine s_iconst 153 (-1) (by decide) dX12_readWalker_152 rfl ?_
    exact s_pick (sBX12_readWalker_153)
  · refine s_iconst 149 4 (by decide) dX12_readWalker_148 rfl ?_
    refine s_goto 153 dX12_readWalker_149 (by decide) ?_
    exact s_pick (sBX12_readWalker_153)
def BX12_readWalker_128 : KT HP :=
  oCal 2 (some 12) EX12_eatsWord fZH (oIfeq (oAld 0 (oConst (.ref 2031) (oPick [0, 1] (BX12_readWalker_142)))) (oConst (.int 3) (oPick [0, 1] (BX12_readWalker_153))))
set_option maxRecDepth 20000 in
theorem sBX12_readWalker_128 : Snd XX12_readWalker fVH 128 (BX12_readWalker_128) (0) (0) := by
  unfold BX12_readWalker_128
  refine s_cal0 131 (run_V (X := XX12_readWalker) rfl clX12 yoX12_eatsWord rfl tw_1656 tw_1658 tw_p74 (by decide) dX12_readWalker_128) cmX12_eatsWord (fun _ _ _ => rfl) rfl ?_
  refine s_ifeq 138 134 dX12_readWalker_131 (by decide) rfl ?_ ?_
  · refine s_Aldn 0 rfl 139 dX12_readWalker_138 rfl ?_
    refine s_ldcSw 142 31 2031 rfl sr_MownMazeModel_322 dX12_readWalker_139 rfl ?_
    exact s_pick (sBX12_readWalker_142)
  · refine s_iconst 135 3 (by decide) dX12_readWalker_134 rfl ?_
    refine s_goto 153 dX12_readWalker_135 (by decide) ?_
    exact s_pick (sBX12_readWalker_153)
def BX12_readWalker_114 : KT HP :=
  oCal 2 (some 12) EX12_eatsWord fZH (oIfeq (oAld 0 (oConst (.ref 2030) (oPick [0, 1] (BX12_readWalker_128)))) (oConst (.int 2) (oPick [0, 1] (BX12_readWalker_153))))
set_option maxRecDepth 20000 in
theorem sBX12_readWalker_114 : Snd XX12_readWalker fVH 114 (BX12_readWalker_114) (0) (0) := by
  unfold BX12_readWalker_114
  refine s_cal0 117 (run_V (X := XX12_readWalker) rfl clX12 yoX12_eatsWord rfl tw_1656 tw_1658 tw_p74 (by decide) dX12_readWalker_114) cmX12_eatsWord (fun _ _ _ => rfl) rfl ?_
  refine s_ifeq 124 120 dX12_readWalker_117 (by decide) rfl ?_ ?_
  · refine s_Aldn 0 rfl 125 dX12_readWalker_124 rfl ?_
    refine s_ldcSw 128 30 2030 rfl sr_MownMazeModel_320 dX12_readWalker_125 rfl ?_
    exact s_pick (sBX12_readWalker_128)
  · refine s_iconst 121 2 (by decide) dX12_readWalker_120 rfl ?_
    refine s_goto 153 dX12_readWalker_121 (by decide) ?_
    exact s_pick (sBX12_readWalker_153)
def BX12_readWalker_100 : KT HP :=
  oCal 2 (some 12) EX12_eatsWord fZH (oIfeq (oAld 0 (oConst (.ref 2029) (oPick [0, 1] (BX12_readWalker_114)))) (oConst (.int 1) (oPick [0, 1] (BX12_readWalker_153))))
set_option maxRecDepth 20000 in
theorem sBX12_readWalker_100 : Snd XX12_readWalker fVH 100 (BX12_readWalker_100) (0) (0) := by
  unfold BX12_readWalker_100
  refine s_cal0 103 (run_V (X := XX12_readWalker) rfl clX12 yoX12_eatsWord rfl tw_1656 tw_1658 tw_p74 (by decide) dX12_readWalker_100) cmX12_eatsWord (fun _ _ _ => rfl) rfl ?_
  refine s_ifeq 110 106 dX12_readWalker_103 (by decide) rfl ?_ ?_
  · refine s_Aldn 0 rfl 111 dX12_readWalker_110 rfl ?_
    refine s_ldcSw 114 29 2029 rfl sr_MownMazeModel_318 dX12_readWalker_111 rfl ?_
    exact s_pick (sBX12_readWalker_114)
  · refine s_iconst 107 1 (by decide) dX12_readWalker_106 rfl ?_
    refine s_goto 153 dX12_readWalker_107 (by decide) ?_
    exact s_pick (sBX12_readWalker_153)
def BX12_readWalker_86 : KT HP :=
  oCal 2 (some 12) EX12_eatsWord fZH (oIfeq (oAld 0 (oConst (.ref 2028) (oPick [0, 1] (BX12_readWalker_100)))) (oConst (.int 0) (oPick [0, 1] (BX12_readWalker_153))))
set_option maxRecDepth 20000 in
theorem sBX12_readWalker_86 : Snd XX12_readWalker fVH 86 (BX12_readWalker_86) (0) (0) := by
  unfold BX12_readWalker_86
  refine s_cal0 89 (run_V (X := XX12_readWalker) rfl clX12 yoX12_eatsWord rfl tw_1656 tw_1658 tw_p74 (by decide) dX12_readWalker_86) cmX12_eatsWord (fun _ _ _ => rfl) rfl ?_
  refine s_ifeq 96 92 dX12_readWalker_89 (by decide) rfl ?_ ?_
  · refine s_Aldn 0 rfl 97 dX12_readWalker_96 rfl ?_
    refine s_ldcSw 100 28 2028 rfl sr_MownMazeModel_316 dX12_readWalker_97 rfl ?_
    exact s_pick (sBX12_readWalker_100)
  · refine s_iconst 93 0 (by decide) dX12_readWalker_92 rfl ?_
    refine s_goto 153 dX12_readWalker_93 (by decide) ?_
    exact s_pick (sBX12_readWalker_153)
def BX12_readWalker_79 : KT HP :=
  oCal 1 (some 12) EX12_goesOn fVH (oAld 0 (oConst (.ref 2027) (oPick [0, 1] (BX12_readWalker_86))))
set_option maxRecDepth 20000 in
theorem sBX12_readWalker_79 : Snd XX12_readWalker fVH 79 (BX12_readWalker_79) (0) (0) := by
  unfold BX12_readWalker_79
  refine s_cal0 82 (run_V (X := XX12_readWalker) rfl clX12 yoX12_goesOn rfl tw_1531 tw_1533 tw_p51 (by decide) dX12_readWalker_79) cmX12_goesOn (fun _ _ _ => rfl) rfl ?_
  refine s_Aldn 0 rfl 83 dX12_readWalker_82 rfl ?_
  refine s_ldcSw 86 27 2027 rfl sr_MownMazeModel_311 dX12_readWalker_83 rfl ?_
  exact s_pick (sBX12_readWalker_86)
def BX12_readWalker_64 (k26 : KT HP) : KT HP :=
  oCal 2 (some 12) EX12_flaw fVH (oInc 1 1 (oPick [0, 1] k26))
set_option maxRecDepth 20000 in
theorem sBX12_readWalker_64 {k26 : KT HP} (hk26 : Snd XX12_readWalker fVH 26 k26 0 0) : Snd XX12_readWalker fVH 64 (BX12_readWalker_64 k26) (0) (0) := by
  unfold BX12_readWalker_64
  refine s_cal0 67 (run_V (X := XX12_readWalker) rfl clX12 yoX12_flaw rfl tw_1568 tw_1570 tw_p57 (by decide) dX12_readWalker_64) cmX12_flaw (fun _ _ _ => rfl) rfl ?_
  refine s_inc 1 1 70 (by decide) (by decide) dX12_readWalker_67 rfl ?_
  refine s_goto 26 dX12_readWalker_70 (by decide) ?_
  exact s_pick hk26
def BX12_readWalker_26 (k26 : KT HP) : KT HP :=
  oIld 1 (oAld 0 (oGet 12 4 (oGet 11 10 (oCmpge (oAld 0 (oGet 12 17 (oLst 1 (oAld 0 (oPick [0, 1] (BX12_readWalker_79)))))) (oAld 0 (oGet 12 9 (oConst (.int 5) (oCmpeq (oInc 1 1 (oPick [0, 1] k26)) (oAld 0 (oGet 12 4 (oGet 11 25 (oIld 1 (oJa (oAld 0 (oGet 12 17 (olcmp (oIfne (oInc 1 1 (oPick [0, 1] k26)) (oAld 0 (oConst (.int 3) (oPick [0, 1] (BX12_readWalker_64 k26)))))))))))))))))))))
set_option maxRecDepth 20000 in
theorem sBX12_readWalker_26 {k26 : KT HP} (hk26 : Snd XX12_readWalker fVH 26 k26 0 0) : Snd XX12_readWalker fVH 26 (BX12_readWalker_26 k26) (0) (0) := by
  unfold BX12_readWalker_26
  refine s_Ildn 1 rfl 27 dX12_readWalker_26 rfl ?_
  refine s_Aldn 0 rfl 28 dX12_readWalker_27 rfl ?_
  refine s_get 12 4 31 clX12 (by decide) tw_1292 dX12_readWalker_28 rfl ?_
  refine s_getN 11 10 34 clX11 (by decide) nw_52 dX12_readWalker_31 rfl ?_
  refine s_cmpge 73 37 dX12_readWalker_34 (by decide) rfl ?_ ?_
  · refine s_Aldn 0 rfl 74 dX12_readWalker_73 rfl ?_
    refine s_get 12 17 77 clX12 (by decide) tw_1305 dX12_readWalker_74 rfl ?_
    refine s_Lstn 1 rfl 78 (by decide) dX12_readWalker_77 rfl ?_
    refine s_Aldn 0 rfl 79 dX12_readWalker_78 rfl ?_
    exact s_pick (sBX12_readWalker_79)
  · refine s_Aldn 0 rfl 38 dX12_readWalker_37 rfl ?_
    refine s_get 12 9 41 clX12 (by decide) tw_1297 dX12_readWalker_38 rfl ?_
    refine s_iconst 42 5 (by decide) dX12_readWalker_41 rfl ?_
    refine s_cmpeq 67 45 dX12_readWalker_42 (by decide) rfl ?_ ?_
    · refine s_inc 1 1 70 (by decide) (by decide) dX12_readWalker_67 rfl ?_
      refine s_goto 26 dX12_readWalker_70 (by decide) ?_
      exact s_pick hk26
    · refine s_Aldn 0 rfl 46 dX12_readWalker_45 rfl ?_
      refine s_get 12 4 49 clX12 (by decide) tw_1292 dX12_readWalker_46 rfl ?_
      refine s_getN 11 25 52 clX11 (by decide) nw_67 dX12_readWalker_49 rfl ?_
      refine s_Ildn 1 rfl 53 dX12_readWalker_52 rfl ?_
      refine s_Ja 54 dX12_readWalker_53 rfl ?_
      refine s_Aldn 0 rfl 55 dX12_readWalker_54 rfl ?_
      refine s_get 12 17 58 clX12 (by decide) tw_1305 dX12_readWalker_55 rfl ?_
      refine s_lcmp 59 dX12_readWalker_58 rfl ?_
      refine s_ifne 67 62 dX12_readWalker_59 (by decide) rfl ?_ ?_
      · refine s_inc 1 1 70 (by decide) (by decide) dX12_readWalker_67 rfl ?_
        refine s_goto 26 dX12_readWalker_70 (by decide) ?_
        exact s_pick hk26
      · refine s_Aldn 0 rfl 63 dX12_readWalker_62 rfl ?_
        refine s_iconst 64 3 (by decide) dX12_readWalker_63 rfl ?_
        exact s_pick (sBX12_readWalker_64 hk26)
def BX12_readWalker_21 : KT HP :=
  oCal 2 (some 12) EX12_flaw fVH (oConst (.int 0) (oIst 1 (oPick [0, 1] (lp (BX12_readWalker_26) FU))))
set_option maxRecDepth 20000 in
theorem sBX12_readWalker_21 : Snd XX12_readWalker fVH 21 (BX12_readWalker_21) (0) (0) := by
  unfold BX12_readWalker_21
  refine s_cal0 24 (run_V (X := XX12_readWalker) rfl clX12 yoX12_flaw rfl tw_1568 tw_1570 tw_p57 (by decide) dX12_readWalker_21) cmX12_flaw (fun _ _ _ => rfl) rfl ?_
  refine s_iconst 25 0 (by decide) dX12_readWalker_24 rfl ?_
  refine s_Istn 1 rfl 26 (by decide) dX12_readWalker_25 rfl ?_
  exact s_pick (s_lp (fun k hk => sBX12_readWalker_26  hk) FU)
def BX12_readWalker_13 : KT HP :=
  oCal 1 (some 12) EX12_isName fZ (oIfne (oConst (.int 0) (oIst 1 (oPick [0, 1] (lp (BX12_readWalker_26) FU)))) (oAld 0 (oConst (.int 1) (oPick [0] (BX12_readWalker_21)))))
set_option maxRecDepth 20000 in
theorem sBX12_readWalker_13 : Snd XX12_readWalker fVH 13 (BX12_readWalker_13) (0) (0) := by
  unfold BX12_readWalker_13
  refine s_cal0 16 (run_V (X := XX12_readWalker) rfl clX12 yoX12_isName rfl tw_1651 tw_1653 tw_p73 (by decide) dX12_readWalker_13) cmX12_isName (fun _ _ _ => rfl) rfl ?_
  refine s_ifne 24 19 dX12_readWalker_16 (by decide) rfl ?_ ?_
  · refine s_iconst 25 0 (by decide) dX12_readWalker_24 rfl ?_
    refine s_Istn 1 rfl 26 (by decide) dX12_readWalker_25 rfl ?_
    exact s_pick (s_lp (fun k hk => sBX12_readWalker_26  hk) FU)
  · refine s_Aldn 0 rfl 20 dX12_readWalker_19 rfl ?_
    refine s_iconst 21 1 (by decide) dX12_readWalker_20 rfl ?_
    exact s_pick (sBX12_readWalker_21)
def BX12_readWalker_9 : KT HP :=
  oCal 3 (some 12) EX12_begins fVH (oAld 0 (oPick [0] (BX12_readWalker_13)))
set_option maxRecDepth 20000 in
theorem sBX12_readWalker_9 : Snd XX12_readWalker fVH 9 (BX12_readWalker_9) (0) (0) := by
  unfold BX12_readWalker_9
  refine s_cal0 12 (run_V (X := XX12_readWalker) rfl clX12 yoX12_begins rfl tw_1601 tw_1603 tw_p63 (by decide) dX12_readWalker_9) cmX12_begins (fun _ _ _ => rfl) rfl ?_
  refine s_Aldn 0 rfl 13 dX12_readWalker_12 rfl ?_
  exact s_pick (sBX12_readWalker_13)
def BX12_readWalker_0 : KT HP :=
  oAld 0 (oAld 0 (oGet 12 4 (oGet 11 10 (oConst (.int 5) (oPick [0] (BX12_readWalker_9))))))
set_option maxRecDepth 20000 in
theorem sBX12_readWalker_0 : Snd XX12_readWalker fVH 0 (BX12_readWalker_0) (0) (0) := by
  unfold BX12_readWalker_0
  refine s_Aldn 0 rfl 1 dX12_readWalker_0 rfl ?_
  refine s_Aldn 0 rfl 2 dX12_readWalker_1 rfl ?_
  refine s_get 12 4 5 clX12 (by decide) tw_1292 dX12_readWalker_2 rfl ?_
  refine s_getN 11 10 8 clX11 (by decide) nw_52 dX12_readWalker_5 rfl ?_
  refine s_iconst 9 5 (by decide) dX12_readWalker_8 rfl ?_
  exact s_pick (sBX12_readWalker_9)
def EX12_readWalker : List Value → HP → Option HP := en 7 BX12_readWalker_0
theorem cmX12_readWalker : CM XX12_readWalker EX12_readWalker fVH 0 0 := CM.of rfl (by decide) rfl rfl sBX12_readWalker_0
theorem yoX12_readWalker : YO XX12_readWalker 0 0 0 := ⟨tw_1650, rfl, tw_12, (by decide +kernel), rfl, rfl⟩
abbrev XX12_readLine : MX := (yX12_readLine, cX12_readLine, 1, none, Cond.code yX12_readLine cX12_readLine 1 none :: WS, { frames := 9, cells := 0, slots := 0, locals := 199 })
def BX12_readLine_133 : KT HP :=
  oVretH
set_option maxRecDepth 20000 in
theorem sBX12_readLine_133 : Snd XX12_readLine fVH 133 (BX12_readLine_133) (0) (0) := by
  unfold BX12_readLine_133
  exact s_vretH rfl dX12_readLine_133
def BX12_readLine_130 : KT HP :=
  oCal 2 (some 12) EX12_flaw fVH (oPick [] (BX12_readLine_133))
set_option maxRecDepth 20000 in
theorem sBX12_readLine_130 : Snd XX12_readLine fVH 130 (BX12_readLine_130) (0) (0) := by
  unfold BX12_readLine_130
  refine s_cal0 133 (run_V (X := XX12_readLine) rfl clX12 yoX12_flaw rfl tw_1568 tw_1570 tw_p57 (by decide) dX12_readLine_130) cmX12_flaw (fun _ _ _ => rfl) rfl ?_
  exact s_pick (sBX12_readLine_133)
def BX12_readLine_122 : KT HP :=
  oCal 1 (some 12) EX12_readWalker fVH (oPick [] (BX12_readLine_133))
set_option maxRecDepth 20000 in
theorem sBX12_readLine_122 : Snd XX12_readLine fVH 122 (BX12_readLine_122) (0) (0) := by
  unfold BX12_readLine_122
  refine s_cal0 125 (run_V (X := XX12_readLine) rfl clX12 yoX12_readWalker rfl tw_1647 tw_1649 tw_p72 (by decide) dX12_readLine_122) cmX12_readWalker (fun _ _ _ => rfl) rfl ?_
  refine s_goto 133 dX12_readLine_125 (by decide) ?_
  exact s_pick (sBX12_readLine_133)
def BX12_readLine_115 : KT HP :=
  oCal 2 (some 12) EX12_isWord fZ (oIfeq (oAld 0 (oConst (.int 1) (oPick [] (BX12_readLine_130)))) (oAld 0 (oPick [] (BX12_readLine_122))))
set_option maxRecDepth 20000 in
theorem sBX12_readLine_115 : Snd XX12_readLine fVH 115 (BX12_readLine_115) (0) (0) := by
  unfold BX12_readLine_115
  refine s_cal0 118 (run_V (X := XX12_readLine) rfl clX12 yoX12_isWord rfl tw_1555 tw_1557 tw_p55 (by decide) dX12_readLine_115) cmX12_isWord (fun _ _ _ => rfl) rfl ?_
  refine s_ifeq 128 121 dX12_readLine_118 (by decide) rfl ?_ ?_
  · refine s_Aldn 0 rfl 129 dX12_readLine_128 rfl ?_
    refine s_iconst 130 1 (by decide) dX12_readLine_129 rfl ?_
    exact s_pick (sBX12_readLine_130)
  · refine s_Aldn 0 rfl 122 dX12_readLine_121 rfl ?_
    exact s_pick (sBX12_readLine_122)
def BX12_readLine_106 : KT HP :=
  oCal 1 (some 12) EX12_readHeard fVH (oPick [] (BX12_readLine_133))
set_option maxRecDepth 20000 in
theorem sBX12_readLine_106 : Snd XX12_readLine fVH 106 (BX12_readLine_106) (0) (0) := by
  unfold BX12_readLine_106
  refine s_cal0 109 (run_V (X := XX12_readLine) rfl clX12 yoX12_readHeard rfl tw_1641 tw_1643 tw_p71 (by decide) dX12_readLine_106) cmX12_readHeard (fun _ _ _ => rfl) rfl ?_
  refine s_goto 133 dX12_readLine_109 (by decide) ?_
  exact s_pick (sBX12_readLine_133)
def BX12_readLine_99 : KT HP :=
  oCal 2 (some 12) EX12_isWord fZ (oIfeq (oAld 0 (oConst (.ref 2026) (oPick [0] (BX12_readLine_115)))) (oAld 0 (oPick [] (BX12_readLine_106))))
set_option maxRecDepth 20000 in
theorem sBX12_readLine_99 : Snd XX12_readLine fVH 99 (BX12_readLine_99) (0) (0) := by
  unfold BX12_readLine_99
  refine s_cal0 102 (run_V (X := XX12_readLine) rfl clX12 yoX12_isWord rfl tw_1555 tw_1557 tw_p55 (by decide) dX12_readLine_99) cmX12_isWord (fun _ _ _ => rfl) rfl ?_
  refine s_ifeq 112 105 dX12_readLine_102 (by decide) rfl ?_ ?_
  · refine s_Aldn 0 rfl 113 dX12_readLine_112 rfl ?_
    refine s_ldcS 115 26 2026 rfl sr_MownMazeModel_220 dX12_readLine_113 rfl ?_
    exact s_pick (sBX12_readLine_115)
  · refine s_Aldn 0 rfl 106 dX12_readLine_105 rfl ?_
    exact s_pick (sBX12_readLine_106)
def BX12_readLine_90 : KT HP :=
  oCal 1 (some 12) EX12_readNoise fVH (oPick [] (BX12_readLine_133))
set_option maxRecDepth 20000 in
theorem sBX12_readLine_90 : Snd XX12_readLine fVH 90 (BX12_readLine_90) (0) (0) := by
  unfold BX12_readLine_90
  refine s_cal0 93 (run_V (X := XX12_readLine) rfl clX12 yoX12_readNoise rfl tw_1632 tw_1634 tw_p69 (by decide) dX12_readLine_90) cmX12_readNoise (fun _ _ _ => rfl) rfl ?_
  refine s_goto 133 dX12_readLine_93 (by decide) ?_
  exact s_pick (sBX12_readLine_133)
def BX12_readLine_83 : KT HP :=
  oCal 2 (some 12) EX12_isWord fZ (oIfeq (oAld 0 (oConst (.ref 2024) (oPick [0] (BX12_readLine_99)))) (oAld 0 (oPick [] (BX12_readLine_90))))
set_option maxRecDepth 20000 in
theorem sBX12_readLine_83 : Snd XX12_readLine fVH 83 (BX12_readLine_83) (0) (0) := by
  unfold BX12_readLine_83
  refine s_cal0 86 (run_V (X := XX12_readLine) rfl clX12 yoX12_isWord rfl tw_1555 tw_1557 tw_p55 (by decide) dX12_readLine_83) cmX12_isWord (fun _ _ _ => rfl) rfl ?_
  refine s_ifeq 96 89 dX12_readLine_86 (by decide) rfl ?_ ?_
  · refine s_Aldn 0 rfl 97 dX12_readLine_96 rfl ?_
    refine s_ldcS 99 24 2024 rfl sr_MownMazeModel_215 dX12_readLine_97 rfl ?_
    exact s_pick (sBX12_readLine_99)
  · refine s_Aldn 0 rfl 90 dX12_readLine_89 rfl ?_
    exact s_pick (sBX12_readLine_90)
def BX12_readLine_74 : KT HP :=
  oCal 1 (some 12) EX12_readGate fVH (oPick [] (BX12_readLine_133))
set_option maxRecDepth 20000 in
theorem sBX12_readLine_74 : Snd XX12_readLine fVH 74 (BX12_readLine_74) (0) (0) := by
  unfold BX12_readLine_74
  refine s_cal0 77 (run_V (X := XX12_readLine) rfl clX12 yoX12_readGate rfl tw_1620 tw_1622 tw_p67 (by decide) dX12_readLine_74) cmX12_readGate (fun _ _ _ => rfl) rfl ?_
  refine s_goto 133 dX12_readLine_77 (by decide) ?_
  exact s_pick (sBX12_readLine_133)
def BX12_readLine_67 : KT HP :=
  oCal 2 (some 12) EX12_isWord fZ (oIfeq (oAld 0 (oConst (.ref 2023) (oPick [0] (BX12_readLine_83)))) (oAld 0 (oPick [] (BX12_readLine_74))))
set_option maxRecDepth 20000 in
theorem sBX12_readLine_67 : Snd XX12_readLine fVH 67 (BX12_readLine_67) (0) (0) := by
  unfold BX12_readLine_67
  refine s_cal0 70 (run_V (X := XX12_readLine) rfl clX12 yoX12_isWord rfl tw_1555 tw_1557 tw_p55 (by decide) dX12_readLine_67) cmX12_isWord (fun _ _ _ => rfl) rfl ?_
  refine s_ifeq 80 73 dX12_readLine_70 (by decide) rfl ?_ ?_
  · refine s_Aldn 0 rfl 81 dX12_readLine_80 rfl ?_
    refine s_ldcS 83 23 2023 rfl sr_MownMazeModel_210 dX12_readLine_81 rfl ?_
    exact s_pick (sBX12_readLine_83)
  · refine s_Aldn 0 rfl 74 dX12_readLine_73 rfl ?_
    exact s_pick (sBX12_readLine_74)
def BX12_readLine_58 : KT HP :=
  oCal 1 (some 12) EX12_readMoon fVH (oPick [] (BX12_readLine_133))
set_option maxRecDepth 20000 in
theorem sBX12_readLine_58 : Snd XX12_readLine fVH 58 (BX12_readLine_58) (0) (0) := by
  unfold BX12_readLine_58
  refine s_cal0 61 (run_V (X := XX12_readLine) rfl clX12 yoX12_readMoon rfl tw_1615 tw_1617 tw_p66 (by decide) dX12_readLine_58) cmX12_readMoon (fun _ _ _ => rfl) rfl ?_
  refine s_goto 133 dX12_readLine_61 (by decide) ?_
  exact s_pick (sBX12_readLine_133)
def BX12_readLine_51 : KT HP :=
  oCal 2 (some 12) EX12_isWord fZ (oIfeq (oAld 0 (oConst (.ref 2022) (oPick [0] (BX12_readLine_67)))) (oAld 0 (oPick [] (BX12_readLine_58))))
set_option maxRecDepth 20000 in
theorem sBX12_readLine_51 : Snd XX12_readLine fVH 51 (BX12_readLine_51) (0) (0) := by
  unfold BX12_readLine_51
  refine s_cal0 54 (run_V (X := XX12_readLine) rfl clX12 yoX12_isWord rfl tw_1555 tw_1557 tw_p55 (by decide) dX12_readLine_51) cmX12_isWord (fun _ _ _ => rfl) rfl ?_
  refine s_ifeq 64 57 dX12_readLine_54 (by decide) rfl ?_ ?_
  · refine s_Aldn 0 rfl 65 dX12_readLine_64 rfl ?_
    refine s_ldcS 67 22 2022 rfl sr_MownMazeModel_205 dX12_readLine_65 rfl ?_
    exact s_pick (sBX12_readLine_67)
  · refine s_Aldn 0 rfl 58 dX12_readLine_57 rfl ?_
    exact s_pick (sBX12_readLine_58)
def BX12_readLine_42 : KT HP :=
  oCal 1 (some 12) EX12_readWant fVH (oPick [] (BX12_readLine_133))
set_option maxRecDepth 20000 in
theorem sBX12_readLine_42 : Snd XX12_readLine fVH 42 (BX12_readLine_42) (0) (0) := by
  unfold BX12_readLine_42
  refine s_cal0 45 (run_V (X := XX12_readLine) rfl clX12 yoX12_readWant rfl tw_1610 tw_1612 tw_p65 (by decide) dX12_readLine_42) cmX12_readWant (fun _ _ _ => rfl) rfl ?_
  refine s_goto 133 dX12_readLine_45 (by decide) ?_
  exact s_pick (sBX12_readLine_133)
def BX12_readLine_35 : KT HP :=
  oCal 2 (some 12) EX12_isWord fZ (oIfeq (oAld 0 (oConst (.ref 2021) (oPick [0] (BX12_readLine_51)))) (oAld 0 (oPick [] (BX12_readLine_42))))
set_option maxRecDepth 20000 in
theorem sBX12_readLine_35 : Snd XX12_readLine fVH 35 (BX12_readLine_35) (0) (0) := by
  unfold BX12_readLine_35
  refine s_cal0 38 (run_V (X := XX12_readLine) rfl clX12 yoX12_isWord rfl tw_1555 tw_1557 tw_p55 (by decide) dX12_readLine_35) cmX12_isWord (fun _ _ _ => rfl) rfl ?_
  refine s_ifeq 48 41 dX12_readLine_38 (by decide) rfl ?_ ?_
  · refine s_Aldn 0 rfl 49 dX12_readLine_48 rfl ?_
    refine s_ldcS 51 21 2021 rfl sr_MownMazeModel_200 dX12_readLine_49 rfl ?_
    exact s_pick (sBX12_readLine_51)
  · refine s_Aldn 0 rfl 42 dX12_readLine_41 rfl ?_
    exact s_pick (sBX12_readLine_42)
def BX12_readLine_26 : KT HP :=
  oCal 1 (some 12) EX12_readRow fVH (oPick [] (BX12_readLine_133))
set_option maxRecDepth 20000 in
theorem sBX12_readLine_26 : Snd XX12_readLine fVH 26 (BX12_readLine_26) (0) (0) := by
  unfold BX12_readLine_26
  refine s_cal0 29 (run_V (X := XX12_readLine) rfl clX12 yoX12_readRow rfl tw_1597 tw_1599 tw_p62 (by decide) dX12_readLine_26) cmX12_readRow (fun _ _ _ => rfl) rfl ?_
  refine s_goto 133 dX12_readLine_29 (by decide) ?_
  exact s_pick (sBX12_readLine_133)
def BX12_readLine_19 : KT HP :=
  oCal 2 (some 12) EX12_isWord fZ (oIfeq (oAld 0 (oConst (.ref 2020) (oPick [0] (BX12_readLine_35)))) (oAld 0 (oPick [] (BX12_readLine_26))))
set_option maxRecDepth 20000 in
theorem sBX12_readLine_19 : Snd XX12_readLine fVH 19 (BX12_readLine_19) (0) (0) := by
  unfold BX12_readLine_19
  refine s_cal0 22 (run_V (X := XX12_readLine) rfl clX12 yoX12_isWord rfl tw_1555 tw_1557 tw_p55 (by decide) dX12_readLine_19) cmX12_isWord (fun _ _ _ => rfl) rfl ?_
  refine s_ifeq 32 25 dX12_readLine_22 (by decide) rfl ?_ ?_
  · refine s_Aldn 0 rfl 33 dX12_readLine_32 rfl ?_
    refine s_ldcS 35 20 2020 rfl sr_MownMazeModel_195 dX12_readLine_33 rfl ?_
    exact s_pick (sBX12_readLine_35)
  · refine s_Aldn 0 rfl 26 dX12_readLine_25 rfl ?_
    exact s_pick (sBX12_readLine_26)
def BX12_readLine_10 : KT HP :=
  oCal 1 (some 12) EX12_readMeadow fVH (oPick [] (BX12_readLine_133))
set_option maxRecDepth 20000 in
theorem sBX12_readLine_10 : Snd XX12_readLine fVH 10 (BX12_readLine_10) (0) (0) := by
  unfold BX12_readLine_10
  refine s_cal0 13 (run_V (X := XX12_readLine) rfl clX12 yoX12_readMeadow rfl tw_1564 tw_1566 tw_p56 (by decide) dX12_readLine_10) cmX12_readMeadow (fun _ _ _ => rfl) rfl ?_
  refine s_goto 133 dX12_readLine_13 (by decide) ?_
  exact s_pick (sBX12_readLine_133)
def BX12_readLine_3 : KT HP :=
  oCal 2 (some 12) EX12_isWord fZ (oIfeq (oAld 0 (oConst (.ref 2019) (oPick [0] (BX12_readLine_19)))) (oAld 0 (oPick [] (BX12_readLine_10))))
set_option maxRecDepth 20000 in
theorem sBX12_readLine_3 : Snd XX12_readLine fVH 3 (BX12_readLine_3) (0) (0) := by
  unfold BX12_readLine_3
  refine s_cal0 6 (run_V (X := XX12_readLine) rfl clX12 yoX12_isWord rfl tw_1555 tw_1557 tw_p55 (by decide) dX12_readLine_3) cmX12_isWord (fun _ _ _ => rfl) rfl ?_
  refine s_ifeq 16 9 dX12_readLine_6 (by decide) rfl ?_ ?_
  · refine s_Aldn 0 rfl 17 dX12_readLine_16 rfl ?_
    refine s_ldcS 19 19 2019 rfl sr_MownMazeModel_191 dX12_readLine_17 rfl ?_
    exact s_pick (sBX12_readLine_19)
  · refine s_Aldn 0 rfl 10 dX12_readLine_9 rfl ?_
    exact s_pick (sBX12_readLine_10)
def BX12_readLine_0 : KT HP :=
  oAld 0 (oConst (.ref 2013) (oPick [0] (BX12_readLine_3)))
set_option maxRecDepth 20000 in
theorem sBX12_readLine_0 : Snd XX12_readLine fVH 0 (BX12_readLine_0) (0) (0) := by
  unfold BX12_readLine_0
  refine s_Aldn 0 rfl 1 dX12_readLine_0 rfl ?_
  refine s_ldcS 3 13 2013 rfl sr_MownMazeModel_186 dX12_readLine_1 rfl ?_
  exact s_pick (sBX12_readLine_3)
def EX12_readLine : List Value → HP → Option HP := en 1 BX12_readLine_0
theorem cmX12_readLine : CM XX12_readLine EX12_readLine fVH 0 0 := CM.of rfl (by decide) rfl rfl sBX12_readLine_0
theorem yoX12_readLine : YO XX12_readLine 0 0 0 := ⟨tw_1553, rfl, tw_12, (by decide +kernel), rfl, rfl⟩
abbrev XX12_readAll : MX := (yX12_readAll, cX12_readAll, 2, none, Cond.code yX12_readAll cX12_readAll 2 none :: WS, { frames := 10, cells := 0, slots := 0, locals := 219 })
def BX12_readAll_63 : KT HP :=
  oCal 2 (some 12) EX12_flaw fVH (oVretH)
set_option maxRecDepth 20000 in
theorem sBX12_readAll_63 : Snd XX12_readAll fVH 63 (BX12_readAll_63) (0) (0) := by
  unfold BX12_readAll_63
  refine s_cal0 66 (run_V (X := XX12_readAll) rfl clX12 yoX12_flaw rfl tw_1568 tw_1570 tw_p57 (by decide) dX12_readAll_63) cmX12_flaw (fun _ _ _ => rfl) rfl ?_
  exact s_vretH rfl dX12_readAll_66
def BX12_readAll_33 : KT HP :=
  oAld 0 (oGet 12 4 (oGet 11 0 (oIfeq (oAld 0 (oConst (.int 6) (oPick [] (BX12_readAll_63)))) (oAld 0 (oGet 12 4 (oGet 11 5 (oAld 0 (oGet 12 4 (oGet 11 1 (oCmpge (oVretH) (oAld 0 (oConst (.int 6) (oPick [] (BX12_readAll_63))))))))))))))
set_option maxRecDepth 20000 in
theorem sBX12_readAll_33 : Snd XX12_readAll fVH 33 (BX12_readAll_33) (0) (0) := by
  unfold BX12_readAll_33
  refine s_Aldn 0 rfl 34 dX12_readAll_33 rfl ?_
  refine s_get 12 4 37 clX12 (by decide) tw_1292 dX12_readAll_34 rfl ?_
  refine s_getN 11 0 40 clX11 (by decide) nw_42 dX12_readAll_37 rfl ?_
  refine s_ifeq 60 43 dX12_readAll_40 (by decide) rfl ?_ ?_
  · refine s_Aldn 0 rfl 61 dX12_readAll_60 rfl ?_
    refine s_bipush 63 6 (by decide) dX12_readAll_61 rfl ?_
    exact s_pick (sBX12_readAll_63)
  · refine s_Aldn 0 rfl 44 dX12_readAll_43 rfl ?_
    refine s_get 12 4 47 clX12 (by decide) tw_1292 dX12_readAll_44 rfl ?_
    refine s_getN 11 5 50 clX11 (by decide) nw_47 dX12_readAll_47 rfl ?_
    refine s_Aldn 0 rfl 51 dX12_readAll_50 rfl ?_
    refine s_get 12 4 54 clX12 (by decide) tw_1292 dX12_readAll_51 rfl ?_
    refine s_getN 11 1 57 clX11 (by decide) nw_43 dX12_readAll_54 rfl ?_
    refine s_cmpge 66 60 dX12_readAll_57 (by decide) rfl ?_ ?_
    · exact s_vretH rfl dX12_readAll_66
    · refine s_Aldn 0 rfl 61 dX12_readAll_60 rfl ?_
      refine s_bipush 63 6 (by decide) dX12_readAll_61 rfl ?_
      exact s_pick (sBX12_readAll_63)
def BX12_readAll_30 : KT HP :=
  oCal 2 (some 12) EX12_flaw fVH (oPick [0] (BX12_readAll_33))
set_option maxRecDepth 20000 in
theorem sBX12_readAll_30 : Snd XX12_readAll fVH 30 (BX12_readAll_30) (0) (0) := by
  unfold BX12_readAll_30
  refine s_cal0 33 (run_V (X := XX12_readAll) rfl clX12 yoX12_flaw rfl tw_1568 tw_1570 tw_p57 (by decide) dX12_readAll_30) cmX12_flaw (fun _ _ _ => rfl) rfl ?_
  exact s_pick (sBX12_readAll_33)
def BX12_readAll_13 (k2 : KT HP) : KT HP :=
  oCal 2 (some 12) EX12_eatsSign fZH (oIst 1 (oPick [0, 1] k2))
set_option maxRecDepth 20000 in
theorem sBX12_readAll_13 {k2 : KT HP} (hk2 : Snd XX12_readAll fVH 2 k2 0 0) : Snd XX12_readAll fVH 13 (BX12_readAll_13 k2) (0) (0) := by
  unfold BX12_readAll_13
  refine s_cal0 16 (run_V (X := XX12_readAll) rfl clX12 yoX12_eatsSign rfl tw_1671 tw_1673 tw_p75 (by decide) dX12_readAll_13) cmX12_eatsSign (fun _ _ _ => rfl) rfl ?_
  refine s_Istn 1 rfl 17 (by decide) dX12_readAll_16 rfl ?_
  refine s_goto 2 dX12_readAll_17 (by decide) ?_
  exact s_pick hk2
def BX12_readAll_7 (k2 : KT HP) : KT HP :=
  oCal 1 (some 12) EX12_readLine fVH (oAld 0 (oConst (.int 59) (oPick [0] (BX12_readAll_13 k2))))
set_option maxRecDepth 20000 in
theorem sBX12_readAll_7 {k2 : KT HP} (hk2 : Snd XX12_readAll fVH 2 k2 0 0) : Snd XX12_readAll fVH 7 (BX12_readAll_7 k2) (0) (0) := by
  unfold BX12_readAll_7
  refine s_cal0 10 (run_V (X := XX12_readAll) rfl clX12 yoX12_readLine rfl tw_1550 tw_1552 tw_p54 (by decide) dX12_readAll_7) cmX12_readLine (fun _ _ _ => rfl) rfl ?_
  refine s_Aldn 0 rfl 11 dX12_readAll_10 rfl ?_
  refine s_bipush 13 59 (by decide) dX12_readAll_11 rfl ?_
  exact s_pick (sBX12_readAll_13 hk2)
def BX12_readAll_2 (k2 : KT HP) : KT HP :=
  oIld 1 (oIfeq (oAld 0 (oGet 12 9 (oConst (.int 1) (oCmpeq (oPick [0] (BX12_readAll_33)) (oAld 0 (oConst (.int 1) (oPick [0] (BX12_readAll_30)))))))) (oAld 0 (oPick [0] (BX12_readAll_7 k2))))
set_option maxRecDepth 20000 in
theorem sBX12_readAll_2 {k2 : KT HP} (hk2 : Snd XX12_readAll fVH 2 k2 0 0) : Snd XX12_readAll fVH 2 (BX12_readAll_2 k2) (0) (0) := by
  unfold BX12_readAll_2
  refine s_Ildn 1 rfl 3 dX12_readAll_2 rfl ?_
  refine s_ifeq 20 6 dX12_readAll_3 (by decide) rfl ?_ ?_
  · refine s_Aldn 0 rfl 21 dX12_readAll_20 rfl ?_
    refine s_get 12 9 24 clX12 (by decide) tw_1297 dX12_readAll_21 rfl ?_
    refine s_iconst 25 1 (by decide) dX12_readAll_24 rfl ?_
    refine s_cmpeq 33 28 dX12_readAll_25 (by decide) rfl ?_ ?_
    · exact s_pick (sBX12_readAll_33)
    · refine s_Aldn 0 rfl 29 dX12_readAll_28 rfl ?_
      refine s_iconst 30 1 (by decide) dX12_readAll_29 rfl ?_
      exact s_pick (sBX12_readAll_30)
  · refine s_Aldn 0 rfl 7 dX12_readAll_6 rfl ?_
    exact s_pick (sBX12_readAll_7 hk2)
def BX12_readAll_0 : KT HP :=
  oConst (.int 1) (oIst 1 (oPick [0, 1] (lp (BX12_readAll_2) FU)))
set_option maxRecDepth 20000 in
theorem sBX12_readAll_0 : Snd XX12_readAll fVH 0 (BX12_readAll_0) (0) (0) := by
  unfold BX12_readAll_0
  refine s_iconst 1 1 (by decide) dX12_readAll_0 rfl ?_
  refine s_Istn 1 rfl 2 (by decide) dX12_readAll_1 rfl ?_
  exact s_pick (s_lp (fun k hk => sBX12_readAll_2  hk) FU)
def EX12_readAll : List Value → HP → Option HP := en 2 BX12_readAll_0
theorem cmX12_readAll : CM XX12_readAll EX12_readAll fVH 0 0 := CM.of rfl (by decide) rfl rfl sBX12_readAll_0
theorem yoX12_readAll : YO XX12_readAll 0 0 0 := ⟨tw_1549, rfl, tw_12, (by decide +kernel), rfl, rfl⟩
abbrev XX12_feed : MX := (yX12_feed, cX12_feed, 8, (Option.some .int), Cond.code yX12_feed cX12_feed 8 (Option.some .int) :: WS, { frames := 0, cells := 0, slots := 0, locals := 0 })
def BX12_feed_76 (k23 : KT (Int32 × HP)) : KT (Int32 × HP) :=
  oIst 7 (oAld 0 (oGet 12 5 (oAld 0 (oGet 12 6 (oIld 7 (oConst (.int 24) (oConst (.int 8) (oIld 6 (oConst (.int 4) (oirem (oimul (oisub (oishr (oi2b (oBw (oAld 0 (odup (oGet 12 6 (oConst (.int 1) (oiadd (oPut 12 6 .int (oInc 6 1 (oPick [0, 1, 2, 3, 4, 5, 6] k23)))))))))))))))))))))))
set_option maxRecDepth 20000 in
theorem sBX12_feed_76 {k23 : KT (Int32 × HP)} (hk23 : Snd XX12_feed fIH 23 k23 0 0) : Snd XX12_feed fIH 76 (BX12_feed_76 k23) (0) (0) := by
  unfold BX12_feed_76
  refine s_Ist 7 78 (by decide) dX12_feed_76 rfl ?_
  refine s_Aldn 0 rfl 79 dX12_feed_78 rfl ?_
  refine s_get 12 5 82 clX12 (by decide) tw_1293 dX12_feed_79 rfl ?_
  refine s_Aldn 0 rfl 83 dX12_feed_82 rfl ?_
  refine s_get 12 6 86 clX12 (by decide) tw_1294 dX12_feed_83 rfl ?_
  refine s_Ild 7 88 dX12_feed_86 rfl ?_
  refine s_bipush 90 24 (by decide) dX12_feed_88 rfl ?_
  refine s_bipush 92 8 (by decide) dX12_feed_90 rfl ?_
  refine s_Ild 6 94 dX12_feed_92 rfl ?_
  refine s_iconst 95 4 (by decide) dX12_feed_94 rfl ?_
  refine s_irem 96 dX12_feed_95 rfl ?_
  refine s_imul 97 dX12_feed_96 rfl ?_
  refine s_isub 98 dX12_feed_97 rfl ?_
  refine s_ishr 99 dX12_feed_98 rfl ?_
  refine s_i2b 100 dX12_feed_99 rfl ?_
  refine s_Bw 101 pIH dX12_feed_100 rfl ?_
  refine s_Aldn 0 rfl 102 dX12_feed_101 rfl ?_
  refine s_dup 103 dX12_feed_102 rfl ?_
  refine s_get 12 6 106 clX12 (by decide) tw_1294 dX12_feed_103 rfl ?_
  refine s_iconst 107 1 (by decide) dX12_feed_106 rfl ?_
  refine s_iadd 108 dX12_feed_107 rfl ?_
  refine s_put 12 6 111 clX12 (by decide) rfl rfl pIH tw_1294 dX12_feed_108 rfl ?_
  refine s_inc 6 1 114 (by decide) (by decide) dX12_feed_111 rfl ?_
  refine s_goto 23 dX12_feed_114 (by decide) ?_
  exact s_pick hk23
def BX12_feed_23 (k23 : KT (Int32 × HP)) : KT (Int32 × HP) :=
  oIld 6 (oConst (.int 20) (oCmpge (oAld 0 (oGet 12 6 (oIretH))) (oIld 6 (oConst (.int 4) (oCmpge (oIld 6 (oConst (.int 8) (oCmpge (oIld 6 (oConst (.int 12) (oCmpge (oIld 6 (oConst (.int 16) (oCmpge (oIld 5 (oPick [0, 1, 2, 3, 4, 5, 6] (BX12_feed_76 k23))) (oIld 4 (oPick [0, 1, 2, 3, 4, 5, 6] (BX12_feed_76 k23)))))) (oIld 3 (oPick [0, 1, 2, 3, 4, 5, 6] (BX12_feed_76 k23)))))) (oIld 2 (oPick [0, 1, 2, 3, 4, 5, 6] (BX12_feed_76 k23)))))) (oIld 1 (oPick [0, 1, 2, 3, 4, 5, 6] (BX12_feed_76 k23))))))))
set_option maxRecDepth 20000 in
theorem sBX12_feed_23 {k23 : KT (Int32 × HP)} (hk23 : Snd XX12_feed fIH 23 k23 0 0) : Snd XX12_feed fIH 23 (BX12_feed_23 k23) (0) (0) := by
  unfold BX12_feed_23
  refine s_Ild 6 25 dX12_feed_23 rfl ?_
  refine s_bipush 27 20 (by decide) dX12_feed_25 rfl ?_
  refine s_cmpge 117 30 dX12_feed_27 (by decide) rfl ?_ ?_
  · refine s_Aldn 0 rfl 118 dX12_feed_117 rfl ?_
    refine s_get 12 6 121 clX12 (by decide) tw_1294 dX12_feed_118 rfl ?_
    exact s_iretH rfl dX12_feed_121
  · refine s_Ild 6 32 dX12_feed_30 rfl ?_
    refine s_iconst 33 4 (by decide) dX12_feed_32 rfl ?_
    refine s_cmpge 40 36 dX12_feed_33 (by decide) rfl ?_ ?_
    · refine s_Ild 6 42 dX12_feed_40 rfl ?_
      refine s_bipush 44 8 (by decide) dX12_feed_42 rfl ?_
      refine s_cmpge 51 47 dX12_feed_44 (by decide) rfl ?_ ?_
      · refine s_Ild 6 53 dX12_feed_51 rfl ?_
        refine s_bipush 55 12 (by decide) dX12_feed_53 rfl ?_
        refine s_cmpge 62 58 dX12_feed_55 (by decide) rfl ?_ ?_
        · refine s_Ild 6 64 dX12_feed_62 rfl ?_
          refine s_bipush 66 16 (by decide) dX12_feed_64 rfl ?_
          refine s_cmpge 74 69 dX12_feed_66 (by decide) rfl ?_ ?_
          · refine s_Ild 5 76 dX12_feed_74 rfl ?_
            exact s_pick (sBX12_feed_76 hk23)
          · refine s_Ild 4 71 dX12_feed_69 rfl ?_
            refine s_goto 76 dX12_feed_71 (by decide) ?_
            exact s_pick (sBX12_feed_76 hk23)
        · refine s_Ildn 3 rfl 59 dX12_feed_58 rfl ?_
          refine s_goto 76 dX12_feed_59 (by decide) ?_
          exact s_pick (sBX12_feed_76 hk23)
      · refine s_Ildn 2 rfl 48 dX12_feed_47 rfl ?_
        refine s_goto 76 dX12_feed_48 (by decide) ?_
        exact s_pick (sBX12_feed_76 hk23)
    · refine s_Ildn 1 rfl 37 dX12_feed_36 rfl ?_
      refine s_goto 76 dX12_feed_37 (by decide) ?_
      exact s_pick (sBX12_feed_76 hk23)
def BX12_feed_0 : KT (Int32 × HP) :=
  oAld 0 (oConst (.int 0) (oPut 12 0 .int (oAld 0 (oGet 12 6 (oConst (.int 20) (oiadd (oConst (.int 900) (oCmple (oConst (.int 0) (oIst 6 (oPick [0, 1, 2, 3, 4, 5, 6] (lp (BX12_feed_23) FU)))) (oConst (.int (-1)) (oIretH))))))))))
set_option maxRecDepth 20000 in
theorem sBX12_feed_0 : Snd XX12_feed fIH 0 (BX12_feed_0) (0) (0) := by
  unfold BX12_feed_0
  refine s_Aldn 0 rfl 1 dX12_feed_0 rfl ?_
  refine s_iconst 2 0 (by decide) dX12_feed_1 rfl ?_
  refine s_put 12 0 5 clX12 (by decide) rfl rfl pIH tw_1288 dX12_feed_2 rfl ?_
  refine s_Aldn 0 rfl 6 dX12_feed_5 rfl ?_
  refine s_get 12 6 9 clX12 (by decide) tw_1294 dX12_feed_6 rfl ?_
  refine s_bipush 11 20 (by decide) dX12_feed_9 rfl ?_
  refine s_iadd 12 dX12_feed_11 rfl ?_
  refine s_sipush 15 900 (by decide) dX12_feed_12 rfl ?_
  refine s_cmple 20 18 dX12_feed_15 (by decide) rfl ?_ ?_
  · refine s_iconst 21 0 (by decide) dX12_feed_20 rfl ?_
    refine s_Ist 6 23 (by decide) dX12_feed_21 rfl ?_
    exact s_pick (s_lp (fun k hk => sBX12_feed_23  hk) FU)
  · refine s_iconst 19 (-1) (by decide) dX12_feed_18 rfl ?_
    exact s_iretH rfl dX12_feed_19
def EX12_feed : List Value → HP → Option (Int32 × HP) := en 8 BX12_feed_0
theorem cmX12_feed : CM XX12_feed EX12_feed fIH 0 0 := CM.of rfl (by decide) rfl rfl sBX12_feed_0
theorem yoX12_feed : YO XX12_feed 5 0 0 := ⟨tw_1425, rfl, tw_12, (by decide +kernel), rfl, rfl⟩
abbrev XX12_meadow : MX := (yX12_meadow, cX12_meadow, 2, (Option.some .int), Cond.code yX12_meadow cX12_meadow 2 (Option.some .int) :: WS, { frames := 11, cells := 9, slots := 65, locals := 240 })
def BX12_meadow_128 : KT (Int32 × HP) :=
  oCal 1 none EX12_bits fI (oCal 2 (some 12) EX12_good fIH (oIretH))
set_option maxRecDepth 20000 in
theorem sBX12_meadow_128 : Snd XX12_meadow fIH 128 (BX12_meadow_128) (0) (0) := by
  unfold BX12_meadow_128
  refine s_cal0 131 (run_S (X := XX12_meadow) yoX12_bits tw_1675 tw_1676 (by decide) dX12_meadow_128) cmX12_bits (fun _ _ _ => rfl) rfl ?_
  refine s_cal0 134 (run_V (X := XX12_meadow) rfl clX12 yoX12_good rfl tw_1678 tw_1680 tw_p76 (by decide) dX12_meadow_131) cmX12_good (fun _ _ _ => rfl) rfl ?_
  exact s_iretH rfl dX12_meadow_134
def BX12_meadow_64 : KT (Int32 × HP) :=
  oCal 1 (some 12) EX12_readAll fVH (oAld 0 (oGet 12 14 (oIfle (oAld 0 (oAld 0 (oGet 12 4 (oPut 12 3 (.object "MownMazeModel$Meadow") (oAld 0 (oAld 0 (oGet 12 3 (oGet 11 12 (oPut 12 20 .long (oAld 0 (oConst (.int 0) (oPut 12 21 .int (oAld 0 (oConst (.int 0) (oPut 12 41 .int (oAld 0 (oConst (.int 0) (oPut 12 42 .int (oAld 0 (oAld 0 (oGet 12 20 (oPick [] (BX12_meadow_128))))))))))))))))))))))) (oAld 0 (oConst (.int 4) (oPut 12 1 .int (oAld 0 (oAld 0 (oGet 12 15 (oPut 12 2 .int (oConst (.int (-1)) (oIretH))))))))))))
set_option maxRecDepth 20000 in
theorem sBX12_meadow_64 : Snd XX12_meadow fIH 64 (BX12_meadow_64) (0) (0) := by
  unfold BX12_meadow_64
  refine s_cal0 67 (run_V (X := XX12_meadow) rfl clX12 yoX12_readAll rfl tw_1546 tw_1548 tw_p53 (by decide) dX12_meadow_64) cmX12_readAll (fun _ _ _ => rfl) rfl ?_
  refine s_Aldn 0 rfl 68 dX12_meadow_67 rfl ?_
  refine s_get 12 14 71 clX12 (by decide) tw_1302 dX12_meadow_68 rfl ?_
  refine s_ifle 89 74 dX12_meadow_71 (by decide) rfl ?_ ?_
  · refine s_Aldn 0 rfl 90 dX12_meadow_89 rfl ?_
    refine s_Aldn 0 rfl 91 dX12_meadow_90 rfl ?_
    refine s_get 12 4 94 clX12 (by decide) tw_1292 dX12_meadow_91 rfl ?_
    refine s_put 12 3 97 clX12 (by decide) rfl rfl pIH tw_1291 dX12_meadow_94 rfl ?_
    refine s_Aldn 0 rfl 98 dX12_meadow_97 rfl ?_
    refine s_Aldn 0 rfl 99 dX12_meadow_98 rfl ?_
    refine s_get 12 3 102 clX12 (by decide) tw_1291 dX12_meadow_99 rfl ?_
    refine s_getN 11 12 105 clX11 (by decide) nw_54 dX12_meadow_102 rfl ?_
    refine s_put 12 20 108 clX12 (by decide) rfl rfl pIH tw_1308 dX12_meadow_105 rfl ?_
    refine s_Aldn 0 rfl 109 dX12_meadow_108 rfl ?_
    refine s_iconst 110 0 (by decide) dX12_meadow_109 rfl ?_
    refine s_put 12 21 113 clX12 (by decide) rfl rfl pIH tw_1309 dX12_meadow_110 rfl ?_
    refine s_Aldn 0 rfl 114 dX12_meadow_113 rfl ?_
    refine s_iconst 115 0 (by decide) dX12_meadow_114 rfl ?_
    refine s_put 12 41 118 clX12 (by decide) rfl rfl pIH tw_1329 dX12_meadow_115 rfl ?_
    refine s_Aldn 0 rfl 119 dX12_meadow_118 rfl ?_
    refine s_iconst 120 0 (by decide) dX12_meadow_119 rfl ?_
    refine s_put 12 42 123 clX12 (by decide) rfl rfl pIH tw_1330 dX12_meadow_120 rfl ?_
    refine s_Aldn 0 rfl 124 dX12_meadow_123 rfl ?_
    refine s_Aldn 0 rfl 125 dX12_meadow_124 rfl ?_
    refine s_get 12 20 128 clX12 (by decide) tw_1308 dX12_meadow_125 rfl ?_
    exact s_pick (sBX12_meadow_128)
  · refine s_Aldn 0 rfl 75 dX12_meadow_74 rfl ?_
    refine s_iconst 76 4 (by decide) dX12_meadow_75 rfl ?_
    refine s_put 12 1 79 clX12 (by decide) rfl rfl pIH tw_1289 dX12_meadow_76 rfl ?_
    refine s_Aldn 0 rfl 80 dX12_meadow_79 rfl ?_
    refine s_Aldn 0 rfl 81 dX12_meadow_80 rfl ?_
    refine s_get 12 15 84 clX12 (by decide) tw_1303 dX12_meadow_81 rfl ?_
    refine s_put 12 2 87 clX12 (by decide) rfl rfl pIH tw_1290 dX12_meadow_84 rfl ?_
    refine s_iconst 88 (-1) (by decide) dX12_meadow_87 rfl ?_
    exact s_iretH rfl dX12_meadow_88
def BX12_meadow_60 : KT (Int32 × HP) :=
  oCal 1 (some 12) EX12_goesOn fVH (oAld 0 (oPick [0] (BX12_meadow_64)))
set_option maxRecDepth 20000 in
theorem sBX12_meadow_60 : Snd XX12_meadow fIH 60 (BX12_meadow_60) (0) (0) := by
  unfold BX12_meadow_60
  refine s_cal0 63 (run_V (X := XX12_meadow) rfl clX12 yoX12_goesOn rfl tw_1531 tw_1533 tw_p51 (by decide) dX12_meadow_60) cmX12_goesOn (fun _ _ _ => rfl) rfl ?_
  refine s_Aldn 0 rfl 64 dX12_meadow_63 rfl ?_
  exact s_pick (sBX12_meadow_64)
def BX12_meadow_0 : KT (Int32 × HP) :=
  oAld 0 (oConst (.int 0) (oPut 12 0 .int (oIld 1 (oIflt (oAld 0 (oConst (.int 2) (oCal 2 (some 12) EX12_refused fIH (oIretH)))) (oIld 1 (oAld 0 (oGet 12 6 (oCmple (oAld 0 (oIld 1 (oPut 12 7 .int (oAld 0 (oConst (.int 0) (oPut 12 6 .int (oAld 0 (oConst (.int 0) (oPut 12 8 .int (oAld 0 (oConst (.int 0) (oPut 12 14 .int (oAld 0 (oNew 11 [.int 0, .int 0, .int 0, .int 0, .int 0, .int 0, .int 0, .int 0, .int 0, .int 0, .int 0, .int 0, .long 0, .long 0, .long 0, .long 0, .long 0, .long 0, .null, .null, .null, .null, .null, .null, .null, .null] (odup (oCal 1 (some 11) EX11_init fVH (oPut 12 4 (.object "MownMazeModel$Meadow") (oAld 0 (oConst (.int 0) (oPut 12 9 .int (oAld 0 (oPick [0] (BX12_meadow_60))))))))))))))))))))))) (oAld 0 (oConst (.int 2) (oCal 2 (some 12) EX12_refused fIH (oIretH))))))))))))
set_option maxRecDepth 20000 in
theorem sBX12_meadow_0 : Snd XX12_meadow fIH 0 (BX12_meadow_0) (9) (65) := by
  unfold BX12_meadow_0
  refine s_Aldn 0 rfl 1 dX12_meadow_0 rfl ?_
  refine s_iconst 2 0 (by decide) dX12_meadow_1 rfl ?_
  refine s_put 12 0 5 clX12 (by decide) rfl rfl pIH tw_1288 dX12_meadow_2 rfl ?_
  refine s_Ildn 1 rfl 6 dX12_meadow_5 rfl ?_
  refine s_iflt 17 9 dX12_meadow_6 (by decide) rfl ?_ ?_
  · refine Snd.more (mc := 0) (ms := 0) ?_ (by omega) (by omega)
    refine s_Aldn 0 rfl 18 dX12_meadow_17 rfl ?_
    refine s_iconst 19 2 (by decide) dX12_meadow_18 rfl ?_
    refine s_cal0 22 (run_V (X := XX12_meadow) rfl clX12 yoX12_refused rfl tw_1430 tw_1432 tw_p50 (by decide) dX12_meadow_19) cmX12_refused (fun _ _ _ => rfl) rfl ?_
    exact s_iretH rfl dX12_meadow_22
  · refine s_Ildn 1 rfl 10 dX12_meadow_9 rfl ?_
    refine s_Aldn 0 rfl 11 dX12_meadow_10 rfl ?_
    refine s_get 12 6 14 clX12 (by decide) tw_1294 dX12_meadow_11 rfl ?_
    refine s_cmple 23 17 dX12_meadow_14 (by decide) rfl ?_ ?_
    · refine s_Aldn 0 rfl 24 dX12_meadow_23 rfl ?_
      refine s_Ildn 1 rfl 25 dX12_meadow_24 rfl ?_
      refine s_put 12 7 28 clX12 (by decide) rfl rfl pIH tw_1295 dX12_meadow_25 rfl ?_
      refine s_Aldn 0 rfl 29 dX12_meadow_28 rfl ?_
      refine s_iconst 30 0 (by decide) dX12_meadow_29 rfl ?_
      refine s_put 12 6 33 clX12 (by decide) rfl rfl pIH tw_1294 dX12_meadow_30 rfl ?_
      refine s_Aldn 0 rfl 34 dX12_meadow_33 rfl ?_
      refine s_iconst 35 0 (by decide) dX12_meadow_34 rfl ?_
      refine s_put 12 8 38 clX12 (by decide) rfl rfl pIH tw_1296 dX12_meadow_35 rfl ?_
      refine s_Aldn 0 rfl 39 dX12_meadow_38 rfl ?_
      refine s_iconst 40 0 (by decide) dX12_meadow_39 rfl ?_
      refine s_put 12 14 43 clX12 (by decide) rfl rfl pIH tw_1302 dX12_meadow_40 rfl ?_
      refine s_Aldn 0 rfl 44 dX12_meadow_43 rfl ?_
      refine s_new (mc := 8) (ms := 39) 11 47 clX11 (by decide +kernel) (fun _ => rfl) pIH tw_1434 tw_1435 tw_19 dX12_meadow_44 rfl ?_
      refine s_dup 48 dX12_meadow_47 rfl ?_
      refine s_cal (mc := 0) (ms := 0) 51 (run_IN (X := XX12_meadow) 11 rfl yoX11_init rfl rfl nw_85 tw_1437 (by decide) dX12_meadow_48) cmX11_init (fun _ _ _ => rfl) rfl ?_
      refine s_put 12 4 54 clX12 (by decide) rfl rfl pIH tw_1292 dX12_meadow_51 rfl ?_
      refine s_Aldn 0 rfl 55 dX12_meadow_54 rfl ?_
      refine s_iconst 56 0 (by decide) dX12_meadow_55 rfl ?_
      refine s_put 12 9 59 clX12 (by decide) rfl rfl pIH tw_1297 dX12_meadow_56 rfl ?_
      refine s_Aldn 0 rfl 60 dX12_meadow_59 rfl ?_
      exact s_pick (sBX12_meadow_60)
    · refine Snd.more (mc := 0) (ms := 0) ?_ (by omega) (by omega)
      refine s_Aldn 0 rfl 18 dX12_meadow_17 rfl ?_
      refine s_iconst 19 2 (by decide) dX12_meadow_18 rfl ?_
      refine s_cal0 22 (run_V (X := XX12_meadow) rfl clX12 yoX12_refused rfl tw_1430 tw_1432 tw_p50 (by decide) dX12_meadow_19) cmX12_refused (fun _ _ _ => rfl) rfl ?_
      exact s_iretH rfl dX12_meadow_22
def EX12_meadow : List Value → HP → Option (Int32 × HP) := en 2 BX12_meadow_0
theorem cmX12_meadow : CM XX12_meadow EX12_meadow fIH 9 65 := CM.of rfl (by decide) rfl rfl sBX12_meadow_0
theorem yoX12_meadow : YO XX12_meadow 1 9 65 := ⟨tw_1429, rfl, tw_12, (by decide +kernel), rfl, rfl⟩
abbrev XX12_fault : MX := (yX12_fault, cX12_fault, 1, (Option.some .int), Cond.code yX12_fault cX12_fault 1 (Option.some .int) :: WS, { frames := 0, cells := 0, slots := 0, locals := 0 })
def BX12_fault_0 : KT (Int32 × HP) :=
  oAld 0 (oConst (.int 0) (oPut 12 0 .int (oAld 0 (oGet 12 14 (oIretH)))))
set_option maxRecDepth 20000 in
theorem sBX12_fault_0 : Snd XX12_fault fIH 0 (BX12_fault_0) (0) (0) := by
  unfold BX12_fault_0
  refine s_Aldn 0 rfl 1 dX12_fault_0 rfl ?_
  refine s_iconst 2 0 (by decide) dX12_fault_1 rfl ?_
  refine s_put 12 0 5 clX12 (by decide) rfl rfl pIH tw_1288 dX12_fault_2 rfl ?_
  refine s_Aldn 0 rfl 6 dX12_fault_5 rfl ?_
  refine s_get 12 14 9 clX12 (by decide) tw_1302 dX12_fault_6 rfl ?_
  exact s_iretH rfl dX12_fault_9
def EX12_fault : List Value → HP → Option (Int32 × HP) := en 1 BX12_fault_0
theorem cmX12_fault : CM XX12_fault EX12_fault fIH 0 0 := CM.of rfl (by decide) rfl rfl sBX12_fault_0
theorem yoX12_fault : YO XX12_fault 0 0 0 := ⟨tw_1685, rfl, tw_12, (by decide +kernel), rfl, rfl⟩
abbrev XX12_where : MX := (yX12_where, cX12_where, 1, (Option.some .int), Cond.code yX12_where cX12_where 1 (Option.some .int) :: WS, { frames := 0, cells := 0, slots := 0, locals := 0 })
def BX12_where_0 : KT (Int32 × HP) :=
  oAld 0 (oConst (.int 0) (oPut 12 0 .int (oAld 0 (oGet 12 2 (oIretH)))))
set_option maxRecDepth 20000 in
theorem sBX12_where_0 : Snd XX12_where fIH 0 (BX12_where_0) (0) (0) := by
  unfold BX12_where_0
  refine s_Aldn 0 rfl 1 dX12_where_0 rfl ?_
  refine s_iconst 2 0 (by decide) dX12_where_1 rfl ?_
  refine s_put 12 0 5 clX12 (by decide) rfl rfl pIH tw_1288 dX12_where_2 rfl ?_
  refine s_Aldn 0 rfl 6 dX12_where_5 rfl ?_
  refine s_get 12 2 9 clX12 (by decide) tw_1290 dX12_where_6 rfl ?_
  exact s_iretH rfl dX12_where_9
def EX12_where : List Value → HP → Option (Int32 × HP) := en 1 BX12_where_0
theorem cmX12_where : CM XX12_where EX12_where fIH 0 0 := CM.of rfl (by decide) rfl rfl sBX12_where_0
theorem yoX12_where : YO XX12_where 0 0 0 := ⟨tw_1689, rfl, tw_12, (by decide +kernel), rfl, rfl⟩
abbrev XX12_besideOf : MX := (yX12_besideOf, cX12_besideOf, 8, (Option.some .long), Cond.code yX12_besideOf cX12_besideOf 8 (Option.some .long) :: WS, { frames := 2, cells := 0, slots := 0, locals := 43 })
def BX12_besideOf_33 (k6 : KT Int64) : KT Int64 :=
  oCal 2 none EX12_has fZ (oIfeq (oInc 6 1 (oPick [0, 1, 3, 4, 6] k6)) (oLld 4 (oConst (.long 1) (oIld 7 (olshl (olor (oLst 4 (oInc 6 1 (oPick [0, 1, 3, 4, 6] k6)))))))))
set_option maxRecDepth 20000 in
theorem sBX12_besideOf_33 {k6 : KT Int64} (hk6 : Snd XX12_besideOf fL 6 k6 0 0) : Snd XX12_besideOf fL 33 (BX12_besideOf_33 k6) (0) (0) := by
  unfold BX12_besideOf_33
  refine s_cal0 36 (run_S (X := XX12_besideOf) yoX12_has tw_1628 tw_1629 (by decide) dX12_besideOf_33) cmX12_has (fun _ _ _ => rfl) rfl ?_
  refine s_ifeq 48 39 dX12_besideOf_36 (by decide) rfl ?_ ?_
  · refine s_inc 6 1 51 (by decide) (by decide) dX12_besideOf_48 rfl ?_
    refine s_goto 6 dX12_besideOf_51 (by decide) ?_
    exact s_pick hk6
  · refine s_Lld 4 41 dX12_besideOf_39 rfl ?_
    refine s_lconst 42 1 (by decide) dX12_besideOf_41 rfl ?_
    refine s_Ild 7 44 dX12_besideOf_42 rfl ?_
    refine s_lshl 45 dX12_besideOf_44 rfl ?_
    refine s_lor 46 dX12_besideOf_45 rfl ?_
    refine s_Lst 4 48 (by decide) dX12_besideOf_46 rfl ?_
    refine s_inc 6 1 51 (by decide) (by decide) dX12_besideOf_48 rfl ?_
    refine s_goto 6 dX12_besideOf_51 (by decide) ?_
    exact s_pick hk6
def BX12_besideOf_19 (k6 : KT Int64) : KT Int64 :=
  oCal 3 (some 11) EX11_to fI (oIst 7 (oIld 7 (oConst (.int (-1)) (oCmpeq (oInc 6 1 (oPick [0, 1, 3, 4, 6] k6)) (oLld 1 (oIld 7 (oPick [0, 1, 3, 4, 6, 7] (BX12_besideOf_33 k6))))))))
set_option maxRecDepth 20000 in
theorem sBX12_besideOf_19 {k6 : KT Int64} (hk6 : Snd XX12_besideOf fL 6 k6 0 0) : Snd XX12_besideOf fL 19 (BX12_besideOf_19 k6) (0) (0) := by
  unfold BX12_besideOf_19
  refine s_cal0 22 (run_V (X := XX12_besideOf) rfl clX11 yoX11_to rfl tw_1710 tw_1711 tw_1712 (by decide) dX12_besideOf_19) cmX11_to (fun _ _ _ => rfl) rfl ?_
  refine s_Ist 7 24 (by decide) dX12_besideOf_22 rfl ?_
  refine s_Ild 7 26 dX12_besideOf_24 rfl ?_
  refine s_iconst 27 (-1) (by decide) dX12_besideOf_26 rfl ?_
  refine s_cmpeq 48 30 dX12_besideOf_27 (by decide) rfl ?_ ?_
  · refine s_inc 6 1 51 (by decide) (by decide) dX12_besideOf_48 rfl ?_
    refine s_goto 6 dX12_besideOf_51 (by decide) ?_
    exact s_pick hk6
  · refine s_Lldn 1 rfl 31 dX12_besideOf_30 rfl ?_
    refine s_Ild 7 33 dX12_besideOf_31 rfl ?_
    exact s_pick (sBX12_besideOf_33 hk6)
def BX12_besideOf_6 (k6 : KT Int64) : KT Int64 :=
  oIld 6 (oConst (.int 4) (oCmpge (oLld 4 (oLretP)) (oAld 0 (oGet 12 3 (oIld 3 (oIld 6 (oPick [0, 1, 3, 4, 6] (BX12_besideOf_19 k6))))))))
set_option maxRecDepth 20000 in
theorem sBX12_besideOf_6 {k6 : KT Int64} (hk6 : Snd XX12_besideOf fL 6 k6 0 0) : Snd XX12_besideOf fL 6 (BX12_besideOf_6 k6) (0) (0) := by
  unfold BX12_besideOf_6
  refine s_Ild 6 8 dX12_besideOf_6 rfl ?_
  refine s_iconst 9 4 (by decide) dX12_besideOf_8 rfl ?_
  refine s_cmpge 54 12 dX12_besideOf_9 (by decide) rfl ?_ ?_
  · refine s_Lld 4 56 dX12_besideOf_54 rfl ?_
    exact s_lretP rfl dX12_besideOf_56
  · refine s_Aldn 0 rfl 13 dX12_besideOf_12 rfl ?_
    refine s_get 12 3 16 clX12 (by decide) tw_1291 dX12_besideOf_13 rfl ?_
    refine s_Ildn 3 rfl 17 dX12_besideOf_16 rfl ?_
    refine s_Ild 6 19 dX12_besideOf_17 rfl ?_
    exact s_pick (sBX12_besideOf_19 hk6)
def BX12_besideOf_0 : KT Int64 :=
  oConst (.long 0) (oLst 4 (oConst (.int 0) (oIst 6 (oPick [0, 1, 3, 4, 6] (lp (BX12_besideOf_6) FU)))))
set_option maxRecDepth 20000 in
theorem sBX12_besideOf_0 : Snd XX12_besideOf fL 0 (BX12_besideOf_0) (0) (0) := by
  unfold BX12_besideOf_0
  refine s_lconst 1 0 (by decide) dX12_besideOf_0 rfl ?_
  refine s_Lst 4 3 (by decide) dX12_besideOf_1 rfl ?_
  refine s_iconst 4 0 (by decide) dX12_besideOf_3 rfl ?_
  refine s_Ist 6 6 (by decide) dX12_besideOf_4 rfl ?_
  exact s_pick (s_lp (fun k hk => sBX12_besideOf_6  hk) FU)
def EX12_besideOf : List Value → HP → Option Int64 := en 8 BX12_besideOf_0
theorem cmX12_besideOf : CM XX12_besideOf EX12_besideOf fL 0 0 := CM.of rfl (by decide) rfl rfl sBX12_besideOf_0
theorem yoX12_besideOf : YO XX12_besideOf 2 0 0 := ⟨tw_1709, rfl, tw_12, (by decide +kernel), rfl, rfl⟩
abbrev XX12_laysFar : MX := (yX12_laysFar, cX12_laysFar, 8, none, Cond.code yX12_laysFar cX12_laysFar 8 none :: WS, { frames := 2, cells := 0, slots := 0, locals := 43 })
def BX12_laysFar_97 (k54 : KT HP) (k64 : KT HP) : KT HP :=
  oCal 2 none EX12_has fZ (oIfeq (oInc 6 1 (oPick [0, 1, 4, 5, 6] k64)) (oAld 0 (oGet 12 22 (oIld 7 (oIa (oConst (.int (-2)) (oCmpeq (oAld 0 (oGet 12 22 (oIld 7 (oAld 0 (oGet 12 22 (oAld 0 (oGet 12 23 (oIld 5 (oIa (oIa (oConst (.int 1) (oiadd (oIw (oAld 0 (oGet 12 23 (oIld 4 (oIld 7 (oIw (oInc 4 1 (oInc 6 1 (oPick [0, 1, 4, 5, 6] k64))))))))))))))))))))) (oInc 6 1 (oPick [0, 1, 4, 5, 6] k64)))))))))
set_option maxRecDepth 20000 in
theorem sBX12_laysFar_97 {k54 : KT HP} (hk54 : Snd XX12_laysFar fVH 54 k54 0 0) {k64 : KT HP} (hk64 : Snd XX12_laysFar fVH 64 k64 0 0) : Snd XX12_laysFar fVH 97 (BX12_laysFar_97 k54 k64) (0) (0) := by
  unfold BX12_laysFar_97
  refine s_cal0 100 (run_S (X := XX12_laysFar) yoX12_has tw_1628 tw_1629 (by decide) dX12_laysFar_97) cmX12_has (fun _ _ _ => rfl) rfl ?_
  refine s_ifeq 151 103 dX12_laysFar_100 (by decide) rfl ?_ ?_
  · refine s_inc 6 1 154 (by decide) (by decide) dX12_laysFar_151 rfl ?_
    refine s_goto 64 dX12_laysFar_154 (by decide) ?_
    exact s_pick hk64
  · refine s_Aldn 0 rfl 104 dX12_laysFar_103 rfl ?_
    refine s_get 12 22 107 clX12 (by decide) tw_1310 dX12_laysFar_104 rfl ?_
    refine s_Ild 7 109 dX12_laysFar_107 rfl ?_
    refine s_Ia 110 dX12_laysFar_109 rfl ?_
    refine s_bipush 112 (-2) (by decide) dX12_laysFar_110 rfl ?_
    refine s_cmpeq 118 115 dX12_laysFar_112 (by decide) rfl ?_ ?_
    · refine s_Aldn 0 rfl 119 dX12_laysFar_118 rfl ?_
      refine s_get 12 22 122 clX12 (by decide) tw_1310 dX12_laysFar_119 rfl ?_
      refine s_Ild 7 124 dX12_laysFar_122 rfl ?_
      refine s_Aldn 0 rfl 125 dX12_laysFar_124 rfl ?_
      refine s_get 12 22 128 clX12 (by decide) tw_1310 dX12_laysFar_125 rfl ?_
      refine s_Aldn 0 rfl 129 dX12_laysFar_128 rfl ?_
      refine s_get 12 23 132 clX12 (by decide) tw_1311 dX12_laysFar_129 rfl ?_
      refine s_Ild 5 134 dX12_laysFar_132 rfl ?_
      refine s_Ia 135 dX12_laysFar_134 rfl ?_
      refine s_Ia 136 dX12_laysFar_135 rfl ?_
      refine s_iconst 137 1 (by decide) dX12_laysFar_136 rfl ?_
      refine s_iadd 138 dX12_laysFar_137 rfl ?_
      refine s_Iw 139 pVH dX12_laysFar_138 rfl ?_
      refine s_Aldn 0 rfl 140 dX12_laysFar_139 rfl ?_
      refine s_get 12 23 143 clX12 (by decide) tw_1311 dX12_laysFar_140 rfl ?_
      refine s_Ild 4 145 dX12_laysFar_143 rfl ?_
      refine s_Ild 7 147 dX12_laysFar_145 rfl ?_
      refine s_Iw 148 pVH dX12_laysFar_147 rfl ?_
      refine s_inc 4 1 151 (by decide) (by decide) dX12_laysFar_148 rfl ?_
      refine s_inc 6 1 154 (by decide) (by decide) dX12_laysFar_151 rfl ?_
      refine s_goto 64 dX12_laysFar_154 (by decide) ?_
      exact s_pick hk64
    · refine s_goto 151 dX12_laysFar_115 (by decide) ?_
      refine s_inc 6 1 154 (by decide) (by decide) dX12_laysFar_151 rfl ?_
      refine s_goto 64 dX12_laysFar_154 (by decide) ?_
      exact s_pick hk64
def BX12_laysFar_83 (k54 : KT HP) (k64 : KT HP) : KT HP :=
  oCal 3 (some 11) EX11_to fI (oIst 7 (oIld 7 (oConst (.int (-1)) (oCmpeq (oInc 6 1 (oPick [0, 1, 4, 5, 6] k64)) (oLld 1 (oIld 7 (oPick [0, 1, 4, 5, 6, 7] (BX12_laysFar_97 k54 k64))))))))
set_option maxRecDepth 20000 in
theorem sBX12_laysFar_83 {k54 : KT HP} (hk54 : Snd XX12_laysFar fVH 54 k54 0 0) {k64 : KT HP} (hk64 : Snd XX12_laysFar fVH 64 k64 0 0) : Snd XX12_laysFar fVH 83 (BX12_laysFar_83 k54 k64) (0) (0) := by
  unfold BX12_laysFar_83
  refine s_cal0 86 (run_V (X := XX12_laysFar) rfl clX11 yoX11_to rfl tw_1710 tw_1711 tw_1712 (by decide) dX12_laysFar_83) cmX11_to (fun _ _ _ => rfl) rfl ?_
  refine s_Ist 7 88 (by decide) dX12_laysFar_86 rfl ?_
  refine s_Ild 7 90 dX12_laysFar_88 rfl ?_
  refine s_iconst 91 (-1) (by decide) dX12_laysFar_90 rfl ?_
  refine s_cmpeq 151 94 dX12_laysFar_91 (by decide) rfl ?_ ?_
  · refine s_inc 6 1 154 (by decide) (by decide) dX12_laysFar_151 rfl ?_
    refine s_goto 64 dX12_laysFar_154 (by decide) ?_
    exact s_pick hk64
  · refine s_Lldn 1 rfl 95 dX12_laysFar_94 rfl ?_
    refine s_Ild 7 97 dX12_laysFar_95 rfl ?_
    exact s_pick (sBX12_laysFar_97 hk54 hk64)
def BX12_laysFar_64 (k54 : KT HP) (k64 : KT HP) : KT HP :=
  oIld 6 (oConst (.int 4) (oCmpge (oInc 5 1 (oPick [0, 1, 4, 5] k54)) (oAld 0 (oGet 12 3 (oAld 0 (oGet 12 23 (oIld 5 (oIa (oIld 6 (oPick [0, 1, 4, 5, 6] (BX12_laysFar_83 k54 k64)))))))))))
set_option maxRecDepth 20000 in
theorem sBX12_laysFar_64 {k54 : KT HP} (hk54 : Snd XX12_laysFar fVH 54 k54 0 0) {k64 : KT HP} (hk64 : Snd XX12_laysFar fVH 64 k64 0 0) : Snd XX12_laysFar fVH 64 (BX12_laysFar_64 k54 k64) (0) (0) := by
  unfold BX12_laysFar_64
  refine s_Ild 6 66 dX12_laysFar_64 rfl ?_
  refine s_iconst 67 4 (by decide) dX12_laysFar_66 rfl ?_
  refine s_cmpge 157 70 dX12_laysFar_67 (by decide) rfl ?_ ?_
  · refine s_inc 5 1 160 (by decide) (by decide) dX12_laysFar_157 rfl ?_
    refine s_goto 54 dX12_laysFar_160 (by decide) ?_
    exact s_pick hk54
  · refine s_Aldn 0 rfl 71 dX12_laysFar_70 rfl ?_
    refine s_get 12 3 74 clX12 (by decide) tw_1291 dX12_laysFar_71 rfl ?_
    refine s_Aldn 0 rfl 75 dX12_laysFar_74 rfl ?_
    refine s_get 12 23 78 clX12 (by decide) tw_1311 dX12_laysFar_75 rfl ?_
    refine s_Ild 5 80 dX12_laysFar_78 rfl ?_
    refine s_Ia 81 dX12_laysFar_80 rfl ?_
    refine s_Ild 6 83 dX12_laysFar_81 rfl ?_
    exact s_pick (sBX12_laysFar_83 hk54 hk64)
def BX12_laysFar_54 (k54 : KT HP) : KT HP :=
  oIld 5 (oIld 4 (oCmpge (oVretH) (oConst (.int 0) (oIst 6 (oPick [0, 1, 4, 5, 6] (lp (BX12_laysFar_64 k54) FU))))))
set_option maxRecDepth 20000 in
theorem sBX12_laysFar_54 {k54 : KT HP} (hk54 : Snd XX12_laysFar fVH 54 k54 0 0) : Snd XX12_laysFar fVH 54 (BX12_laysFar_54 k54) (0) (0) := by
  unfold BX12_laysFar_54
  refine s_Ild 5 56 dX12_laysFar_54 rfl ?_
  refine s_Ild 4 58 dX12_laysFar_56 rfl ?_
  refine s_cmpge 163 61 dX12_laysFar_58 (by decide) rfl ?_ ?_
  · exact s_vretH rfl dX12_laysFar_163
  · refine s_iconst 62 0 (by decide) dX12_laysFar_61 rfl ?_
    refine s_Ist 6 64 (by decide) dX12_laysFar_62 rfl ?_
    exact s_pick (s_lp (fun k hk => sBX12_laysFar_64 hk54 hk) FU)
def BX12_laysFar_27 : KT HP :=
  oCal 2 none EX12_has fZ (oIfne (oAld 0 (oGet 12 22 (oIld 3 (oConst (.int 0) (oIw (oAld 0 (oGet 12 23 (oConst (.int 0) (oIld 3 (oIw (oConst (.int 1) (oIst 4 (oConst (.int 0) (oIst 5 (oPick [0, 1, 4, 5] (lp (BX12_laysFar_54) FU)))))))))))))))) (oVretH))
set_option maxRecDepth 20000 in
theorem sBX12_laysFar_27 : Snd XX12_laysFar fVH 27 (BX12_laysFar_27) (0) (0) := by
  unfold BX12_laysFar_27
  refine s_cal0 30 (run_S (X := XX12_laysFar) yoX12_has tw_1628 tw_1629 (by decide) dX12_laysFar_27) cmX12_has (fun _ _ _ => rfl) rfl ?_
  refine s_ifne 34 33 dX12_laysFar_30 (by decide) rfl ?_ ?_
  · refine s_Aldn 0 rfl 35 dX12_laysFar_34 rfl ?_
    refine s_get 12 22 38 clX12 (by decide) tw_1310 dX12_laysFar_35 rfl ?_
    refine s_Ildn 3 rfl 39 dX12_laysFar_38 rfl ?_
    refine s_iconst 40 0 (by decide) dX12_laysFar_39 rfl ?_
    refine s_Iw 41 pVH dX12_laysFar_40 rfl ?_
    refine s_Aldn 0 rfl 42 dX12_laysFar_41 rfl ?_
    refine s_get 12 23 45 clX12 (by decide) tw_1311 dX12_laysFar_42 rfl ?_
    refine s_iconst 46 0 (by decide) dX12_laysFar_45 rfl ?_
    refine s_Ildn 3 rfl 47 dX12_laysFar_46 rfl ?_
    refine s_Iw 48 pVH dX12_laysFar_47 rfl ?_
    refine s_iconst 49 1 (by decide) dX12_laysFar_48 rfl ?_
    refine s_Ist 4 51 (by decide) dX12_laysFar_49 rfl ?_
    refine s_iconst 52 0 (by decide) dX12_laysFar_51 rfl ?_
    refine s_Ist 5 54 (by decide) dX12_laysFar_52 rfl ?_
    exact s_pick (s_lp (fun k hk => sBX12_laysFar_54  hk) FU)
  · exact s_vretH rfl dX12_laysFar_33
def BX12_laysFar_3 (k3 : KT HP) : KT HP :=
  oIld 4 (oConst (.int 48) (oCmpge (oLld 1 (oIld 3 (oPick [0, 1, 3] (BX12_laysFar_27)))) (oAld 0 (oGet 12 22 (oIld 4 (oConst (.int (-2)) (oIw (oInc 4 1 (oPick [0, 1, 3, 4] k3)))))))))
set_option maxRecDepth 20000 in
theorem sBX12_laysFar_3 {k3 : KT HP} (hk3 : Snd XX12_laysFar fVH 3 k3 0 0) : Snd XX12_laysFar fVH 3 (BX12_laysFar_3 k3) (0) (0) := by
  unfold BX12_laysFar_3
  refine s_Ild 4 5 dX12_laysFar_3 rfl ?_
  refine s_bipush 7 48 (by decide) dX12_laysFar_5 rfl ?_
  refine s_cmpge 25 10 dX12_laysFar_7 (by decide) rfl ?_ ?_
  · refine s_Lldn 1 rfl 26 dX12_laysFar_25 rfl ?_
    refine s_Ildn 3 rfl 27 dX12_laysFar_26 rfl ?_
    exact s_pick (sBX12_laysFar_27)
  · refine s_Aldn 0 rfl 11 dX12_laysFar_10 rfl ?_
    refine s_get 12 22 14 clX12 (by decide) tw_1310 dX12_laysFar_11 rfl ?_
    refine s_Ild 4 16 dX12_laysFar_14 rfl ?_
    refine s_bipush 18 (-2) (by decide) dX12_laysFar_16 rfl ?_
    refine s_Iw 19 pVH dX12_laysFar_18 rfl ?_
    refine s_inc 4 1 22 (by decide) (by decide) dX12_laysFar_19 rfl ?_
    refine s_goto 3 dX12_laysFar_22 (by decide) ?_
    exact s_pick hk3
def BX12_laysFar_0 : KT HP :=
  oConst (.int 0) (oIst 4 (oPick [0, 1, 3, 4] (lp (BX12_laysFar_3) FU)))
set_option maxRecDepth 20000 in
theorem sBX12_laysFar_0 : Snd XX12_laysFar fVH 0 (BX12_laysFar_0) (0) (0) := by
  unfold BX12_laysFar_0
  refine s_iconst 1 0 (by decide) dX12_laysFar_0 rfl ?_
  refine s_Ist 4 3 (by decide) dX12_laysFar_1 rfl ?_
  exact s_pick (s_lp (fun k hk => sBX12_laysFar_3  hk) FU)
def EX12_laysFar : List Value → HP → Option HP := en 8 BX12_laysFar_0
theorem cmX12_laysFar : CM XX12_laysFar EX12_laysFar fVH 0 0 := CM.of rfl (by decide) rfl rfl sBX12_laysFar_0
theorem yoX12_laysFar : YO XX12_laysFar 2 0 0 := ⟨tw_1732, rfl, tw_12, (by decide +kernel), rfl, rfl⟩
abbrev XX12_partsOf : MX := (yX12_partsOf, cX12_partsOf, 7, (Option.some .int), Cond.code yX12_partsOf cX12_partsOf 7 (Option.some .int) :: WS, { frames := 3, cells := 0, slots := 0, locals := 70 })
def BX12_partsOf_23 (k5 : KT (Int32 × HP)) (k23 : KT (Int32 × HP)) : KT (Int32 × HP) :=
  oIld 6 (oAld 0 (oGet 12 3 (oCal 1 (some 11) EX11_cells fI (oCmpge (oInc 5 1 (oPick [0, 3, 5] k5)) (oAld 0 (oGet 12 22 (oIld 6 (oIa (oConst (.int (-2)) (oCmpeq (oInc 6 1 (oPick [0, 3, 5, 6] k23)) (oLld 3 (oConst (.long 1) (oIld 6 (olshl (oConst (.long (-1)) (olxor (oland (oLst 3 (oInc 6 1 (oPick [0, 3, 5, 6] k23))))))))))))))))))))
set_option maxRecDepth 20000 in
theorem sBX12_partsOf_23 {k5 : KT (Int32 × HP)} (hk5 : Snd XX12_partsOf fIH 5 k5 0 0) {k23 : KT (Int32 × HP)} (hk23 : Snd XX12_partsOf fIH 23 k23 0 0) : Snd XX12_partsOf fIH 23 (BX12_partsOf_23 k5 k23) (0) (0) := by
  unfold BX12_partsOf_23
  refine s_Ild 6 25 dX12_partsOf_23 rfl ?_
  refine s_Aldn 0 rfl 26 dX12_partsOf_25 rfl ?_
  refine s_get 12 3 29 clX12 (by decide) tw_1291 dX12_partsOf_26 rfl ?_
  refine s_cal0 32 (run_V (X := XX12_partsOf) rfl clX11 yoX11_cells rfl tw_1733 tw_1715 tw_1716 (by decide) dX12_partsOf_29) cmX11_cells (fun _ _ _ => rfl) rfl ?_
  refine s_cmpge 64 35 dX12_partsOf_32 (by decide) rfl ?_ ?_
  · refine s_inc 5 1 67 (by decide) (by decide) dX12_partsOf_64 rfl ?_
    refine s_goto 5 dX12_partsOf_67 (by decide) ?_
    exact s_pick hk5
  · refine s_Aldn 0 rfl 36 dX12_partsOf_35 rfl ?_
    refine s_get 12 22 39 clX12 (by decide) tw_1310 dX12_partsOf_36 rfl ?_
    refine s_Ild 6 41 dX12_partsOf_39 rfl ?_
    refine s_Ia 42 dX12_partsOf_41 rfl ?_
    refine s_bipush 44 (-2) (by decide) dX12_partsOf_42 rfl ?_
    refine s_cmpeq 58 47 dX12_partsOf_44 (by decide) rfl ?_ ?_
    · refine s_inc 6 1 61 (by decide) (by decide) dX12_partsOf_58 rfl ?_
      refine s_goto 23 dX12_partsOf_61 (by decide) ?_
      exact s_pick hk23
    · refine s_Lldn 3 rfl 48 dX12_partsOf_47 rfl ?_
      refine s_lconst 49 1 (by decide) dX12_partsOf_48 rfl ?_
      refine s_Ild 6 51 dX12_partsOf_49 rfl ?_
      refine s_lshl 52 dX12_partsOf_51 rfl ?_
      refine s_ldc2 55 (-1) tw_1734 dX12_partsOf_52 rfl ?_
      refine s_lxor 56 dX12_partsOf_55 rfl ?_
      refine s_land 57 dX12_partsOf_56 rfl ?_
      refine s_Lstn 3 rfl 58 (by decide) dX12_partsOf_57 rfl ?_
      refine s_inc 6 1 61 (by decide) (by decide) dX12_partsOf_58 rfl ?_
      refine s_goto 23 dX12_partsOf_61 (by decide) ?_
      exact s_pick hk23
def BX12_partsOf_17 (k5 : KT (Int32 × HP)) : KT (Int32 × HP) :=
  oCal 3 (some 12) EX12_laysFar fVH (oConst (.int 0) (oIst 6 (oPick [0, 3, 5, 6] (lp (BX12_partsOf_23 k5) FU))))
set_option maxRecDepth 20000 in
theorem sBX12_partsOf_17 {k5 : KT (Int32 × HP)} (hk5 : Snd XX12_partsOf fIH 5 k5 0 0) : Snd XX12_partsOf fIH 17 (BX12_partsOf_17 k5) (0) (0) := by
  unfold BX12_partsOf_17
  refine s_cal0 20 (run_V (X := XX12_partsOf) rfl clX12 yoX12_laysFar rfl tw_1729 tw_1731 tw_p81 (by decide) dX12_partsOf_17) cmX12_laysFar (fun _ _ _ => rfl) rfl ?_
  refine s_iconst 21 0 (by decide) dX12_partsOf_20 rfl ?_
  refine s_Ist 6 23 (by decide) dX12_partsOf_21 rfl ?_
  exact s_pick (s_lp (fun k hk => sBX12_partsOf_23 hk5 hk) FU)
def BX12_partsOf_14 (k5 : KT (Int32 × HP)) : KT (Int32 × HP) :=
  oCal 1 none EX12_first fI (oPick [0, 3, 5] (BX12_partsOf_17 k5))
set_option maxRecDepth 20000 in
theorem sBX12_partsOf_14 {k5 : KT (Int32 × HP)} (hk5 : Snd XX12_partsOf fIH 5 k5 0 0) : Snd XX12_partsOf fIH 14 (BX12_partsOf_14 k5) (0) (0) := by
  unfold BX12_partsOf_14
  refine s_cal0 17 (run_S (X := XX12_partsOf) yoX12_first tw_1726 tw_1727 (by decide) dX12_partsOf_14) cmX12_first (fun _ _ _ => rfl) rfl ?_
  exact s_pick (sBX12_partsOf_17 hk5)
def BX12_partsOf_5 (k5 : KT (Int32 × HP)) : KT (Int32 × HP) :=
  oLld 3 (oConst (.long 0) (olcmp (oIfeq (oIld 5 (oIretH)) (oAld 0 (oLld 3 (oLld 3 (oPick [0, 3, 5] (BX12_partsOf_14 k5))))))))
set_option maxRecDepth 20000 in
theorem sBX12_partsOf_5 {k5 : KT (Int32 × HP)} (hk5 : Snd XX12_partsOf fIH 5 k5 0 0) : Snd XX12_partsOf fIH 5 (BX12_partsOf_5 k5) (0) (0) := by
  unfold BX12_partsOf_5
  refine s_Lldn 3 rfl 6 dX12_partsOf_5 rfl ?_
  refine s_lconst 7 0 (by decide) dX12_partsOf_6 rfl ?_
  refine s_lcmp 8 dX12_partsOf_7 rfl ?_
  refine s_ifeq 70 11 dX12_partsOf_8 (by decide) rfl ?_ ?_
  · refine s_Ild 5 72 dX12_partsOf_70 rfl ?_
    exact s_iretH rfl dX12_partsOf_72
  · refine s_Aldn 0 rfl 12 dX12_partsOf_11 rfl ?_
    refine s_Lldn 3 rfl 13 dX12_partsOf_12 rfl ?_
    refine s_Lldn 3 rfl 14 dX12_partsOf_13 rfl ?_
    exact s_pick (sBX12_partsOf_14 hk5)
def BX12_partsOf_0 : KT (Int32 × HP) :=
  oLld 1 (oLst 3 (oConst (.int 0) (oIst 5 (oPick [0, 3, 5] (lp (BX12_partsOf_5) FU)))))
set_option maxRecDepth 20000 in
theorem sBX12_partsOf_0 : Snd XX12_partsOf fIH 0 (BX12_partsOf_0) (0) (0) := by
  unfold BX12_partsOf_0
  refine s_Lldn 1 rfl 1 dX12_partsOf_0 rfl ?_
  refine s_Lstn 3 rfl 2 (by decide) dX12_partsOf_1 rfl ?_
  refine s_iconst 3 0 (by decide) dX12_partsOf_2 rfl ?_
  refine s_Ist 5 5 (by decide) dX12_partsOf_3 rfl ?_
  exact s_pick (s_lp (fun k hk => sBX12_partsOf_5  hk) FU)
def EX12_partsOf : List Value → HP → Option (Int32 × HP) := en 7 BX12_partsOf_0
theorem cmX12_partsOf : CM XX12_partsOf EX12_partsOf fIH 0 0 := CM.of rfl (by decide) rfl rfl sBX12_partsOf_0
theorem yoX12_partsOf : YO XX12_partsOf 1 0 0 := ⟨tw_1725, rfl, tw_12, (by decide +kernel), rfl, rfl⟩
abbrev XX12_splitsAt : MX := (yX12_splitsAt, cX12_splitsAt, 2, (Option.some .boolean), Cond.code yX12_splitsAt cX12_splitsAt 2 (Option.some .boolean) :: WS, { frames := 4, cells := 0, slots := 0, locals := 96 })
def BX12_splitsAt_32 : KT (Bool × HP) :=
  oCal 2 (some 12) EX12_partsOf fIH (oCmple (oConst (.int 0) (oZretH)) (oConst (.int 1) (oZretH)))
set_option maxRecDepth 20000 in
theorem sBX12_splitsAt_32 : Snd XX12_splitsAt fZH 32 (BX12_splitsAt_32) (0) (0) := by
  unfold BX12_splitsAt_32
  refine s_cal0 35 (run_V (X := XX12_splitsAt) rfl clX12 yoX12_partsOf rfl tw_1722 tw_1724 tw_p80 (by decide) dX12_splitsAt_32) cmX12_partsOf (fun _ _ _ => rfl) rfl ?_
  refine s_cmple 42 38 dX12_splitsAt_35 (by decide) rfl ?_ ?_
  · refine s_iconst 43 0 (by decide) dX12_splitsAt_42 rfl ?_
    exact s_zretH rfl dX12_splitsAt_43
  · refine s_iconst 39 1 (by decide) dX12_splitsAt_38 rfl ?_
    refine s_goto 43 dX12_splitsAt_39 (by decide) ?_
    exact s_zretH rfl dX12_splitsAt_43
def BX12_splitsAt_24 : KT (Bool × HP) :=
  oCal 2 (some 12) EX12_partsOf fIH (oAld 0 (oAld 0 (oGet 12 20 (oPick [] (BX12_splitsAt_32)))))
set_option maxRecDepth 20000 in
theorem sBX12_splitsAt_24 : Snd XX12_splitsAt fZH 24 (BX12_splitsAt_24) (0) (0) := by
  unfold BX12_splitsAt_24
  refine s_cal0 27 (run_V (X := XX12_splitsAt) rfl clX12 yoX12_partsOf rfl tw_1722 tw_1724 tw_p80 (by decide) dX12_splitsAt_24) cmX12_partsOf (fun _ _ _ => rfl) rfl ?_
  refine s_Aldn 0 rfl 28 dX12_splitsAt_27 rfl ?_
  refine s_Aldn 0 rfl 29 dX12_splitsAt_28 rfl ?_
  refine s_get 12 20 32 clX12 (by decide) tw_1308 dX12_splitsAt_29 rfl ?_
  exact s_pick (sBX12_splitsAt_32)
def BX12_splitsAt_5 : KT (Bool × HP) :=
  oCal 2 none EX12_has fZ (oIfeq (oConst (.int 0) (oZretH)) (oAld 0 (oAld 0 (oGet 12 20 (oConst (.long 1) (oIld 1 (olshl (oConst (.long (-1)) (olxor (oland (oPick [0] (BX12_splitsAt_24))))))))))))
set_option maxRecDepth 20000 in
theorem sBX12_splitsAt_5 : Snd XX12_splitsAt fZH 5 (BX12_splitsAt_5) (0) (0) := by
  unfold BX12_splitsAt_5
  refine s_cal0 8 (run_S (X := XX12_splitsAt) yoX12_has tw_1628 tw_1629 (by decide) dX12_splitsAt_5) cmX12_has (fun _ _ _ => rfl) rfl ?_
  refine s_ifeq 42 11 dX12_splitsAt_8 (by decide) rfl ?_ ?_
  · refine s_iconst 43 0 (by decide) dX12_splitsAt_42 rfl ?_
    exact s_zretH rfl dX12_splitsAt_43
  · refine s_Aldn 0 rfl 12 dX12_splitsAt_11 rfl ?_
    refine s_Aldn 0 rfl 13 dX12_splitsAt_12 rfl ?_
    refine s_get 12 20 16 clX12 (by decide) tw_1308 dX12_splitsAt_13 rfl ?_
    refine s_lconst 17 1 (by decide) dX12_splitsAt_16 rfl ?_
    refine s_Ildn 1 rfl 18 dX12_splitsAt_17 rfl ?_
    refine s_lshl 19 dX12_splitsAt_18 rfl ?_
    refine s_ldc2 22 (-1) tw_1734 dX12_splitsAt_19 rfl ?_
    refine s_lxor 23 dX12_splitsAt_22 rfl ?_
    refine s_land 24 dX12_splitsAt_23 rfl ?_
    exact s_pick (sBX12_splitsAt_24)
def BX12_splitsAt_0 : KT (Bool × HP) :=
  oAld 0 (oGet 12 20 (oIld 1 (oPick [0, 1] (BX12_splitsAt_5))))
set_option maxRecDepth 20000 in
theorem sBX12_splitsAt_0 : Snd XX12_splitsAt fZH 0 (BX12_splitsAt_0) (0) (0) := by
  unfold BX12_splitsAt_0
  refine s_Aldn 0 rfl 1 dX12_splitsAt_0 rfl ?_
  refine s_get 12 20 4 clX12 (by decide) tw_1308 dX12_splitsAt_1 rfl ?_
  refine s_Ildn 1 rfl 5 dX12_splitsAt_4 rfl ?_
  exact s_pick (sBX12_splitsAt_5)
def EX12_splitsAt : List Value → HP → Option (Bool × HP) := en 2 BX12_splitsAt_0
theorem cmX12_splitsAt : CM XX12_splitsAt EX12_splitsAt fZH 0 0 := CM.of rfl (by decide) rfl rfl sBX12_splitsAt_0
theorem yoX12_splitsAt : YO XX12_splitsAt 1 0 0 := ⟨tw_1762, rfl, tw_12, (by decide +kernel), rfl, rfl⟩
abbrev XX12_isCell : MX := (yX12_isCell, cX12_isCell, 3, (Option.some .boolean), Cond.code yX12_isCell cX12_isCell 3 (Option.some .boolean) :: WS, { frames := 1, cells := 0, slots := 0, locals := 22 })
def BX12_isCell_35 : KT Bool :=
  oCal 3 none EX12_in fZ (oIfeq (oConst (.int 0) (oZretP)) (oConst (.int 1) (oZretP)))
set_option maxRecDepth 20000 in
theorem sBX12_isCell_35 : Snd XX12_isCell fZ 35 (BX12_isCell_35) (0) (0) := by
  unfold BX12_isCell_35
  refine s_cal0 38 (run_S (X := XX12_isCell) yoX12_in tw_1589 tw_1590 (by decide) dX12_isCell_35) cmX12_in (fun _ _ _ => rfl) rfl ?_
  refine s_ifeq 45 41 dX12_isCell_38 (by decide) rfl ?_ ?_
  · refine s_iconst 46 0 (by decide) dX12_isCell_45 rfl ?_
    exact s_zretP rfl dX12_isCell_46
  · refine s_iconst 42 1 (by decide) dX12_isCell_41 rfl ?_
    refine s_goto 46 dX12_isCell_42 (by decide) ?_
    exact s_zretP rfl dX12_isCell_46
def BX12_isCell_18 : KT Bool :=
  oCal 3 none EX12_in fZ (oIfeq (oConst (.int 0) (oZretP)) (oIld 2 (oConst (.int 0) (oAld 0 (oGet 12 3 (oGet 11 1 (oConst (.int 1) (oisub (oPick [] (BX12_isCell_35))))))))))
set_option maxRecDepth 20000 in
theorem sBX12_isCell_18 : Snd XX12_isCell fZ 18 (BX12_isCell_18) (0) (0) := by
  unfold BX12_isCell_18
  refine s_cal0 21 (run_S (X := XX12_isCell) yoX12_in tw_1589 tw_1590 (by decide) dX12_isCell_18) cmX12_in (fun _ _ _ => rfl) rfl ?_
  refine s_ifeq 45 24 dX12_isCell_21 (by decide) rfl ?_ ?_
  · refine s_iconst 46 0 (by decide) dX12_isCell_45 rfl ?_
    exact s_zretP rfl dX12_isCell_46
  · refine s_Ildn 2 rfl 25 dX12_isCell_24 rfl ?_
    refine s_iconst 26 0 (by decide) dX12_isCell_25 rfl ?_
    refine s_Aldn 0 rfl 27 dX12_isCell_26 rfl ?_
    refine s_get 12 3 30 clX12 (by decide) tw_1291 dX12_isCell_27 rfl ?_
    refine s_getN 11 1 33 clX11 (by decide) nw_43 dX12_isCell_30 rfl ?_
    refine s_iconst 34 1 (by decide) dX12_isCell_33 rfl ?_
    refine s_isub 35 dX12_isCell_34 rfl ?_
    exact s_pick (sBX12_isCell_35)
def BX12_isCell_0 : KT Bool :=
  oAld 0 (oGet 12 3 (oNul (oConst (.int 0) (oZretP)) (oIld 1 (oConst (.int 0) (oAld 0 (oGet 12 3 (oGet 11 0 (oConst (.int 1) (oisub (oPick [0, 2] (BX12_isCell_18)))))))))))
set_option maxRecDepth 20000 in
theorem sBX12_isCell_0 : Snd XX12_isCell fZ 0 (BX12_isCell_0) (0) (0) := by
  unfold BX12_isCell_0
  refine s_Aldn 0 rfl 1 dX12_isCell_0 rfl ?_
  refine s_get 12 3 4 clX12 (by decide) tw_1291 dX12_isCell_1 rfl ?_
  refine s_ifnull 45 7 dX12_isCell_4 (by decide) rfl ?_ ?_
  · refine s_iconst 46 0 (by decide) dX12_isCell_45 rfl ?_
    exact s_zretP rfl dX12_isCell_46
  · refine s_Ildn 1 rfl 8 dX12_isCell_7 rfl ?_
    refine s_iconst 9 0 (by decide) dX12_isCell_8 rfl ?_
    refine s_Aldn 0 rfl 10 dX12_isCell_9 rfl ?_
    refine s_get 12 3 13 clX12 (by decide) tw_1291 dX12_isCell_10 rfl ?_
    refine s_getN 11 0 16 clX11 (by decide) nw_42 dX12_isCell_13 rfl ?_
    refine s_iconst 17 1 (by decide) dX12_isCell_16 rfl ?_
    refine s_isub 18 dX12_isCell_17 rfl ?_
    exact s_pick (sBX12_isCell_18)
def EX12_isCell : List Value → HP → Option Bool := en 3 BX12_isCell_0
theorem cmX12_isCell : CM XX12_isCell EX12_isCell fZ 0 0 := CM.of rfl (by decide) rfl rfl sBX12_isCell_0
theorem yoX12_isCell : YO XX12_isCell 2 0 0 := ⟨tw_1697, rfl, tw_12, (by decide +kernel), rfl, rfl⟩
abbrev XX12_cellOf : MX := (yX12_cellOf, cX12_cellOf, 3, (Option.some .int), Cond.code yX12_cellOf cX12_cellOf 3 (Option.some .int) :: WS, { frames := 0, cells := 0, slots := 0, locals := 0 })
def BX12_cellOf_0 : KT Int32 :=
  oAld 0 (oGet 12 3 (oGet 11 0 (oIld 2 (oimul (oIld 1 (oiadd (oIretP)))))))
set_option maxRecDepth 20000 in
theorem sBX12_cellOf_0 : Snd XX12_cellOf fI 0 (BX12_cellOf_0) (0) (0) := by
  unfold BX12_cellOf_0
  refine s_Aldn 0 rfl 1 dX12_cellOf_0 rfl ?_
  refine s_get 12 3 4 clX12 (by decide) tw_1291 dX12_cellOf_1 rfl ?_
  refine s_getN 11 0 7 clX11 (by decide) nw_42 dX12_cellOf_4 rfl ?_
  refine s_Ildn 2 rfl 8 dX12_cellOf_7 rfl ?_
  refine s_imul 9 dX12_cellOf_8 rfl ?_
  refine s_Ildn 1 rfl 10 dX12_cellOf_9 rfl ?_
  refine s_iadd 11 dX12_cellOf_10 rfl ?_
  exact s_iretP rfl dX12_cellOf_11
def EX12_cellOf : List Value → HP → Option Int32 := en 3 BX12_cellOf_0
theorem cmX12_cellOf : CM XX12_cellOf EX12_cellOf fI 0 0 := CM.of rfl (by decide) rfl rfl sBX12_cellOf_0
theorem yoX12_cellOf : YO XX12_cellOf 2 0 0 := ⟨tw_1701, rfl, tw_12, (by decide +kernel), rfl, rfl⟩
abbrev XX12_isNumber : MX := (yX12_isNumber, cX12_isNumber, 2, (Option.some .boolean), Cond.code yX12_isNumber cX12_isNumber 2 (Option.some .boolean) :: WS, { frames := 1, cells := 0, slots := 0, locals := 20 })
def BX12_isNumber_0 : KT Bool :=
  oAld 0 (oGet 12 3 (oNul (oConst (.int 0) (oZretP)) (oIld 1 (oIflt (oConst (.int 0) (oZretP)) (oIld 1 (oAld 0 (oGet 12 3 (oCal 1 (some 11) EX11_cells fI (oCmpge (oConst (.int 0) (oZretP)) (oConst (.int 1) (oZretP)))))))))))
set_option maxRecDepth 20000 in
theorem sBX12_isNumber_0 : Snd XX12_isNumber fZ 0 (BX12_isNumber_0) (0) (0) := by
  unfold BX12_isNumber_0
  refine s_Aldn 0 rfl 1 dX12_isNumber_0 rfl ?_
  refine s_get 12 3 4 clX12 (by decide) tw_1291 dX12_isNumber_1 rfl ?_
  refine s_ifnull 26 7 dX12_isNumber_4 (by decide) rfl ?_ ?_
  · refine s_iconst 27 0 (by decide) dX12_isNumber_26 rfl ?_
    exact s_zretP rfl dX12_isNumber_27
  · refine s_Ildn 1 rfl 8 dX12_isNumber_7 rfl ?_
    refine s_iflt 26 11 dX12_isNumber_8 (by decide) rfl ?_ ?_
    · refine s_iconst 27 0 (by decide) dX12_isNumber_26 rfl ?_
      exact s_zretP rfl dX12_isNumber_27
    · refine s_Ildn 1 rfl 12 dX12_isNumber_11 rfl ?_
      refine s_Aldn 0 rfl 13 dX12_isNumber_12 rfl ?_
      refine s_get 12 3 16 clX12 (by decide) tw_1291 dX12_isNumber_13 rfl ?_
      refine s_cal0 19 (run_V (X := XX12_isNumber) rfl clX11 yoX11_cells rfl tw_1733 tw_1715 tw_1716 (by decide) dX12_isNumber_16) cmX11_cells (fun _ _ _ => rfl) rfl ?_
      refine s_cmpge 26 22 dX12_isNumber_19 (by decide) rfl ?_ ?_
      · refine s_iconst 27 0 (by decide) dX12_isNumber_26 rfl ?_
        exact s_zretP rfl dX12_isNumber_27
      · refine s_iconst 23 1 (by decide) dX12_isNumber_22 rfl ?_
        refine s_goto 27 dX12_isNumber_23 (by decide) ?_
        exact s_zretP rfl dX12_isNumber_27
def EX12_isNumber : List Value → HP → Option Bool := en 2 BX12_isNumber_0
theorem cmX12_isNumber : CM XX12_isNumber EX12_isNumber fZ 0 0 := CM.of rfl (by decide) rfl rfl sBX12_isNumber_0
theorem yoX12_isNumber : YO XX12_isNumber 1 0 0 := ⟨tw_1750, rfl, tw_12, (by decide +kernel), rfl, rfl⟩
abbrev XX12_isWalker : MX := (yX12_isWalker, cX12_isWalker, 2, (Option.some .boolean), Cond.code yX12_isWalker cX12_isWalker 2 (Option.some .boolean) :: WS, { frames := 0, cells := 0, slots := 0, locals := 0 })
def BX12_isWalker_0 : KT Bool :=
  oAld 0 (oGet 12 3 (oNul (oConst (.int 0) (oZretP)) (oIld 1 (oIflt (oConst (.int 0) (oZretP)) (oIld 1 (oAld 0 (oGet 12 3 (oGet 11 10 (oCmpge (oConst (.int 0) (oZretP)) (oConst (.int 1) (oZretP)))))))))))
set_option maxRecDepth 20000 in
theorem sBX12_isWalker_0 : Snd XX12_isWalker fZ 0 (BX12_isWalker_0) (0) (0) := by
  unfold BX12_isWalker_0
  refine s_Aldn 0 rfl 1 dX12_isWalker_0 rfl ?_
  refine s_get 12 3 4 clX12 (by decide) tw_1291 dX12_isWalker_1 rfl ?_
  refine s_ifnull 26 7 dX12_isWalker_4 (by decide) rfl ?_ ?_
  · refine s_iconst 27 0 (by decide) dX12_isWalker_26 rfl ?_
    exact s_zretP rfl dX12_isWalker_27
  · refine s_Ildn 1 rfl 8 dX12_isWalker_7 rfl ?_
    refine s_iflt 26 11 dX12_isWalker_8 (by decide) rfl ?_ ?_
    · refine s_iconst 27 0 (by decide) dX12_isWalker_26 rfl ?_
      exact s_zretP rfl dX12_isWalker_27
    · refine s_Ildn 1 rfl 12 dX12_isWalker_11 rfl ?_
      refine s_Aldn 0 rfl 13 dX12_isWalker_12 rfl ?_
      refine s_get 12 3 16 clX12 (by decide) tw_1291 dX12_isWalker_13 rfl ?_
      refine s_getN 11 10 19 clX11 (by decide) nw_52 dX12_isWalker_16 rfl ?_
      refine s_cmpge 26 22 dX12_isWalker_19 (by decide) rfl ?_ ?_
      · refine s_iconst 27 0 (by decide) dX12_isWalker_26 rfl ?_
        exact s_zretP rfl dX12_isWalker_27
      · refine s_iconst 23 1 (by decide) dX12_isWalker_22 rfl ?_
        refine s_goto 27 dX12_isWalker_23 (by decide) ?_
        exact s_zretP rfl dX12_isWalker_27
def EX12_isWalker : List Value → HP → Option Bool := en 2 BX12_isWalker_0
theorem cmX12_isWalker : CM XX12_isWalker EX12_isWalker fZ 0 0 := CM.of rfl (by decide) rfl rfl sBX12_isWalker_0
theorem yoX12_isWalker : YO XX12_isWalker 1 0 0 := ⟨tw_1770, rfl, tw_12, (by decide +kernel), rfl, rfl⟩
abbrev XX12_mown : MX := (yX12_mown, cX12_mown, 3, (Option.some .int), Cond.code yX12_mown cX12_mown 3 (Option.some .int) :: WS, { frames := 2, cells := 0, slots := 0, locals := 44 })
def BX12_mown_25 : KT (Int32 × HP) :=
  oCal 2 none EX12_has fZ (oIfeq (oConst (.int 0) (oCal 2 (some 12) EX12_good fIH (oIretH))) (oConst (.int 1) (oCal 2 (some 12) EX12_good fIH (oIretH))))
set_option maxRecDepth 20000 in
theorem sBX12_mown_25 : Snd XX12_mown fIH 25 (BX12_mown_25) (0) (0) := by
  unfold BX12_mown_25
  refine s_cal0 28 (run_S (X := XX12_mown) yoX12_has tw_1628 tw_1629 (by decide) dX12_mown_25) cmX12_has (fun _ _ _ => rfl) rfl ?_
  refine s_ifeq 35 31 dX12_mown_28 (by decide) rfl ?_ ?_
  · refine s_iconst 36 0 (by decide) dX12_mown_35 rfl ?_
    refine s_cal0 39 (run_V (X := XX12_mown) rfl clX12 yoX12_good rfl tw_1678 tw_1680 tw_p76 (by decide) dX12_mown_36) cmX12_good (fun _ _ _ => rfl) rfl ?_
    refine s_goto 47 dX12_mown_39 (by decide) ?_
    exact s_iretH rfl dX12_mown_47
  · refine s_iconst 32 1 (by decide) dX12_mown_31 rfl ?_
    refine s_goto 36 dX12_mown_32 (by decide) ?_
    refine s_cal0 39 (run_V (X := XX12_mown) rfl clX12 yoX12_good rfl tw_1678 tw_1680 tw_p76 (by decide) dX12_mown_36) cmX12_good (fun _ _ _ => rfl) rfl ?_
    refine s_goto 47 dX12_mown_39 (by decide) ?_
    exact s_iretH rfl dX12_mown_47
def BX12_mown_8 : KT (Int32 × HP) :=
  oCal 3 (some 12) EX12_isCell fZ (oIfeq (oAld 0 (oConst (.int 1) (oCal 2 (some 12) EX12_refused fIH (oIretH)))) (oAld 0 (oAld 0 (oGet 12 20 (oAld 0 (oIld 1 (oIld 2 (oCal 3 (some 12) EX12_cellOf fI (oPick [] (BX12_mown_25))))))))))
set_option maxRecDepth 20000 in
theorem sBX12_mown_8 : Snd XX12_mown fIH 8 (BX12_mown_8) (0) (0) := by
  unfold BX12_mown_8
  refine s_cal0 11 (run_V (X := XX12_mown) rfl clX12 yoX12_isCell rfl tw_1694 tw_1696 tw_p77 (by decide) dX12_mown_8) cmX12_isCell (fun _ _ _ => rfl) rfl ?_
  refine s_ifeq 42 14 dX12_mown_11 (by decide) rfl ?_ ?_
  · refine s_Aldn 0 rfl 43 dX12_mown_42 rfl ?_
    refine s_iconst 44 1 (by decide) dX12_mown_43 rfl ?_
    refine s_cal0 47 (run_V (X := XX12_mown) rfl clX12 yoX12_refused rfl tw_1430 tw_1432 tw_p50 (by decide) dX12_mown_44) cmX12_refused (fun _ _ _ => rfl) rfl ?_
    exact s_iretH rfl dX12_mown_47
  · refine s_Aldn 0 rfl 15 dX12_mown_14 rfl ?_
    refine s_Aldn 0 rfl 16 dX12_mown_15 rfl ?_
    refine s_get 12 20 19 clX12 (by decide) tw_1308 dX12_mown_16 rfl ?_
    refine s_Aldn 0 rfl 20 dX12_mown_19 rfl ?_
    refine s_Ildn 1 rfl 21 dX12_mown_20 rfl ?_
    refine s_Ildn 2 rfl 22 dX12_mown_21 rfl ?_
    refine s_cal0 25 (run_V (X := XX12_mown) rfl clX12 yoX12_cellOf rfl tw_1698 tw_1700 tw_p78 (by decide) dX12_mown_22) cmX12_cellOf (fun _ _ _ => rfl) rfl ?_
    exact s_pick (sBX12_mown_25)
def BX12_mown_0 : KT (Int32 × HP) :=
  oAld 0 (oConst (.int 0) (oPut 12 0 .int (oAld 0 (oIld 1 (oIld 2 (oPick [0, 1, 2] (BX12_mown_8)))))))
set_option maxRecDepth 20000 in
theorem sBX12_mown_0 : Snd XX12_mown fIH 0 (BX12_mown_0) (0) (0) := by
  unfold BX12_mown_0
  refine s_Aldn 0 rfl 1 dX12_mown_0 rfl ?_
  refine s_iconst 2 0 (by decide) dX12_mown_1 rfl ?_
  refine s_put 12 0 5 clX12 (by decide) rfl rfl pIH tw_1288 dX12_mown_2 rfl ?_
  refine s_Aldn 0 rfl 6 dX12_mown_5 rfl ?_
  refine s_Ildn 1 rfl 7 dX12_mown_6 rfl ?_
  refine s_Ildn 2 rfl 8 dX12_mown_7 rfl ?_
  exact s_pick (sBX12_mown_8)
def EX12_mown : List Value → HP → Option (Int32 × HP) := en 3 BX12_mown_0
theorem cmX12_mown : CM XX12_mown EX12_mown fIH 0 0 := CM.of rfl (by decide) rfl rfl sBX12_mown_0
theorem yoX12_mown : YO XX12_mown 2 0 0 := ⟨tw_1693, rfl, tw_12, (by decide +kernel), rfl, rfl⟩
abbrev XX12_beside : MX := (yX12_beside, cX12_beside, 3, (Option.some .int), Cond.code yX12_beside cX12_beside 3 (Option.some .int) :: WS, { frames := 3, cells := 0, slots := 0, locals := 70 })
def BX12_beside_29 : KT (Int32 × HP) :=
  oCal 1 none EX12_bits fI (oCal 2 (some 12) EX12_good fIH (oIretH))
set_option maxRecDepth 20000 in
theorem sBX12_beside_29 : Snd XX12_beside fIH 29 (BX12_beside_29) (0) (0) := by
  unfold BX12_beside_29
  refine s_cal0 32 (run_S (X := XX12_beside) yoX12_bits tw_1675 tw_1676 (by decide) dX12_beside_29) cmX12_bits (fun _ _ _ => rfl) rfl ?_
  refine s_cal0 35 (run_V (X := XX12_beside) rfl clX12 yoX12_good rfl tw_1678 tw_1680 tw_p76 (by decide) dX12_beside_32) cmX12_good (fun _ _ _ => rfl) rfl ?_
  refine s_goto 43 dX12_beside_35 (by decide) ?_
  exact s_iretH rfl dX12_beside_43
def BX12_beside_26 : KT (Int32 × HP) :=
  oCal 3 (some 12) EX12_besideOf fL (oPick [] (BX12_beside_29))
set_option maxRecDepth 20000 in
theorem sBX12_beside_26 : Snd XX12_beside fIH 26 (BX12_beside_26) (0) (0) := by
  unfold BX12_beside_26
  refine s_cal0 29 (run_V (X := XX12_beside) rfl clX12 yoX12_besideOf rfl tw_1706 tw_1708 tw_p79 (by decide) dX12_beside_26) cmX12_besideOf (fun _ _ _ => rfl) rfl ?_
  exact s_pick (sBX12_beside_29)
def BX12_beside_8 : KT (Int32 × HP) :=
  oCal 3 (some 12) EX12_isCell fZ (oIfeq (oAld 0 (oConst (.int 1) (oCal 2 (some 12) EX12_refused fIH (oIretH)))) (oAld 0 (oAld 0 (oAld 0 (oGet 12 20 (oAld 0 (oIld 1 (oIld 2 (oCal 3 (some 12) EX12_cellOf fI (oPick [] (BX12_beside_26)))))))))))
set_option maxRecDepth 20000 in
theorem sBX12_beside_8 : Snd XX12_beside fIH 8 (BX12_beside_8) (0) (0) := by
  unfold BX12_beside_8
  refine s_cal0 11 (run_V (X := XX12_beside) rfl clX12 yoX12_isCell rfl tw_1694 tw_1696 tw_p77 (by decide) dX12_beside_8) cmX12_isCell (fun _ _ _ => rfl) rfl ?_
  refine s_ifeq 38 14 dX12_beside_11 (by decide) rfl ?_ ?_
  · refine s_Aldn 0 rfl 39 dX12_beside_38 rfl ?_
    refine s_iconst 40 1 (by decide) dX12_beside_39 rfl ?_
    refine s_cal0 43 (run_V (X := XX12_beside) rfl clX12 yoX12_refused rfl tw_1430 tw_1432 tw_p50 (by decide) dX12_beside_40) cmX12_refused (fun _ _ _ => rfl) rfl ?_
    exact s_iretH rfl dX12_beside_43
  · refine s_Aldn 0 rfl 15 dX12_beside_14 rfl ?_
    refine s_Aldn 0 rfl 16 dX12_beside_15 rfl ?_
    refine s_Aldn 0 rfl 17 dX12_beside_16 rfl ?_
    refine s_get 12 20 20 clX12 (by decide) tw_1308 dX12_beside_17 rfl ?_
    refine s_Aldn 0 rfl 21 dX12_beside_20 rfl ?_
    refine s_Ildn 1 rfl 22 dX12_beside_21 rfl ?_
    refine s_Ildn 2 rfl 23 dX12_beside_22 rfl ?_
    refine s_cal0 26 (run_V (X := XX12_beside) rfl clX12 yoX12_cellOf rfl tw_1698 tw_1700 tw_p78 (by decide) dX12_beside_23) cmX12_cellOf (fun _ _ _ => rfl) rfl ?_
    exact s_pick (sBX12_beside_26)
def BX12_beside_0 : KT (Int32 × HP) :=
  oAld 0 (oConst (.int 0) (oPut 12 0 .int (oAld 0 (oIld 1 (oIld 2 (oPick [0, 1, 2] (BX12_beside_8)))))))
set_option maxRecDepth 20000 in
theorem sBX12_beside_0 : Snd XX12_beside fIH 0 (BX12_beside_0) (0) (0) := by
  unfold BX12_beside_0
  refine s_Aldn 0 rfl 1 dX12_beside_0 rfl ?_
  refine s_iconst 2 0 (by decide) dX12_beside_1 rfl ?_
  refine s_put 12 0 5 clX12 (by decide) rfl rfl pIH tw_1288 dX12_beside_2 rfl ?_
  refine s_Aldn 0 rfl 6 dX12_beside_5 rfl ?_
  refine s_Ildn 1 rfl 7 dX12_beside_6 rfl ?_
  refine s_Ildn 2 rfl 8 dX12_beside_7 rfl ?_
  exact s_pick (sBX12_beside_8)
def EX12_beside : List Value → HP → Option (Int32 × HP) := en 3 BX12_beside_0
theorem cmX12_beside : CM XX12_beside EX12_beside fIH 0 0 := CM.of rfl (by decide) rfl rfl sBX12_beside_0
theorem yoX12_beside : YO XX12_beside 2 0 0 := ⟨tw_1705, rfl, tw_12, (by decide +kernel), rfl, rfl⟩
abbrev XX12_parts : MX := (yX12_parts, cX12_parts, 1, (Option.some .int), Cond.code yX12_parts cX12_parts 1 (Option.some .int) :: WS, { frames := 4, cells := 0, slots := 0, locals := 96 })
def BX12_parts_26 : KT (Int32 × HP) :=
  oCal 2 (some 12) EX12_partsOf fIH (oCal 2 (some 12) EX12_good fIH (oIretH))
set_option maxRecDepth 20000 in
theorem sBX12_parts_26 : Snd XX12_parts fIH 26 (BX12_parts_26) (0) (0) := by
  unfold BX12_parts_26
  refine s_cal0 29 (run_V (X := XX12_parts) rfl clX12 yoX12_partsOf rfl tw_1722 tw_1724 tw_p80 (by decide) dX12_parts_26) cmX12_partsOf (fun _ _ _ => rfl) rfl ?_
  refine s_cal0 32 (run_V (X := XX12_parts) rfl clX12 yoX12_good rfl tw_1678 tw_1680 tw_p76 (by decide) dX12_parts_29) cmX12_good (fun _ _ _ => rfl) rfl ?_
  exact s_iretH rfl dX12_parts_32
def BX12_parts_0 : KT (Int32 × HP) :=
  oAld 0 (oConst (.int 0) (oPut 12 0 .int (oAld 0 (oGet 12 3 (oNul (oAld 0 (oConst (.int 1) (oCal 2 (some 12) EX12_refused fIH (oIretH)))) (oAld 0 (oAld 0 (oAld 0 (oGet 12 20 (oPick [] (BX12_parts_26)))))))))))
set_option maxRecDepth 20000 in
theorem sBX12_parts_0 : Snd XX12_parts fIH 0 (BX12_parts_0) (0) (0) := by
  unfold BX12_parts_0
  refine s_Aldn 0 rfl 1 dX12_parts_0 rfl ?_
  refine s_iconst 2 0 (by decide) dX12_parts_1 rfl ?_
  refine s_put 12 0 5 clX12 (by decide) rfl rfl pIH tw_1288 dX12_parts_2 rfl ?_
  refine s_Aldn 0 rfl 6 dX12_parts_5 rfl ?_
  refine s_get 12 3 9 clX12 (by decide) tw_1291 dX12_parts_6 rfl ?_
  refine s_ifnonnull 20 12 dX12_parts_9 (by decide) rfl ?_ ?_
  · refine s_Aldn 0 rfl 21 dX12_parts_20 rfl ?_
    refine s_Aldn 0 rfl 22 dX12_parts_21 rfl ?_
    refine s_Aldn 0 rfl 23 dX12_parts_22 rfl ?_
    refine s_get 12 20 26 clX12 (by decide) tw_1308 dX12_parts_23 rfl ?_
    exact s_pick (sBX12_parts_26)
  · refine s_Aldn 0 rfl 13 dX12_parts_12 rfl ?_
    refine s_iconst 14 1 (by decide) dX12_parts_13 rfl ?_
    refine s_cal0 17 (run_V (X := XX12_parts) rfl clX12 yoX12_refused rfl tw_1430 tw_1432 tw_p50 (by decide) dX12_parts_14) cmX12_refused (fun _ _ _ => rfl) rfl ?_
    refine s_goto 32 dX12_parts_17 (by decide) ?_
    exact s_iretH rfl dX12_parts_32
def EX12_parts : List Value → HP → Option (Int32 × HP) := en 1 BX12_parts_0
theorem cmX12_parts : CM XX12_parts EX12_parts fIH 0 0 := CM.of rfl (by decide) rfl rfl sBX12_parts_0
theorem yoX12_parts : YO XX12_parts 0 0 0 := ⟨tw_1721, rfl, tw_12, (by decide +kernel), rfl, rfl⟩
abbrev XX12_rings : MX := (yX12_rings, cX12_rings, 3, (Option.some .int), Cond.code yX12_rings cX12_rings 3 (Option.some .int) :: WS, { frames := 4, cells := 0, slots := 0, locals := 96 })
def BX12_rings_86 : KT (Int32 × HP) :=
  oCal 2 (some 12) EX12_partsOf fIH (oiadd (oCal 2 (some 12) EX12_good fIH (oIretH)))
set_option maxRecDepth 20000 in
theorem sBX12_rings_86 : Snd XX12_rings fIH 86 (BX12_rings_86) (0) (0) := by
  unfold BX12_rings_86
  refine s_cal0 89 (run_V (X := XX12_rings) rfl clX12 yoX12_partsOf rfl tw_1722 tw_1724 tw_p80 (by decide) dX12_rings_86) cmX12_partsOf (fun _ _ _ => rfl) rfl ?_
  refine s_iadd 90 dX12_rings_89 rfl ?_
  refine s_cal0 93 (run_V (X := XX12_rings) rfl clX12 yoX12_good rfl tw_1678 tw_1680 tw_p76 (by decide) dX12_rings_90) cmX12_good (fun _ _ _ => rfl) rfl ?_
  exact s_iretH rfl dX12_rings_93
def BX12_rings_77 : KT (Int32 × HP) :=
  oCal 1 none EX12_bits fI (oisub (oAld 0 (oAld 0 (oGet 12 20 (oPick [] (BX12_rings_86))))))
set_option maxRecDepth 20000 in
theorem sBX12_rings_77 : Snd XX12_rings fIH 77 (BX12_rings_77) (0) (0) := by
  unfold BX12_rings_77
  refine s_cal0 80 (run_S (X := XX12_rings) yoX12_bits tw_1675 tw_1676 (by decide) dX12_rings_77) cmX12_bits (fun _ _ _ => rfl) rfl ?_
  refine s_isub 81 dX12_rings_80 rfl ?_
  refine s_Aldn 0 rfl 82 dX12_rings_81 rfl ?_
  refine s_Aldn 0 rfl 83 dX12_rings_82 rfl ?_
  refine s_get 12 20 86 clX12 (by decide) tw_1308 dX12_rings_83 rfl ?_
  exact s_pick (sBX12_rings_86)
def BX12_rings_54 (k22 : KT (Int32 × HP)) : KT (Int32 × HP) :=
  oCal 1 none EX12_bits fI (oiadd (oIst 1 (oInc 2 1 (oPick [0, 1, 2] k22))))
set_option maxRecDepth 20000 in
theorem sBX12_rings_54 {k22 : KT (Int32 × HP)} (hk22 : Snd XX12_rings fIH 22 k22 0 0) : Snd XX12_rings fIH 54 (BX12_rings_54 k22) (0) (0) := by
  unfold BX12_rings_54
  refine s_cal0 57 (run_S (X := XX12_rings) yoX12_bits tw_1675 tw_1676 (by decide) dX12_rings_54) cmX12_bits (fun _ _ _ => rfl) rfl ?_
  refine s_goto 61 dX12_rings_57 (by decide) ?_
  refine s_iadd 62 dX12_rings_61 rfl ?_
  refine s_Istn 1 rfl 63 (by decide) dX12_rings_62 rfl ?_
  refine s_inc 2 1 66 (by decide) (by decide) dX12_rings_63 rfl ?_
  refine s_goto 22 dX12_rings_66 (by decide) ?_
  exact s_pick hk22
def BX12_rings_51 (k22 : KT (Int32 × HP)) : KT (Int32 × HP) :=
  oCal 3 (some 12) EX12_besideOf fL (oPick [0, 2] (BX12_rings_54 k22))
set_option maxRecDepth 20000 in
theorem sBX12_rings_51 {k22 : KT (Int32 × HP)} (hk22 : Snd XX12_rings fIH 22 k22 0 0) : Snd XX12_rings fIH 51 (BX12_rings_51 k22) (0) (0) := by
  unfold BX12_rings_51
  refine s_cal0 54 (run_V (X := XX12_rings) rfl clX12 yoX12_besideOf rfl tw_1706 tw_1708 tw_p79 (by decide) dX12_rings_51) cmX12_besideOf (fun _ _ _ => rfl) rfl ?_
  exact s_pick (sBX12_rings_54 hk22)
def BX12_rings_39 (k22 : KT (Int32 × HP)) : KT (Int32 × HP) :=
  oCal 2 none EX12_has fZ (oIfeq (oConst (.int 0) (oiadd (oIst 1 (oInc 2 1 (oPick [0, 1, 2] k22))))) (oAld 0 (oAld 0 (oGet 12 20 (oIld 2 (oPick [0, 2] (BX12_rings_51 k22)))))))
set_option maxRecDepth 20000 in
theorem sBX12_rings_39 {k22 : KT (Int32 × HP)} (hk22 : Snd XX12_rings fIH 22 k22 0 0) : Snd XX12_rings fIH 39 (BX12_rings_39 k22) (0) (0) := by
  unfold BX12_rings_39
  refine s_cal0 42 (run_S (X := XX12_rings) yoX12_has tw_1628 tw_1629 (by decide) dX12_rings_39) cmX12_has (fun _ _ _ => rfl) rfl ?_
  refine s_ifeq 60 45 dX12_rings_42 (by decide) rfl ?_ ?_
  · refine s_iconst 61 0 (by decide) dX12_rings_60 rfl ?_
    refine s_iadd 62 dX12_rings_61 rfl ?_
    refine s_Istn 1 rfl 63 (by decide) dX12_rings_62 rfl ?_
    refine s_inc 2 1 66 (by decide) (by decide) dX12_rings_63 rfl ?_
    refine s_goto 22 dX12_rings_66 (by decide) ?_
    exact s_pick hk22
  · refine s_Aldn 0 rfl 46 dX12_rings_45 rfl ?_
    refine s_Aldn 0 rfl 47 dX12_rings_46 rfl ?_
    refine s_get 12 20 50 clX12 (by decide) tw_1308 dX12_rings_47 rfl ?_
    refine s_Ildn 2 rfl 51 dX12_rings_50 rfl ?_
    exact s_pick (sBX12_rings_51 hk22)
def BX12_rings_22 (k22 : KT (Int32 × HP)) : KT (Int32 × HP) :=
  oIld 2 (oAld 0 (oGet 12 3 (oCal 1 (some 11) EX11_cells fI (oCmpge (oAld 0 (oIld 1 (oConst (.int 2) (oidiv (oAld 0 (oGet 12 20 (oPick [0] (BX12_rings_77)))))))) (oIld 1 (oAld 0 (oGet 12 20 (oIld 2 (oPick [0, 2] (BX12_rings_39 k22))))))))))
set_option maxRecDepth 20000 in
theorem sBX12_rings_22 {k22 : KT (Int32 × HP)} (hk22 : Snd XX12_rings fIH 22 k22 0 0) : Snd XX12_rings fIH 22 (BX12_rings_22 k22) (0) (0) := by
  unfold BX12_rings_22
  refine s_Ildn 2 rfl 23 dX12_rings_22 rfl ?_
  refine s_Aldn 0 rfl 24 dX12_rings_23 rfl ?_
  refine s_get 12 3 27 clX12 (by decide) tw_1291 dX12_rings_24 rfl ?_
  refine s_cal0 30 (run_V (X := XX12_rings) rfl clX11 yoX11_cells rfl tw_1733 tw_1715 tw_1716 (by decide) dX12_rings_27) cmX11_cells (fun _ _ _ => rfl) rfl ?_
  refine s_cmpge 69 33 dX12_rings_30 (by decide) rfl ?_ ?_
  · refine s_Aldn 0 rfl 70 dX12_rings_69 rfl ?_
    refine s_Ildn 1 rfl 71 dX12_rings_70 rfl ?_
    refine s_iconst 72 2 (by decide) dX12_rings_71 rfl ?_
    refine s_idiv 73 dX12_rings_72 rfl ?_
    refine s_Aldn 0 rfl 74 dX12_rings_73 rfl ?_
    refine s_get 12 20 77 clX12 (by decide) tw_1308 dX12_rings_74 rfl ?_
    exact s_pick (sBX12_rings_77)
  · refine s_Ildn 1 rfl 34 dX12_rings_33 rfl ?_
    refine s_Aldn 0 rfl 35 dX12_rings_34 rfl ?_
    refine s_get 12 20 38 clX12 (by decide) tw_1308 dX12_rings_35 rfl ?_
    refine s_Ildn 2 rfl 39 dX12_rings_38 rfl ?_
    exact s_pick (sBX12_rings_39 hk22)
def BX12_rings_0 : KT (Int32 × HP) :=
  oAld 0 (oConst (.int 0) (oPut 12 0 .int (oAld 0 (oGet 12 3 (oNul (oAld 0 (oConst (.int 1) (oCal 2 (some 12) EX12_refused fIH (oIretH)))) (oConst (.int 0) (oIst 1 (oConst (.int 0) (oIst 2 (oPick [0, 1, 2] (lp (BX12_rings_22) FU)))))))))))
set_option maxRecDepth 20000 in
theorem sBX12_rings_0 : Snd XX12_rings fIH 0 (BX12_rings_0) (0) (0) := by
  unfold BX12_rings_0
  refine s_Aldn 0 rfl 1 dX12_rings_0 rfl ?_
  refine s_iconst 2 0 (by decide) dX12_rings_1 rfl ?_
  refine s_put 12 0 5 clX12 (by decide) rfl rfl pIH tw_1288 dX12_rings_2 rfl ?_
  refine s_Aldn 0 rfl 6 dX12_rings_5 rfl ?_
  refine s_get 12 3 9 clX12 (by decide) tw_1291 dX12_rings_6 rfl ?_
  refine s_ifnonnull 18 12 dX12_rings_9 (by decide) rfl ?_ ?_
  · refine s_iconst 19 0 (by decide) dX12_rings_18 rfl ?_
    refine s_Istn 1 rfl 20 (by decide) dX12_rings_19 rfl ?_
    refine s_iconst 21 0 (by decide) dX12_rings_20 rfl ?_
    refine s_Istn 2 rfl 22 (by decide) dX12_rings_21 rfl ?_
    exact s_pick (s_lp (fun k hk => sBX12_rings_22  hk) FU)
  · refine s_Aldn 0 rfl 13 dX12_rings_12 rfl ?_
    refine s_iconst 14 1 (by decide) dX12_rings_13 rfl ?_
    refine s_cal0 17 (run_V (X := XX12_rings) rfl clX12 yoX12_refused rfl tw_1430 tw_1432 tw_p50 (by decide) dX12_rings_14) cmX12_refused (fun _ _ _ => rfl) rfl ?_
    exact s_iretH rfl dX12_rings_17
def EX12_rings : List Value → HP → Option (Int32 × HP) := en 3 BX12_rings_0
theorem cmX12_rings : CM XX12_rings EX12_rings fIH 0 0 := CM.of rfl (by decide) rfl rfl sBX12_rings_0
theorem yoX12_rings : YO XX12_rings 0 0 0 := ⟨tw_1738, rfl, tw_12, (by decide +kernel), rfl, rfl⟩
abbrev XX12_ends : MX := (yX12_ends, cX12_ends, 3, (Option.some .int), Cond.code yX12_ends cX12_ends 3 (Option.some .int) :: WS, { frames := 3, cells := 0, slots := 0, locals := 70 })
def BX12_ends_54 (k22 : KT (Int32 × HP)) : KT (Int32 × HP) :=
  oCal 1 none EX12_bits fI (oConst (.int 1) (oCmpne (oConst (.int 0) (oiadd (oIst 1 (oInc 2 1 (oPick [0, 1, 2] k22))))) (oConst (.int 1) (oiadd (oIst 1 (oInc 2 1 (oPick [0, 1, 2] k22)))))))
set_option maxRecDepth 20000 in
theorem sBX12_ends_54 {k22 : KT (Int32 × HP)} (hk22 : Snd XX12_ends fIH 22 k22 0 0) : Snd XX12_ends fIH 54 (BX12_ends_54 k22) (0) (0) := by
  unfold BX12_ends_54
  refine s_cal0 57 (run_S (X := XX12_ends) yoX12_bits tw_1675 tw_1676 (by decide) dX12_ends_54) cmX12_bits (fun _ _ _ => rfl) rfl ?_
  refine s_iconst 58 1 (by decide) dX12_ends_57 rfl ?_
  refine s_cmpne 65 61 dX12_ends_58 (by decide) rfl ?_ ?_
  · refine s_iconst 66 0 (by decide) dX12_ends_65 rfl ?_
    refine s_iadd 67 dX12_ends_66 rfl ?_
    refine s_Istn 1 rfl 68 (by decide) dX12_ends_67 rfl ?_
    refine s_inc 2 1 71 (by decide) (by decide) dX12_ends_68 rfl ?_
    refine s_goto 22 dX12_ends_71 (by decide) ?_
    exact s_pick hk22
  · refine s_iconst 62 1 (by decide) dX12_ends_61 rfl ?_
    refine s_goto 66 dX12_ends_62 (by decide) ?_
    refine s_iadd 67 dX12_ends_66 rfl ?_
    refine s_Istn 1 rfl 68 (by decide) dX12_ends_67 rfl ?_
    refine s_inc 2 1 71 (by decide) (by decide) dX12_ends_68 rfl ?_
    refine s_goto 22 dX12_ends_71 (by decide) ?_
    exact s_pick hk22
def BX12_ends_51 (k22 : KT (Int32 × HP)) : KT (Int32 × HP) :=
  oCal 3 (some 12) EX12_besideOf fL (oPick [0, 2] (BX12_ends_54 k22))
set_option maxRecDepth 20000 in
theorem sBX12_ends_51 {k22 : KT (Int32 × HP)} (hk22 : Snd XX12_ends fIH 22 k22 0 0) : Snd XX12_ends fIH 51 (BX12_ends_51 k22) (0) (0) := by
  unfold BX12_ends_51
  refine s_cal0 54 (run_V (X := XX12_ends) rfl clX12 yoX12_besideOf rfl tw_1706 tw_1708 tw_p79 (by decide) dX12_ends_51) cmX12_besideOf (fun _ _ _ => rfl) rfl ?_
  exact s_pick (sBX12_ends_54 hk22)
def BX12_ends_39 (k22 : KT (Int32 × HP)) : KT (Int32 × HP) :=
  oCal 2 none EX12_has fZ (oIfeq (oConst (.int 0) (oiadd (oIst 1 (oInc 2 1 (oPick [0, 1, 2] k22))))) (oAld 0 (oAld 0 (oGet 12 20 (oIld 2 (oPick [0, 2] (BX12_ends_51 k22)))))))
set_option maxRecDepth 20000 in
theorem sBX12_ends_39 {k22 : KT (Int32 × HP)} (hk22 : Snd XX12_ends fIH 22 k22 0 0) : Snd XX12_ends fIH 39 (BX12_ends_39 k22) (0) (0) := by
  unfold BX12_ends_39
  refine s_cal0 42 (run_S (X := XX12_ends) yoX12_has tw_1628 tw_1629 (by decide) dX12_ends_39) cmX12_has (fun _ _ _ => rfl) rfl ?_
  refine s_ifeq 65 45 dX12_ends_42 (by decide) rfl ?_ ?_
  · refine s_iconst 66 0 (by decide) dX12_ends_65 rfl ?_
    refine s_iadd 67 dX12_ends_66 rfl ?_
    refine s_Istn 1 rfl 68 (by decide) dX12_ends_67 rfl ?_
    refine s_inc 2 1 71 (by decide) (by decide) dX12_ends_68 rfl ?_
    refine s_goto 22 dX12_ends_71 (by decide) ?_
    exact s_pick hk22
  · refine s_Aldn 0 rfl 46 dX12_ends_45 rfl ?_
    refine s_Aldn 0 rfl 47 dX12_ends_46 rfl ?_
    refine s_get 12 20 50 clX12 (by decide) tw_1308 dX12_ends_47 rfl ?_
    refine s_Ildn 2 rfl 51 dX12_ends_50 rfl ?_
    exact s_pick (sBX12_ends_51 hk22)
def BX12_ends_22 (k22 : KT (Int32 × HP)) : KT (Int32 × HP) :=
  oIld 2 (oAld 0 (oGet 12 3 (oCal 1 (some 11) EX11_cells fI (oCmpge (oAld 0 (oIld 1 (oCal 2 (some 12) EX12_good fIH (oIretH)))) (oIld 1 (oAld 0 (oGet 12 20 (oIld 2 (oPick [0, 2] (BX12_ends_39 k22))))))))))
set_option maxRecDepth 20000 in
theorem sBX12_ends_22 {k22 : KT (Int32 × HP)} (hk22 : Snd XX12_ends fIH 22 k22 0 0) : Snd XX12_ends fIH 22 (BX12_ends_22 k22) (0) (0) := by
  unfold BX12_ends_22
  refine s_Ildn 2 rfl 23 dX12_ends_22 rfl ?_
  refine s_Aldn 0 rfl 24 dX12_ends_23 rfl ?_
  refine s_get 12 3 27 clX12 (by decide) tw_1291 dX12_ends_24 rfl ?_
  refine s_cal0 30 (run_V (X := XX12_ends) rfl clX11 yoX11_cells rfl tw_1733 tw_1715 tw_1716 (by decide) dX12_ends_27) cmX11_cells (fun _ _ _ => rfl) rfl ?_
  refine s_cmpge 74 33 dX12_ends_30 (by decide) rfl ?_ ?_
  · refine s_Aldn 0 rfl 75 dX12_ends_74 rfl ?_
    refine s_Ildn 1 rfl 76 dX12_ends_75 rfl ?_
    refine s_cal0 79 (run_V (X := XX12_ends) rfl clX12 yoX12_good rfl tw_1678 tw_1680 tw_p76 (by decide) dX12_ends_76) cmX12_good (fun _ _ _ => rfl) rfl ?_
    exact s_iretH rfl dX12_ends_79
  · refine s_Ildn 1 rfl 34 dX12_ends_33 rfl ?_
    refine s_Aldn 0 rfl 35 dX12_ends_34 rfl ?_
    refine s_get 12 20 38 clX12 (by decide) tw_1308 dX12_ends_35 rfl ?_
    refine s_Ildn 2 rfl 39 dX12_ends_38 rfl ?_
    exact s_pick (sBX12_ends_39 hk22)
def BX12_ends_0 : KT (Int32 × HP) :=
  oAld 0 (oConst (.int 0) (oPut 12 0 .int (oAld 0 (oGet 12 3 (oNul (oAld 0 (oConst (.int 1) (oCal 2 (some 12) EX12_refused fIH (oIretH)))) (oConst (.int 0) (oIst 1 (oConst (.int 0) (oIst 2 (oPick [0, 1, 2] (lp (BX12_ends_22) FU)))))))))))
set_option maxRecDepth 20000 in
theorem sBX12_ends_0 : Snd XX12_ends fIH 0 (BX12_ends_0) (0) (0) := by
  unfold BX12_ends_0
  refine s_Aldn 0 rfl 1 dX12_ends_0 rfl ?_
  refine s_iconst 2 0 (by decide) dX12_ends_1 rfl ?_
  refine s_put 12 0 5 clX12 (by decide) rfl rfl pIH tw_1288 dX12_ends_2 rfl ?_
  refine s_Aldn 0 rfl 6 dX12_ends_5 rfl ?_
  refine s_get 12 3 9 clX12 (by decide) tw_1291 dX12_ends_6 rfl ?_
  refine s_ifnonnull 18 12 dX12_ends_9 (by decide) rfl ?_ ?_
  · refine s_iconst 19 0 (by decide) dX12_ends_18 rfl ?_
    refine s_Istn 1 rfl 20 (by decide) dX12_ends_19 rfl ?_
    refine s_iconst 21 0 (by decide) dX12_ends_20 rfl ?_
    refine s_Istn 2 rfl 22 (by decide) dX12_ends_21 rfl ?_
    exact s_pick (s_lp (fun k hk => sBX12_ends_22  hk) FU)
  · refine s_Aldn 0 rfl 13 dX12_ends_12 rfl ?_
    refine s_iconst 14 1 (by decide) dX12_ends_13 rfl ?_
    refine s_cal0 17 (run_V (X := XX12_ends) rfl clX12 yoX12_refused rfl tw_1430 tw_1432 tw_p50 (by decide) dX12_ends_14) cmX12_refused (fun _ _ _ => rfl) rfl ?_
    exact s_iretH rfl dX12_ends_17
def EX12_ends : List Value → HP → Option (Int32 × HP) := en 3 BX12_ends_0
theorem cmX12_ends : CM XX12_ends EX12_ends fIH 0 0 := CM.of rfl (by decide) rfl rfl sBX12_ends_0
theorem yoX12_ends : YO XX12_ends 0 0 0 := ⟨tw_1742, rfl, tw_12, (by decide +kernel), rfl, rfl⟩
abbrev XX12_steps : MX := (yX12_steps, cX12_steps, 3, (Option.some .int), Cond.code yX12_steps cX12_steps 3 (Option.some .int) :: WS, { frames := 3, cells := 0, slots := 0, locals := 70 })
def BX12_steps_33 : KT (Int32 × HP) :=
  oCal 3 (some 12) EX12_laysFar fVH (oAld 0 (oAld 0 (oGet 12 22 (oIld 2 (oIa (oCal 2 (some 12) EX12_good fIH (oIretH)))))))
set_option maxRecDepth 20000 in
theorem sBX12_steps_33 : Snd XX12_steps fIH 33 (BX12_steps_33) (0) (0) := by
  unfold BX12_steps_33
  refine s_cal0 36 (run_V (X := XX12_steps) rfl clX12 yoX12_laysFar rfl tw_1729 tw_1731 tw_p81 (by decide) dX12_steps_33) cmX12_laysFar (fun _ _ _ => rfl) rfl ?_
  refine s_Aldn 0 rfl 37 dX12_steps_36 rfl ?_
  refine s_Aldn 0 rfl 38 dX12_steps_37 rfl ?_
  refine s_get 12 22 41 clX12 (by decide) tw_1310 dX12_steps_38 rfl ?_
  refine s_Ildn 2 rfl 42 dX12_steps_41 rfl ?_
  refine s_Ia 43 dX12_steps_42 rfl ?_
  refine s_cal0 46 (run_V (X := XX12_steps) rfl clX12 yoX12_good rfl tw_1678 tw_1680 tw_p76 (by decide) dX12_steps_43) cmX12_good (fun _ _ _ => rfl) rfl ?_
  exact s_iretH rfl dX12_steps_46
def BX12_steps_15 : KT (Int32 × HP) :=
  oCal 2 (some 12) EX12_isNumber fZ (oIfne (oAld 0 (oAld 0 (oGet 12 20 (oIld 1 (oPick [0, 2] (BX12_steps_33)))))) (oAld 0 (oConst (.int 1) (oCal 2 (some 12) EX12_refused fIH (oIretH)))))
set_option maxRecDepth 20000 in
theorem sBX12_steps_15 : Snd XX12_steps fIH 15 (BX12_steps_15) (0) (0) := by
  unfold BX12_steps_15
  refine s_cal0 18 (run_V (X := XX12_steps) rfl clX12 yoX12_isNumber rfl tw_1747 tw_1749 tw_p82 (by decide) dX12_steps_15) cmX12_isNumber (fun _ _ _ => rfl) rfl ?_
  refine s_ifne 27 21 dX12_steps_18 (by decide) rfl ?_ ?_
  · refine s_Aldn 0 rfl 28 dX12_steps_27 rfl ?_
    refine s_Aldn 0 rfl 29 dX12_steps_28 rfl ?_
    refine s_get 12 20 32 clX12 (by decide) tw_1308 dX12_steps_29 rfl ?_
    refine s_Ildn 1 rfl 33 dX12_steps_32 rfl ?_
    exact s_pick (sBX12_steps_33)
  · refine s_Aldn 0 rfl 22 dX12_steps_21 rfl ?_
    refine s_iconst 23 1 (by decide) dX12_steps_22 rfl ?_
    refine s_cal0 26 (run_V (X := XX12_steps) rfl clX12 yoX12_refused rfl tw_1430 tw_1432 tw_p50 (by decide) dX12_steps_23) cmX12_refused (fun _ _ _ => rfl) rfl ?_
    exact s_iretH rfl dX12_steps_26
def BX12_steps_7 : KT (Int32 × HP) :=
  oCal 2 (some 12) EX12_isNumber fZ (oIfeq (oAld 0 (oConst (.int 1) (oCal 2 (some 12) EX12_refused fIH (oIretH)))) (oAld 0 (oIld 2 (oPick [0, 1, 2] (BX12_steps_15)))))
set_option maxRecDepth 20000 in
theorem sBX12_steps_7 : Snd XX12_steps fIH 7 (BX12_steps_7) (0) (0) := by
  unfold BX12_steps_7
  refine s_cal0 10 (run_V (X := XX12_steps) rfl clX12 yoX12_isNumber rfl tw_1747 tw_1749 tw_p82 (by decide) dX12_steps_7) cmX12_isNumber (fun _ _ _ => rfl) rfl ?_
  refine s_ifeq 21 13 dX12_steps_10 (by decide) rfl ?_ ?_
  · refine s_Aldn 0 rfl 22 dX12_steps_21 rfl ?_
    refine s_iconst 23 1 (by decide) dX12_steps_22 rfl ?_
    refine s_cal0 26 (run_V (X := XX12_steps) rfl clX12 yoX12_refused rfl tw_1430 tw_1432 tw_p50 (by decide) dX12_steps_23) cmX12_refused (fun _ _ _ => rfl) rfl ?_
    exact s_iretH rfl dX12_steps_26
  · refine s_Aldn 0 rfl 14 dX12_steps_13 rfl ?_
    refine s_Ildn 2 rfl 15 dX12_steps_14 rfl ?_
    exact s_pick (sBX12_steps_15)
def BX12_steps_0 : KT (Int32 × HP) :=
  oAld 0 (oConst (.int 0) (oPut 12 0 .int (oAld 0 (oIld 1 (oPick [0, 1, 2] (BX12_steps_7))))))
set_option maxRecDepth 20000 in
theorem sBX12_steps_0 : Snd XX12_steps fIH 0 (BX12_steps_0) (0) (0) := by
  unfold BX12_steps_0
  refine s_Aldn 0 rfl 1 dX12_steps_0 rfl ?_
  refine s_iconst 2 0 (by decide) dX12_steps_1 rfl ?_
  refine s_put 12 0 5 clX12 (by decide) rfl rfl pIH tw_1288 dX12_steps_2 rfl ?_
  refine s_Aldn 0 rfl 6 dX12_steps_5 rfl ?_
  refine s_Ildn 1 rfl 7 dX12_steps_6 rfl ?_
  exact s_pick (sBX12_steps_7)
def EX12_steps : List Value → HP → Option (Int32 × HP) := en 3 BX12_steps_0
theorem cmX12_steps : CM XX12_steps EX12_steps fIH 0 0 := CM.of rfl (by decide) rfl rfl sBX12_steps_0
theorem yoX12_steps : YO XX12_steps 2 0 0 := ⟨tw_1746, rfl, tw_12, (by decide +kernel), rfl, rfl⟩
abbrev XX12_longest : MX := (yX12_longest, cX12_longest, 4, (Option.some .int), Cond.code yX12_longest cX12_longest 4 (Option.some .int) :: WS, { frames := 3, cells := 0, slots := 0, locals := 70 })
def BX12_longest_45 (k23 : KT (Int32 × HP)) (k45 : KT (Int32 × HP)) : KT (Int32 × HP) :=
  oIld 3 (oAld 0 (oGet 12 3 (oCal 1 (some 11) EX11_cells fI (oCmpge (oInc 2 1 (oPick [0, 1, 2] k23)) (oAld 0 (oGet 12 22 (oIld 3 (oIa (oIld 1 (oCmple (oIld 1 (oIst 1 (oInc 3 1 (oPick [0, 1, 2, 3] k45)))) (oAld 0 (oGet 12 22 (oIld 3 (oIa (oIst 1 (oInc 3 1 (oPick [0, 1, 2, 3] k45)))))))))))))))))
set_option maxRecDepth 20000 in
theorem sBX12_longest_45 {k23 : KT (Int32 × HP)} (hk23 : Snd XX12_longest fIH 23 k23 0 0) {k45 : KT (Int32 × HP)} (hk45 : Snd XX12_longest fIH 45 k45 0 0) : Snd XX12_longest fIH 45 (BX12_longest_45 k23 k45) (0) (0) := by
  unfold BX12_longest_45
  refine s_Ildn 3 rfl 46 dX12_longest_45 rfl ?_
  refine s_Aldn 0 rfl 47 dX12_longest_46 rfl ?_
  refine s_get 12 3 50 clX12 (by decide) tw_1291 dX12_longest_47 rfl ?_
  refine s_cal0 53 (run_V (X := XX12_longest) rfl clX11 yoX11_cells rfl tw_1733 tw_1715 tw_1716 (by decide) dX12_longest_50) cmX11_cells (fun _ _ _ => rfl) rfl ?_
  refine s_cmpge 83 56 dX12_longest_53 (by decide) rfl ?_ ?_
  · refine s_inc 2 1 86 (by decide) (by decide) dX12_longest_83 rfl ?_
    refine s_goto 23 dX12_longest_86 (by decide) ?_
    exact s_pick hk23
  · refine s_Aldn 0 rfl 57 dX12_longest_56 rfl ?_
    refine s_get 12 22 60 clX12 (by decide) tw_1310 dX12_longest_57 rfl ?_
    refine s_Ildn 3 rfl 61 dX12_longest_60 rfl ?_
    refine s_Ia 62 dX12_longest_61 rfl ?_
    refine s_Ildn 1 rfl 63 dX12_longest_62 rfl ?_
    refine s_cmple 75 66 dX12_longest_63 (by decide) rfl ?_ ?_
    · refine s_Ildn 1 rfl 76 dX12_longest_75 rfl ?_
      refine s_Istn 1 rfl 77 (by decide) dX12_longest_76 rfl ?_
      refine s_inc 3 1 80 (by decide) (by decide) dX12_longest_77 rfl ?_
      refine s_goto 45 dX12_longest_80 (by decide) ?_
      exact s_pick hk45
    · refine s_Aldn 0 rfl 67 dX12_longest_66 rfl ?_
      refine s_get 12 22 70 clX12 (by decide) tw_1310 dX12_longest_67 rfl ?_
      refine s_Ildn 3 rfl 71 dX12_longest_70 rfl ?_
      refine s_Ia 72 dX12_longest_71 rfl ?_
      refine s_goto 76 dX12_longest_72 (by decide) ?_
      refine s_Istn 1 rfl 77 (by decide) dX12_longest_76 rfl ?_
      refine s_inc 3 1 80 (by decide) (by decide) dX12_longest_77 rfl ?_
      refine s_goto 45 dX12_longest_80 (by decide) ?_
      exact s_pick hk45
def BX12_longest_40 (k23 : KT (Int32 × HP)) : KT (Int32 × HP) :=
  oCal 3 (some 12) EX12_laysFar fVH (oConst (.int 0) (oIst 3 (oPick [0, 1, 2, 3] (lp (BX12_longest_45 k23) FU))))
set_option maxRecDepth 20000 in
theorem sBX12_longest_40 {k23 : KT (Int32 × HP)} (hk23 : Snd XX12_longest fIH 23 k23 0 0) : Snd XX12_longest fIH 40 (BX12_longest_40 k23) (0) (0) := by
  unfold BX12_longest_40
  refine s_cal0 43 (run_V (X := XX12_longest) rfl clX12 yoX12_laysFar rfl tw_1729 tw_1731 tw_p81 (by decide) dX12_longest_40) cmX12_laysFar (fun _ _ _ => rfl) rfl ?_
  refine s_iconst 44 0 (by decide) dX12_longest_43 rfl ?_
  refine s_Istn 3 rfl 45 (by decide) dX12_longest_44 rfl ?_
  exact s_pick (s_lp (fun k hk => sBX12_longest_45 hk23 hk) FU)
def BX12_longest_23 (k23 : KT (Int32 × HP)) : KT (Int32 × HP) :=
  oIld 2 (oAld 0 (oGet 12 3 (oCal 1 (some 11) EX11_cells fI (oCmpge (oAld 0 (oIld 1 (oCal 2 (some 12) EX12_good fIH (oIretH)))) (oAld 0 (oAld 0 (oGet 12 20 (oIld 2 (oPick [0, 1, 2] (BX12_longest_40 k23))))))))))
set_option maxRecDepth 20000 in
theorem sBX12_longest_23 {k23 : KT (Int32 × HP)} (hk23 : Snd XX12_longest fIH 23 k23 0 0) : Snd XX12_longest fIH 23 (BX12_longest_23 k23) (0) (0) := by
  unfold BX12_longest_23
  refine s_Ildn 2 rfl 24 dX12_longest_23 rfl ?_
  refine s_Aldn 0 rfl 25 dX12_longest_24 rfl ?_
  refine s_get 12 3 28 clX12 (by decide) tw_1291 dX12_longest_25 rfl ?_
  refine s_cal0 31 (run_V (X := XX12_longest) rfl clX11 yoX11_cells rfl tw_1733 tw_1715 tw_1716 (by decide) dX12_longest_28) cmX11_cells (fun _ _ _ => rfl) rfl ?_
  refine s_cmpge 89 34 dX12_longest_31 (by decide) rfl ?_ ?_
  · refine s_Aldn 0 rfl 90 dX12_longest_89 rfl ?_
    refine s_Ildn 1 rfl 91 dX12_longest_90 rfl ?_
    refine s_cal0 94 (run_V (X := XX12_longest) rfl clX12 yoX12_good rfl tw_1678 tw_1680 tw_p76 (by decide) dX12_longest_91) cmX12_good (fun _ _ _ => rfl) rfl ?_
    exact s_iretH rfl dX12_longest_94
  · refine s_Aldn 0 rfl 35 dX12_longest_34 rfl ?_
    refine s_Aldn 0 rfl 36 dX12_longest_35 rfl ?_
    refine s_get 12 20 39 clX12 (by decide) tw_1308 dX12_longest_36 rfl ?_
    refine s_Ildn 2 rfl 40 dX12_longest_39 rfl ?_
    exact s_pick (sBX12_longest_40 hk23)
def BX12_longest_0 : KT (Int32 × HP) :=
  oAld 0 (oConst (.int 0) (oPut 12 0 .int (oAld 0 (oGet 12 3 (oNul (oAld 0 (oConst (.int 1) (oCal 2 (some 12) EX12_refused fIH (oIretH)))) (oConst (.int (-2)) (oIst 1 (oConst (.int 0) (oIst 2 (oPick [0, 1, 2] (lp (BX12_longest_23) FU)))))))))))
set_option maxRecDepth 20000 in
theorem sBX12_longest_0 : Snd XX12_longest fIH 0 (BX12_longest_0) (0) (0) := by
  unfold BX12_longest_0
  refine s_Aldn 0 rfl 1 dX12_longest_0 rfl ?_
  refine s_iconst 2 0 (by decide) dX12_longest_1 rfl ?_
  refine s_put 12 0 5 clX12 (by decide) rfl rfl pIH tw_1288 dX12_longest_2 rfl ?_
  refine s_Aldn 0 rfl 6 dX12_longest_5 rfl ?_
  refine s_get 12 3 9 clX12 (by decide) tw_1291 dX12_longest_6 rfl ?_
  refine s_ifnonnull 18 12 dX12_longest_9 (by decide) rfl ?_ ?_
  · refine s_bipush 20 (-2) (by decide) dX12_longest_18 rfl ?_
    refine s_Istn 1 rfl 21 (by decide) dX12_longest_20 rfl ?_
    refine s_iconst 22 0 (by decide) dX12_longest_21 rfl ?_
    refine s_Istn 2 rfl 23 (by decide) dX12_longest_22 rfl ?_
    exact s_pick (s_lp (fun k hk => sBX12_longest_23  hk) FU)
  · refine s_Aldn 0 rfl 13 dX12_longest_12 rfl ?_
    refine s_iconst 14 1 (by decide) dX12_longest_13 rfl ?_
    refine s_cal0 17 (run_V (X := XX12_longest) rfl clX12 yoX12_refused rfl tw_1430 tw_1432 tw_p50 (by decide) dX12_longest_14) cmX12_refused (fun _ _ _ => rfl) rfl ?_
    exact s_iretH rfl dX12_longest_17
def EX12_longest : List Value → HP → Option (Int32 × HP) := en 4 BX12_longest_0
theorem cmX12_longest : CM XX12_longest EX12_longest fIH 0 0 := CM.of rfl (by decide) rfl rfl sBX12_longest_0
theorem yoX12_longest : YO XX12_longest 0 0 0 := ⟨tw_1754, rfl, tw_12, (by decide +kernel), rfl, rfl⟩
abbrev XX12_splits : MX := (yX12_splits, cX12_splits, 3, (Option.some .int), Cond.code yX12_splits cX12_splits 3 (Option.some .int) :: WS, { frames := 5, cells := 0, slots := 0, locals := 117 })
def BX12_splits_22 : KT (Int32 × HP) :=
  oCal 2 (some 12) EX12_splitsAt fZH (oIfeq (oConst (.int 0) (oCal 2 (some 12) EX12_good fIH (oIretH))) (oConst (.int 1) (oCal 2 (some 12) EX12_good fIH (oIretH))))
set_option maxRecDepth 20000 in
theorem sBX12_splits_22 : Snd XX12_splits fIH 22 (BX12_splits_22) (0) (0) := by
  unfold BX12_splits_22
  refine s_cal0 25 (run_V (X := XX12_splits) rfl clX12 yoX12_splitsAt rfl tw_1759 tw_1761 tw_p83 (by decide) dX12_splits_22) cmX12_splitsAt (fun _ _ _ => rfl) rfl ?_
  refine s_ifeq 32 28 dX12_splits_25 (by decide) rfl ?_ ?_
  · refine s_iconst 33 0 (by decide) dX12_splits_32 rfl ?_
    refine s_cal0 36 (run_V (X := XX12_splits) rfl clX12 yoX12_good rfl tw_1678 tw_1680 tw_p76 (by decide) dX12_splits_33) cmX12_good (fun _ _ _ => rfl) rfl ?_
    refine s_goto 44 dX12_splits_36 (by decide) ?_
    exact s_iretH rfl dX12_splits_44
  · refine s_iconst 29 1 (by decide) dX12_splits_28 rfl ?_
    refine s_goto 33 dX12_splits_29 (by decide) ?_
    refine s_cal0 36 (run_V (X := XX12_splits) rfl clX12 yoX12_good rfl tw_1678 tw_1680 tw_p76 (by decide) dX12_splits_33) cmX12_good (fun _ _ _ => rfl) rfl ?_
    refine s_goto 44 dX12_splits_36 (by decide) ?_
    exact s_iretH rfl dX12_splits_44
def BX12_splits_8 : KT (Int32 × HP) :=
  oCal 3 (some 12) EX12_isCell fZ (oIfeq (oAld 0 (oConst (.int 1) (oCal 2 (some 12) EX12_refused fIH (oIretH)))) (oAld 0 (oAld 0 (oAld 0 (oIld 1 (oIld 2 (oCal 3 (some 12) EX12_cellOf fI (oPick [] (BX12_splits_22)))))))))
set_option maxRecDepth 20000 in
theorem sBX12_splits_8 : Snd XX12_splits fIH 8 (BX12_splits_8) (0) (0) := by
  unfold BX12_splits_8
  refine s_cal0 11 (run_V (X := XX12_splits) rfl clX12 yoX12_isCell rfl tw_1694 tw_1696 tw_p77 (by decide) dX12_splits_8) cmX12_isCell (fun _ _ _ => rfl) rfl ?_
  refine s_ifeq 39 14 dX12_splits_11 (by decide) rfl ?_ ?_
  · refine s_Aldn 0 rfl 40 dX12_splits_39 rfl ?_
    refine s_iconst 41 1 (by decide) dX12_splits_40 rfl ?_
    refine s_cal0 44 (run_V (X := XX12_splits) rfl clX12 yoX12_refused rfl tw_1430 tw_1432 tw_p50 (by decide) dX12_splits_41) cmX12_refused (fun _ _ _ => rfl) rfl ?_
    exact s_iretH rfl dX12_splits_44
  · refine s_Aldn 0 rfl 15 dX12_splits_14 rfl ?_
    refine s_Aldn 0 rfl 16 dX12_splits_15 rfl ?_
    refine s_Aldn 0 rfl 17 dX12_splits_16 rfl ?_
    refine s_Ildn 1 rfl 18 dX12_splits_17 rfl ?_
    refine s_Ildn 2 rfl 19 dX12_splits_18 rfl ?_
    refine s_cal0 22 (run_V (X := XX12_splits) rfl clX12 yoX12_cellOf rfl tw_1698 tw_1700 tw_p78 (by decide) dX12_splits_19) cmX12_cellOf (fun _ _ _ => rfl) rfl ?_
    exact s_pick (sBX12_splits_22)
def BX12_splits_0 : KT (Int32 × HP) :=
  oAld 0 (oConst (.int 0) (oPut 12 0 .int (oAld 0 (oIld 1 (oIld 2 (oPick [0, 1, 2] (BX12_splits_8)))))))
set_option maxRecDepth 20000 in
theorem sBX12_splits_0 : Snd XX12_splits fIH 0 (BX12_splits_0) (0) (0) := by
  unfold BX12_splits_0
  refine s_Aldn 0 rfl 1 dX12_splits_0 rfl ?_
  refine s_iconst 2 0 (by decide) dX12_splits_1 rfl ?_
  refine s_put 12 0 5 clX12 (by decide) rfl rfl pIH tw_1288 dX12_splits_2 rfl ?_
  refine s_Aldn 0 rfl 6 dX12_splits_5 rfl ?_
  refine s_Ildn 1 rfl 7 dX12_splits_6 rfl ?_
  refine s_Ildn 2 rfl 8 dX12_splits_7 rfl ?_
  exact s_pick (sBX12_splits_8)
def EX12_splits : List Value → HP → Option (Int32 × HP) := en 3 BX12_splits_0
theorem cmX12_splits : CM XX12_splits EX12_splits fIH 0 0 := CM.of rfl (by decide) rfl rfl sBX12_splits_0
theorem yoX12_splits : YO XX12_splits 2 0 0 := ⟨tw_1758, rfl, tw_12, (by decide +kernel), rfl, rfl⟩
abbrev XX12_drawn : MX := (yX12_drawn, cX12_drawn, 1, (Option.some .int), Cond.code yX12_drawn cX12_drawn 1 (Option.some .int) :: WS, { frames := 0, cells := 0, slots := 0, locals := 0 })
def BX12_drawn_0 : KT Int32 :=
  oConst (.long 75) (oIld 0 (oi2l (olmul (oConst (.long 74) (oladd (oConst (.long 65537) (olrem (ol2i (oIretP)))))))))
set_option maxRecDepth 20000 in
theorem sBX12_drawn_0 : Snd XX12_drawn fI 0 (BX12_drawn_0) (0) (0) := by
  unfold BX12_drawn_0
  refine s_ldc2 3 75 tw_1807 dX12_drawn_0 rfl ?_
  refine s_Ildn 0 rfl 4 dX12_drawn_3 rfl ?_
  refine s_i2l 5 dX12_drawn_4 rfl ?_
  refine s_lmul 6 dX12_drawn_5 rfl ?_
  refine s_ldc2 9 74 tw_1808 dX12_drawn_6 rfl ?_
  refine s_ladd 10 dX12_drawn_9 rfl ?_
  refine s_ldc2 13 65537 tw_1809 dX12_drawn_10 rfl ?_
  refine s_lrem 14 dX12_drawn_13 rfl ?_
  refine s_l2i 15 dX12_drawn_14 rfl ?_
  exact s_iretP rfl dX12_drawn_15
def EX12_drawn : List Value → HP → Option Int32 := en 1 BX12_drawn_0
theorem cmX12_drawn : CM XX12_drawn EX12_drawn fI 0 0 := CM.of rfl (by decide) rfl rfl sBX12_drawn_0
theorem yoX12_drawn : YO XX12_drawn 1 0 0 := ⟨tw_1806, rfl, tw_12, (by decide +kernel), rfl, rfl⟩
abbrev XX12_sets : MX := (yX12_sets, cX12_sets, 3, none, Cond.code yX12_sets cX12_sets 3 none :: WS, { frames := 3, cells := 0, slots := 0, locals := 70 })
def BX12_sets_141 (k141 : KT HP) : KT HP :=
  oIld 2 (oConst (.int 48) (oCmpge (oVretH) (oAld 0 (oGet 12 28 (oIld 2 (oAld 0 (oGet 12 22 (oIld 2 (oIa (oIw (oInc 2 1 (oPick [0, 2] k141))))))))))))
set_option maxRecDepth 20000 in
theorem sBX12_sets_141 {k141 : KT HP} (hk141 : Snd XX12_sets fVH 141 k141 0 0) : Snd XX12_sets fVH 141 (BX12_sets_141 k141) (0) (0) := by
  unfold BX12_sets_141
  refine s_Ildn 2 rfl 142 dX12_sets_141 rfl ?_
  refine s_bipush 144 48 (by decide) dX12_sets_142 rfl ?_
  refine s_cmpge 165 147 dX12_sets_144 (by decide) rfl ?_ ?_
  · exact s_vretH rfl dX12_sets_165
  · refine s_Aldn 0 rfl 148 dX12_sets_147 rfl ?_
    refine s_get 12 28 151 clX12 (by decide) tw_1316 dX12_sets_148 rfl ?_
    refine s_Ildn 2 rfl 152 dX12_sets_151 rfl ?_
    refine s_Aldn 0 rfl 153 dX12_sets_152 rfl ?_
    refine s_get 12 22 156 clX12 (by decide) tw_1310 dX12_sets_153 rfl ?_
    refine s_Ildn 2 rfl 157 dX12_sets_156 rfl ?_
    refine s_Ia 158 dX12_sets_157 rfl ?_
    refine s_Iw 159 pVH dX12_sets_158 rfl ?_
    refine s_inc 2 1 162 (by decide) (by decide) dX12_sets_159 rfl ?_
    refine s_goto 141 dX12_sets_162 (by decide) ?_
    exact s_pick hk141
def BX12_sets_136 : KT HP :=
  oCal 3 (some 12) EX12_laysFar fVH (oConst (.int 0) (oIst 2 (oPick [0, 2] (lp (BX12_sets_141) FU))))
set_option maxRecDepth 20000 in
theorem sBX12_sets_136 : Snd XX12_sets fVH 136 (BX12_sets_136) (0) (0) := by
  unfold BX12_sets_136
  refine s_cal0 139 (run_V (X := XX12_sets) rfl clX12 yoX12_laysFar rfl tw_1729 tw_1731 tw_p81 (by decide) dX12_sets_136) cmX12_laysFar (fun _ _ _ => rfl) rfl ?_
  refine s_iconst 140 0 (by decide) dX12_sets_139 rfl ?_
  refine s_Istn 2 rfl 141 (by decide) dX12_sets_140 rfl ?_
  exact s_pick (s_lp (fun k hk => sBX12_sets_141  hk) FU)
def BX12_sets_91 (k91 : KT HP) : KT HP :=
  oIld 2 (oConst (.int 48) (oCmpge (oAld 0 (oGet 12 3 (oGet 11 11 (oConst (.int (-2)) (oCmpne (oAld 0 (oAld 0 (oGet 12 20 (oAld 0 (oGet 12 3 (oGet 11 11 (oPick [0] (BX12_sets_136)))))))) (oVretH)))))) (oAld 0 (oGet 12 28 (oIld 2 (oConst (.int (-2)) (oIw (oInc 2 1 (oPick [0, 2] k91)))))))))
set_option maxRecDepth 20000 in
theorem sBX12_sets_91 {k91 : KT HP} (hk91 : Snd XX12_sets fVH 91 k91 0 0) : Snd XX12_sets fVH 91 (BX12_sets_91 k91) (0) (0) := by
  unfold BX12_sets_91
  refine s_Ildn 2 rfl 92 dX12_sets_91 rfl ?_
  refine s_bipush 94 48 (by decide) dX12_sets_92 rfl ?_
  refine s_cmpge 111 97 dX12_sets_94 (by decide) rfl ?_ ?_
  · refine s_Aldn 0 rfl 112 dX12_sets_111 rfl ?_
    refine s_get 12 3 115 clX12 (by decide) tw_1291 dX12_sets_112 rfl ?_
    refine s_getN 11 11 118 clX11 (by decide) nw_53 dX12_sets_115 rfl ?_
    refine s_bipush 120 (-2) (by decide) dX12_sets_118 rfl ?_
    refine s_cmpne 124 123 dX12_sets_120 (by decide) rfl ?_ ?_
    · refine s_Aldn 0 rfl 125 dX12_sets_124 rfl ?_
      refine s_Aldn 0 rfl 126 dX12_sets_125 rfl ?_
      refine s_get 12 20 129 clX12 (by decide) tw_1308 dX12_sets_126 rfl ?_
      refine s_Aldn 0 rfl 130 dX12_sets_129 rfl ?_
      refine s_get 12 3 133 clX12 (by decide) tw_1291 dX12_sets_130 rfl ?_
      refine s_getN 11 11 136 clX11 (by decide) nw_53 dX12_sets_133 rfl ?_
      exact s_pick (sBX12_sets_136)
    · exact s_vretH rfl dX12_sets_123
  · refine s_Aldn 0 rfl 98 dX12_sets_97 rfl ?_
    refine s_get 12 28 101 clX12 (by decide) tw_1316 dX12_sets_98 rfl ?_
    refine s_Ildn 2 rfl 102 dX12_sets_101 rfl ?_
    refine s_bipush 104 (-2) (by decide) dX12_sets_102 rfl ?_
    refine s_Iw 105 pVH dX12_sets_104 rfl ?_
    refine s_inc 2 1 108 (by decide) (by decide) dX12_sets_105 rfl ?_
    refine s_goto 91 dX12_sets_108 (by decide) ?_
    exact s_pick hk91
def BX12_sets_42 (k42 : KT HP) : KT HP :=
  oIld 2 (oConst (.int 48) (oCmpge (oAld 0 (oGet 12 27 (oAld 0 (oGet 12 24 (oAld 0 (oGet 12 24 (oIw (oAld 0 (oGet 12 3 (oGet 11 21 (oIld 1 (oIa (oConst (.int 3) (oCmpeq (oConst (.int 0) (oIst 2 (oPick [0, 2] (lp (BX12_sets_91) FU)))) (oVretH))))))))))))))) (oAld 0 (oGet 12 27 (oIld 2 (oConst (.int (-2)) (oIw (oInc 2 1 (oPick [0, 1, 2] k42)))))))))
set_option maxRecDepth 20000 in
theorem sBX12_sets_42 {k42 : KT HP} (hk42 : Snd XX12_sets fVH 42 k42 0 0) : Snd XX12_sets fVH 42 (BX12_sets_42 k42) (0) (0) := by
  unfold BX12_sets_42
  refine s_Ildn 2 rfl 43 dX12_sets_42 rfl ?_
  refine s_bipush 45 48 (by decide) dX12_sets_43 rfl ?_
  refine s_cmpge 62 48 dX12_sets_45 (by decide) rfl ?_ ?_
  · refine s_Aldn 0 rfl 63 dX12_sets_62 rfl ?_
    refine s_get 12 27 66 clX12 (by decide) tw_1315 dX12_sets_63 rfl ?_
    refine s_Aldn 0 rfl 67 dX12_sets_66 rfl ?_
    refine s_get 12 24 70 clX12 (by decide) tw_1312 dX12_sets_67 rfl ?_
    refine s_Aldn 0 rfl 71 dX12_sets_70 rfl ?_
    refine s_get 12 24 74 clX12 (by decide) tw_1312 dX12_sets_71 rfl ?_
    refine s_Iw 75 pVH dX12_sets_74 rfl ?_
    refine s_Aldn 0 rfl 76 dX12_sets_75 rfl ?_
    refine s_get 12 3 79 clX12 (by decide) tw_1291 dX12_sets_76 rfl ?_
    refine s_getN 11 21 82 clX11 (by decide) nw_63 dX12_sets_79 rfl ?_
    refine s_Ildn 1 rfl 83 dX12_sets_82 rfl ?_
    refine s_Ia 84 dX12_sets_83 rfl ?_
    refine s_iconst 85 3 (by decide) dX12_sets_84 rfl ?_
    refine s_cmpeq 89 88 dX12_sets_85 (by decide) rfl ?_ ?_
    · refine s_iconst 90 0 (by decide) dX12_sets_89 rfl ?_
      refine s_Istn 2 rfl 91 (by decide) dX12_sets_90 rfl ?_
      exact s_pick (s_lp (fun k hk => sBX12_sets_91  hk) FU)
    · exact s_vretH rfl dX12_sets_88
  · refine s_Aldn 0 rfl 49 dX12_sets_48 rfl ?_
    refine s_get 12 27 52 clX12 (by decide) tw_1315 dX12_sets_49 rfl ?_
    refine s_Ildn 2 rfl 53 dX12_sets_52 rfl ?_
    refine s_bipush 55 (-2) (by decide) dX12_sets_53 rfl ?_
    refine s_Iw 56 pVH dX12_sets_55 rfl ?_
    refine s_inc 2 1 59 (by decide) (by decide) dX12_sets_56 rfl ?_
    refine s_goto 42 dX12_sets_59 (by decide) ?_
    exact s_pick hk42
def BX12_sets_0 : KT HP :=
  oAld 0 (oAld 0 (oGet 12 3 (oGet 11 22 (oIld 1 (oIa (oPut 12 24 .int (oAld 0 (oAld 0 (oGet 12 3 (oGet 11 23 (oIld 1 (oIa (oPut 12 25 .int (oAld 0 (oAld 0 (oGet 12 21 (oIld 1 (oiadd (oConst (.int 65537) (oirem (oPut 12 26 .int (oConst (.int 0) (oIst 2 (oPick [0, 1, 2] (lp (BX12_sets_42) FU)))))))))))))))))))))))))
set_option maxRecDepth 20000 in
theorem sBX12_sets_0 : Snd XX12_sets fVH 0 (BX12_sets_0) (0) (0) := by
  unfold BX12_sets_0
  refine s_Aldn 0 rfl 1 dX12_sets_0 rfl ?_
  refine s_Aldn 0 rfl 2 dX12_sets_1 rfl ?_
  refine s_get 12 3 5 clX12 (by decide) tw_1291 dX12_sets_2 rfl ?_
  refine s_getN 11 22 8 clX11 (by decide) nw_64 dX12_sets_5 rfl ?_
  refine s_Ildn 1 rfl 9 dX12_sets_8 rfl ?_
  refine s_Ia 10 dX12_sets_9 rfl ?_
  refine s_put 12 24 13 clX12 (by decide) rfl rfl pVH tw_1312 dX12_sets_10 rfl ?_
  refine s_Aldn 0 rfl 14 dX12_sets_13 rfl ?_
  refine s_Aldn 0 rfl 15 dX12_sets_14 rfl ?_
  refine s_get 12 3 18 clX12 (by decide) tw_1291 dX12_sets_15 rfl ?_
  refine s_getN 11 23 21 clX11 (by decide) nw_65 dX12_sets_18 rfl ?_
  refine s_Ildn 1 rfl 22 dX12_sets_21 rfl ?_
  refine s_Ia 23 dX12_sets_22 rfl ?_
  refine s_put 12 25 26 clX12 (by decide) rfl rfl pVH tw_1313 dX12_sets_23 rfl ?_
  refine s_Aldn 0 rfl 27 dX12_sets_26 rfl ?_
  refine s_Aldn 0 rfl 28 dX12_sets_27 rfl ?_
  refine s_get 12 21 31 clX12 (by decide) tw_1309 dX12_sets_28 rfl ?_
  refine s_Ildn 1 rfl 32 dX12_sets_31 rfl ?_
  refine s_iadd 33 dX12_sets_32 rfl ?_
  refine s_ldcw 36 65537 tw_1779 dX12_sets_33 rfl ?_
  refine s_irem 37 dX12_sets_36 rfl ?_
  refine s_put 12 26 40 clX12 (by decide) rfl rfl pVH tw_1314 dX12_sets_37 rfl ?_
  refine s_iconst 41 0 (by decide) dX12_sets_40 rfl ?_
  refine s_Istn 2 rfl 42 (by decide) dX12_sets_41 rfl ?_
  exact s_pick (s_lp (fun k hk => sBX12_sets_42  hk) FU)
def EX12_sets : List Value → HP → Option HP := en 3 BX12_sets_0
theorem cmX12_sets : CM XX12_sets EX12_sets fVH 0 0 := CM.of rfl (by decide) rfl rfl sBX12_sets_0
theorem yoX12_sets : YO XX12_sets 1 0 0 := ⟨tw_1778, rfl, tw_12, (by decide +kernel), rfl, rfl⟩
abbrev XX12_mownTo : MX := (yX12_mownTo, cX12_mownTo, 3, (Option.some .int), Cond.code yX12_mownTo cX12_mownTo 3 (Option.some .int) :: WS, { frames := 2, cells := 0, slots := 0, locals := 43 })
def BX12_mownTo_25 : KT Int32 :=
  oCal 2 none EX12_has fZ (oIfeq (oConst (.int (-1)) (oIretP)) (oIld 2 (oIretP)))
set_option maxRecDepth 20000 in
theorem sBX12_mownTo_25 : Snd XX12_mownTo fI 25 (BX12_mownTo_25) (0) (0) := by
  unfold BX12_mownTo_25
  refine s_cal0 28 (run_S (X := XX12_mownTo) yoX12_has tw_1628 tw_1629 (by decide) dX12_mownTo_25) cmX12_has (fun _ _ _ => rfl) rfl ?_
  refine s_ifeq 35 31 dX12_mownTo_28 (by decide) rfl ?_ ?_
  · refine s_iconst 36 (-1) (by decide) dX12_mownTo_35 rfl ?_
    exact s_iretP rfl dX12_mownTo_36
  · refine s_Ildn 2 rfl 32 dX12_mownTo_31 rfl ?_
    refine s_goto 36 dX12_mownTo_32 (by decide) ?_
    exact s_iretP rfl dX12_mownTo_36
def BX12_mownTo_11 : KT Int32 :=
  oCal 3 (some 11) EX11_to fI (oIst 2 (oIld 2 (oConst (.int (-1)) (oCmpeq (oConst (.int (-1)) (oIretP)) (oAld 0 (oGet 12 20 (oIld 2 (oPick [2] (BX12_mownTo_25)))))))))
set_option maxRecDepth 20000 in
theorem sBX12_mownTo_11 : Snd XX12_mownTo fI 11 (BX12_mownTo_11) (0) (0) := by
  unfold BX12_mownTo_11
  refine s_cal0 14 (run_V (X := XX12_mownTo) rfl clX11 yoX11_to rfl tw_1710 tw_1711 tw_1712 (by decide) dX12_mownTo_11) cmX11_to (fun _ _ _ => rfl) rfl ?_
  refine s_Istn 2 rfl 15 (by decide) dX12_mownTo_14 rfl ?_
  refine s_Ildn 2 rfl 16 dX12_mownTo_15 rfl ?_
  refine s_iconst 17 (-1) (by decide) dX12_mownTo_16 rfl ?_
  refine s_cmpeq 35 20 dX12_mownTo_17 (by decide) rfl ?_ ?_
  · refine s_iconst 36 (-1) (by decide) dX12_mownTo_35 rfl ?_
    exact s_iretP rfl dX12_mownTo_36
  · refine s_Aldn 0 rfl 21 dX12_mownTo_20 rfl ?_
    refine s_get 12 20 24 clX12 (by decide) tw_1308 dX12_mownTo_21 rfl ?_
    refine s_Ildn 2 rfl 25 dX12_mownTo_24 rfl ?_
    exact s_pick (sBX12_mownTo_25)
def BX12_mownTo_0 : KT Int32 :=
  oAld 0 (oGet 12 3 (oAld 0 (oGet 12 24 (oIld 1 (oConst (.int 3) (oiand (oPick [0] (BX12_mownTo_11))))))))
set_option maxRecDepth 20000 in
theorem sBX12_mownTo_0 : Snd XX12_mownTo fI 0 (BX12_mownTo_0) (0) (0) := by
  unfold BX12_mownTo_0
  refine s_Aldn 0 rfl 1 dX12_mownTo_0 rfl ?_
  refine s_get 12 3 4 clX12 (by decide) tw_1291 dX12_mownTo_1 rfl ?_
  refine s_Aldn 0 rfl 5 dX12_mownTo_4 rfl ?_
  refine s_get 12 24 8 clX12 (by decide) tw_1312 dX12_mownTo_5 rfl ?_
  refine s_Ildn 1 rfl 9 dX12_mownTo_8 rfl ?_
  refine s_iconst 10 3 (by decide) dX12_mownTo_9 rfl ?_
  refine s_iand 11 dX12_mownTo_10 rfl ?_
  exact s_pick (sBX12_mownTo_11)
def EX12_mownTo : List Value → HP → Option Int32 := en 3 BX12_mownTo_0
theorem cmX12_mownTo : CM XX12_mownTo EX12_mownTo fI 0 0 := CM.of rfl (by decide) rfl rfl sBX12_mownTo_0
theorem yoX12_mownTo : YO XX12_mownTo 1 0 0 := ⟨tw_1791, rfl, tw_12, (by decide +kernel), rfl, rfl⟩
abbrev XX12_isGate : MX := (yX12_isGate, cX12_isGate, 2, (Option.some .boolean), Cond.code yX12_isGate cX12_isGate 2 (Option.some .boolean) :: WS, { frames := 1, cells := 0, slots := 0, locals := 22 })
def BX12_isGate_8 : KT Bool :=
  oCal 2 none EX12_has fZ (oZretP)
set_option maxRecDepth 20000 in
theorem sBX12_isGate_8 : Snd XX12_isGate fZ 8 (BX12_isGate_8) (0) (0) := by
  unfold BX12_isGate_8
  refine s_cal0 11 (run_S (X := XX12_isGate) yoX12_has tw_1628 tw_1629 (by decide) dX12_isGate_8) cmX12_has (fun _ _ _ => rfl) rfl ?_
  exact s_zretP rfl dX12_isGate_11
def BX12_isGate_0 : KT Bool :=
  oAld 0 (oGet 12 3 (oGet 11 17 (oIld 1 (oPick [] (BX12_isGate_8)))))
set_option maxRecDepth 20000 in
theorem sBX12_isGate_0 : Snd XX12_isGate fZ 0 (BX12_isGate_0) (0) (0) := by
  unfold BX12_isGate_0
  refine s_Aldn 0 rfl 1 dX12_isGate_0 rfl ?_
  refine s_get 12 3 4 clX12 (by decide) tw_1291 dX12_isGate_1 rfl ?_
  refine s_getN 11 17 7 clX11 (by decide) nw_59 dX12_isGate_4 rfl ?_
  refine s_Ildn 1 rfl 8 dX12_isGate_7 rfl ?_
  exact s_pick (sBX12_isGate_8)
def EX12_isGate : List Value → HP → Option Bool := en 2 BX12_isGate_0
theorem cmX12_isGate : CM XX12_isGate EX12_isGate fZ 0 0 := CM.of rfl (by decide) rfl rfl sBX12_isGate_0
theorem yoX12_isGate : YO XX12_isGate 1 0 0 := ⟨tw_1813, rfl, tw_12, (by decide +kernel), rfl, rfl⟩
abbrev XX12_turns : MX := (yX12_turns, cX12_turns, 5, none, Cond.code yX12_turns cX12_turns 5 none :: WS, { frames := 3, cells := 0, slots := 0, locals := 65 })
def BX12_turns_46 (k2 : KT HP) : KT HP :=
  oCal 2 (some 12) EX12_mownTo fI (oIst 4 (oIld 4 (oConst (.int (-1)) (oCmpne (oAld 0 (oIld 4 (oPut 12 24 .int (oAld 0 (oIld 3 (oPut 12 25 .int (oVretH))))))) (oInc 2 1 (oPick [0, 1, 2] k2))))))
set_option maxRecDepth 20000 in
theorem sBX12_turns_46 {k2 : KT HP} (hk2 : Snd XX12_turns fVH 2 k2 0 0) : Snd XX12_turns fVH 46 (BX12_turns_46 k2) (0) (0) := by
  unfold BX12_turns_46
  refine s_cal0 49 (run_V (X := XX12_turns) rfl clX12 yoX12_mownTo rfl tw_1788 tw_1790 tw_p89 (by decide) dX12_turns_46) cmX12_mownTo (fun _ _ _ => rfl) rfl ?_
  refine s_Ist 4 51 (by decide) dX12_turns_49 rfl ?_
  refine s_Ild 4 53 dX12_turns_51 rfl ?_
  refine s_iconst 54 (-1) (by decide) dX12_turns_53 rfl ?_
  refine s_cmpne 60 57 dX12_turns_54 (by decide) rfl ?_ ?_
  · refine s_Aldn 0 rfl 61 dX12_turns_60 rfl ?_
    refine s_Ild 4 63 dX12_turns_61 rfl ?_
    refine s_put 12 24 66 clX12 (by decide) rfl rfl pVH tw_1312 dX12_turns_63 rfl ?_
    refine s_Aldn 0 rfl 67 dX12_turns_66 rfl ?_
    refine s_Ildn 3 rfl 68 dX12_turns_67 rfl ?_
    refine s_put 12 25 71 clX12 (by decide) rfl rfl pVH tw_1313 dX12_turns_68 rfl ?_
    exact s_vretH rfl dX12_turns_71
  · refine s_goto 72 dX12_turns_57 (by decide) ?_
    refine s_inc 2 1 75 (by decide) (by decide) dX12_turns_72 rfl ?_
    refine s_goto 2 dX12_turns_75 (by decide) ?_
    exact s_pick hk2
def BX12_turns_40 (k2 : KT HP) : KT HP :=
  oiadd (oConst (.int 3) (oiand (oIst 3 (oAld 0 (oIld 3 (oPick [0, 1, 2, 3] (BX12_turns_46 k2)))))))
set_option maxRecDepth 20000 in
theorem sBX12_turns_40 {k2 : KT HP} (hk2 : Snd XX12_turns fVH 2 k2 0 0) : Snd XX12_turns fVH 40 (BX12_turns_40 k2) (0) (0) := by
  unfold BX12_turns_40
  refine s_iadd 41 dX12_turns_40 rfl ?_
  refine s_iconst 42 3 (by decide) dX12_turns_41 rfl ?_
  refine s_iand 43 dX12_turns_42 rfl ?_
  refine s_Istn 3 rfl 44 (by decide) dX12_turns_43 rfl ?_
  refine s_Aldn 0 rfl 45 dX12_turns_44 rfl ?_
  refine s_Ildn 3 rfl 46 dX12_turns_45 rfl ?_
  exact s_pick (sBX12_turns_46 hk2)
def BX12_turns_2 (k2 : KT HP) : KT HP :=
  oIld 2 (oConst (.int 4) (oCmpge (oVretH) (oAld 0 (oGet 12 25 (oIld 2 (oIfne (oIld 2 (oConst (.int 1) (oCmpne (oIld 2 (oConst (.int 2) (oCmpne (oConst (.int 2) (oPick [0, 1, 2] (BX12_turns_40 k2))) (oConst (.int 4) (oIld 1 (oisub (oPick [0, 1, 2] (BX12_turns_40 k2)))))))) (oConst (.int 0) (oPick [0, 1, 2] (BX12_turns_40 k2)))))) (oIld 1 (oPick [0, 1, 2] (BX12_turns_40 k2)))))))))
set_option maxRecDepth 20000 in
theorem sBX12_turns_2 {k2 : KT HP} (hk2 : Snd XX12_turns fVH 2 k2 0 0) : Snd XX12_turns fVH 2 (BX12_turns_2 k2) (0) (0) := by
  unfold BX12_turns_2
  refine s_Ildn 2 rfl 3 dX12_turns_2 rfl ?_
  refine s_iconst 4 4 (by decide) dX12_turns_3 rfl ?_
  refine s_cmpge 78 7 dX12_turns_4 (by decide) rfl ?_ ?_
  · exact s_vretH rfl dX12_turns_78
  · refine s_Aldn 0 rfl 8 dX12_turns_7 rfl ?_
    refine s_get 12 25 11 clX12 (by decide) tw_1313 dX12_turns_8 rfl ?_
    refine s_Ildn 2 rfl 12 dX12_turns_11 rfl ?_
    refine s_ifne 19 15 dX12_turns_12 (by decide) rfl ?_ ?_
    · refine s_Ildn 2 rfl 20 dX12_turns_19 rfl ?_
      refine s_iconst 21 1 (by decide) dX12_turns_20 rfl ?_
      refine s_cmpne 28 24 dX12_turns_21 (by decide) rfl ?_ ?_
      · refine s_Ildn 2 rfl 29 dX12_turns_28 rfl ?_
        refine s_iconst 30 2 (by decide) dX12_turns_29 rfl ?_
        refine s_cmpne 39 33 dX12_turns_30 (by decide) rfl ?_ ?_
        · refine s_iconst 40 2 (by decide) dX12_turns_39 rfl ?_
          exact s_pick (sBX12_turns_40 hk2)
        · refine s_iconst 34 4 (by decide) dX12_turns_33 rfl ?_
          refine s_Ildn 1 rfl 35 dX12_turns_34 rfl ?_
          refine s_isub 36 dX12_turns_35 rfl ?_
          refine s_goto 40 dX12_turns_36 (by decide) ?_
          exact s_pick (sBX12_turns_40 hk2)
      · refine s_iconst 25 0 (by decide) dX12_turns_24 rfl ?_
        refine s_goto 40 dX12_turns_25 (by decide) ?_
        exact s_pick (sBX12_turns_40 hk2)
    · refine s_Ildn 1 rfl 16 dX12_turns_15 rfl ?_
      refine s_goto 40 dX12_turns_16 (by decide) ?_
      exact s_pick (sBX12_turns_40 hk2)
def BX12_turns_0 : KT HP :=
  oConst (.int 0) (oIst 2 (oPick [0, 1, 2] (lp (BX12_turns_2) FU)))
set_option maxRecDepth 20000 in
theorem sBX12_turns_0 : Snd XX12_turns fVH 0 (BX12_turns_0) (0) (0) := by
  unfold BX12_turns_0
  refine s_iconst 1 0 (by decide) dX12_turns_0 rfl ?_
  refine s_Istn 2 rfl 2 (by decide) dX12_turns_1 rfl ?_
  exact s_pick (s_lp (fun k hk => sBX12_turns_2  hk) FU)
def EX12_turns : List Value → HP → Option HP := en 5 BX12_turns_0
theorem cmX12_turns : CM XX12_turns EX12_turns fVH 0 0 := CM.of rfl (by decide) rfl rfl sBX12_turns_0
theorem yoX12_turns : YO XX12_turns 1 0 0 := ⟨tw_1787, rfl, tw_12, (by decide +kernel), rfl, rfl⟩
abbrev XX12_goesOnce : MX := (yX12_goesOnce, cX12_goesOnce, 3, none, Cond.code yX12_goesOnce cX12_goesOnce 3 none :: WS, { frames := 3, cells := 0, slots := 0, locals := 65 })
def BX12_goesOnce_67 : KT HP :=
  oCal 2 none EX12_has fZ (oIfeq (oVretH) (oAld 0 (oAld 0 (oGet 12 27 (oAld 0 (oGet 12 24 (oIa (oPut 12 24 .int (oVretH)))))))))
set_option maxRecDepth 20000 in
theorem sBX12_goesOnce_67 : Snd XX12_goesOnce fVH 67 (BX12_goesOnce_67) (0) (0) := by
  unfold BX12_goesOnce_67
  refine s_cal0 70 (run_S (X := XX12_goesOnce) yoX12_has tw_1628 tw_1629 (by decide) dX12_goesOnce_67) cmX12_has (fun _ _ _ => rfl) rfl ?_
  refine s_ifeq 86 73 dX12_goesOnce_70 (by decide) rfl ?_ ?_
  · exact s_vretH rfl dX12_goesOnce_86
  · refine s_Aldn 0 rfl 74 dX12_goesOnce_73 rfl ?_
    refine s_Aldn 0 rfl 75 dX12_goesOnce_74 rfl ?_
    refine s_get 12 27 78 clX12 (by decide) tw_1315 dX12_goesOnce_75 rfl ?_
    refine s_Aldn 0 rfl 79 dX12_goesOnce_78 rfl ?_
    refine s_get 12 24 82 clX12 (by decide) tw_1312 dX12_goesOnce_79 rfl ?_
    refine s_Ia 83 dX12_goesOnce_82 rfl ?_
    refine s_put 12 24 86 clX12 (by decide) rfl rfl pVH tw_1312 dX12_goesOnce_83 rfl ?_
    exact s_vretH rfl dX12_goesOnce_86
def BX12_goesOnce_9 (k2 : KT HP) : KT HP :=
  oCal 2 (some 12) EX12_mownTo fI (oIst 2 (oIld 2 (oConst (.int (-1)) (oCmpeq (oInc 1 1 (oPick [0, 1] k2)) (oAld 0 (oGet 12 27 (oIld 2 (oIa (oConst (.int (-2)) (oCmpeq (oAld 0 (oGet 12 27 (oIld 2 (oAld 0 (oGet 12 24 (oIw (oAld 0 (oIld 2 (oPut 12 24 .int (oVretH)))))))))) (oInc 1 1 (oPick [0, 1] k2))))))))))))
set_option maxRecDepth 20000 in
theorem sBX12_goesOnce_9 {k2 : KT HP} (hk2 : Snd XX12_goesOnce fVH 2 k2 0 0) : Snd XX12_goesOnce fVH 9 (BX12_goesOnce_9 k2) (0) (0) := by
  unfold BX12_goesOnce_9
  refine s_cal0 12 (run_V (X := XX12_goesOnce) rfl clX12 yoX12_mownTo rfl tw_1788 tw_1790 tw_p89 (by decide) dX12_goesOnce_9) cmX12_mownTo (fun _ _ _ => rfl) rfl ?_
  refine s_Istn 2 rfl 13 (by decide) dX12_goesOnce_12 rfl ?_
  refine s_Ildn 2 rfl 14 dX12_goesOnce_13 rfl ?_
  refine s_iconst 15 (-1) (by decide) dX12_goesOnce_14 rfl ?_
  refine s_cmpeq 48 18 dX12_goesOnce_15 (by decide) rfl ?_ ?_
  · refine s_inc 1 1 51 (by decide) (by decide) dX12_goesOnce_48 rfl ?_
    refine s_goto 2 dX12_goesOnce_51 (by decide) ?_
    exact s_pick hk2
  · refine s_Aldn 0 rfl 19 dX12_goesOnce_18 rfl ?_
    refine s_get 12 27 22 clX12 (by decide) tw_1315 dX12_goesOnce_19 rfl ?_
    refine s_Ildn 2 rfl 23 dX12_goesOnce_22 rfl ?_
    refine s_Ia 24 dX12_goesOnce_23 rfl ?_
    refine s_bipush 26 (-2) (by decide) dX12_goesOnce_24 rfl ?_
    refine s_cmpeq 32 29 dX12_goesOnce_26 (by decide) rfl ?_ ?_
    · refine s_Aldn 0 rfl 33 dX12_goesOnce_32 rfl ?_
      refine s_get 12 27 36 clX12 (by decide) tw_1315 dX12_goesOnce_33 rfl ?_
      refine s_Ildn 2 rfl 37 dX12_goesOnce_36 rfl ?_
      refine s_Aldn 0 rfl 38 dX12_goesOnce_37 rfl ?_
      refine s_get 12 24 41 clX12 (by decide) tw_1312 dX12_goesOnce_38 rfl ?_
      refine s_Iw 42 pVH dX12_goesOnce_41 rfl ?_
      refine s_Aldn 0 rfl 43 dX12_goesOnce_42 rfl ?_
      refine s_Ildn 2 rfl 44 dX12_goesOnce_43 rfl ?_
      refine s_put 12 24 47 clX12 (by decide) rfl rfl pVH tw_1312 dX12_goesOnce_44 rfl ?_
      exact s_vretH rfl dX12_goesOnce_47
    · refine s_goto 48 dX12_goesOnce_29 (by decide) ?_
      refine s_inc 1 1 51 (by decide) (by decide) dX12_goesOnce_48 rfl ?_
      refine s_goto 2 dX12_goesOnce_51 (by decide) ?_
      exact s_pick hk2
def BX12_goesOnce_2 (k2 : KT HP) : KT HP :=
  oIld 1 (oConst (.int 4) (oCmpge (oAld 0 (oGet 12 20 (oAld 0 (oGet 12 27 (oAld 0 (oGet 12 24 (oIa (oPick [0] (BX12_goesOnce_67))))))))) (oAld 0 (oIld 1 (oPick [0, 1] (BX12_goesOnce_9 k2))))))
set_option maxRecDepth 20000 in
theorem sBX12_goesOnce_2 {k2 : KT HP} (hk2 : Snd XX12_goesOnce fVH 2 k2 0 0) : Snd XX12_goesOnce fVH 2 (BX12_goesOnce_2 k2) (0) (0) := by
  unfold BX12_goesOnce_2
  refine s_Ildn 1 rfl 3 dX12_goesOnce_2 rfl ?_
  refine s_iconst 4 4 (by decide) dX12_goesOnce_3 rfl ?_
  refine s_cmpge 54 7 dX12_goesOnce_4 (by decide) rfl ?_ ?_
  · refine s_Aldn 0 rfl 55 dX12_goesOnce_54 rfl ?_
    refine s_get 12 20 58 clX12 (by decide) tw_1308 dX12_goesOnce_55 rfl ?_
    refine s_Aldn 0 rfl 59 dX12_goesOnce_58 rfl ?_
    refine s_get 12 27 62 clX12 (by decide) tw_1315 dX12_goesOnce_59 rfl ?_
    refine s_Aldn 0 rfl 63 dX12_goesOnce_62 rfl ?_
    refine s_get 12 24 66 clX12 (by decide) tw_1312 dX12_goesOnce_63 rfl ?_
    refine s_Ia 67 dX12_goesOnce_66 rfl ?_
    exact s_pick (sBX12_goesOnce_67)
  · refine s_Aldn 0 rfl 8 dX12_goesOnce_7 rfl ?_
    refine s_Ildn 1 rfl 9 dX12_goesOnce_8 rfl ?_
    exact s_pick (sBX12_goesOnce_9 hk2)
def BX12_goesOnce_0 : KT HP :=
  oConst (.int 0) (oIst 1 (oPick [0, 1] (lp (BX12_goesOnce_2) FU)))
set_option maxRecDepth 20000 in
theorem sBX12_goesOnce_0 : Snd XX12_goesOnce fVH 0 (BX12_goesOnce_0) (0) (0) := by
  unfold BX12_goesOnce_0
  refine s_iconst 1 0 (by decide) dX12_goesOnce_0 rfl ?_
  refine s_Istn 1 rfl 2 (by decide) dX12_goesOnce_1 rfl ?_
  exact s_pick (s_lp (fun k hk => sBX12_goesOnce_2  hk) FU)
def EX12_goesOnce : List Value → HP → Option HP := en 3 BX12_goesOnce_0
theorem cmX12_goesOnce : CM XX12_goesOnce EX12_goesOnce fVH 0 0 := CM.of rfl (by decide) rfl rfl sBX12_goesOnce_0
theorem yoX12_goesOnce : YO XX12_goesOnce 0 0 0 := ⟨tw_1795, rfl, tw_12, (by decide +kernel), rfl, rfl⟩
abbrev XX12_goesToNoise : MX := (yX12_goesToNoise, cX12_goesToNoise, 4, none, Cond.code yX12_goesToNoise cX12_goesToNoise 4 none :: WS, { frames := 3, cells := 0, slots := 0, locals := 65 })
def BX12_goesToNoise_26 (k19 : KT HP) : KT HP :=
  oCal 2 (some 12) EX12_mownTo fI (oIst 3 (oIld 3 (oConst (.int (-1)) (oCmpeq (oInc 2 1 (oPick [0, 1, 2] k19)) (oAld 0 (oGet 12 28 (oIld 3 (oIa (oConst (.int (-2)) (oCmpeq (oInc 2 1 (oPick [0, 1, 2] k19)) (oIld 1 (oConst (.int (-1)) (oCmpeq (oIld 3 (oIst 1 (oInc 2 1 (oPick [0, 1, 2] k19)))) (oAld 0 (oGet 12 28 (oIld 3 (oIa (oAld 0 (oGet 12 28 (oIld 1 (oIa (oCmplt (oIld 3 (oIst 1 (oInc 2 1 (oPick [0, 1, 2] k19)))) (oInc 2 1 (oPick [0, 1, 2] k19))))))))))))))))))))))))
set_option maxRecDepth 20000 in
theorem sBX12_goesToNoise_26 {k19 : KT HP} (hk19 : Snd XX12_goesToNoise fVH 19 k19 0 0) : Snd XX12_goesToNoise fVH 26 (BX12_goesToNoise_26 k19) (0) (0) := by
  unfold BX12_goesToNoise_26
  refine s_cal0 29 (run_V (X := XX12_goesToNoise) rfl clX12 yoX12_mownTo rfl tw_1788 tw_1790 tw_p89 (by decide) dX12_goesToNoise_26) cmX12_mownTo (fun _ _ _ => rfl) rfl ?_
  refine s_Istn 3 rfl 30 (by decide) dX12_goesToNoise_29 rfl ?_
  refine s_Ildn 3 rfl 31 dX12_goesToNoise_30 rfl ?_
  refine s_iconst 32 (-1) (by decide) dX12_goesToNoise_31 rfl ?_
  refine s_cmpeq 71 35 dX12_goesToNoise_32 (by decide) rfl ?_ ?_
  · refine s_inc 2 1 74 (by decide) (by decide) dX12_goesToNoise_71 rfl ?_
    refine s_goto 19 dX12_goesToNoise_74 (by decide) ?_
    exact s_pick hk19
  · refine s_Aldn 0 rfl 36 dX12_goesToNoise_35 rfl ?_
    refine s_get 12 28 39 clX12 (by decide) tw_1316 dX12_goesToNoise_36 rfl ?_
    refine s_Ildn 3 rfl 40 dX12_goesToNoise_39 rfl ?_
    refine s_Ia 41 dX12_goesToNoise_40 rfl ?_
    refine s_bipush 43 (-2) (by decide) dX12_goesToNoise_41 rfl ?_
    refine s_cmpeq 71 46 dX12_goesToNoise_43 (by decide) rfl ?_ ?_
    · refine s_inc 2 1 74 (by decide) (by decide) dX12_goesToNoise_71 rfl ?_
      refine s_goto 19 dX12_goesToNoise_74 (by decide) ?_
      exact s_pick hk19
    · refine s_Ildn 1 rfl 47 dX12_goesToNoise_46 rfl ?_
      refine s_iconst 48 (-1) (by decide) dX12_goesToNoise_47 rfl ?_
      refine s_cmpeq 69 51 dX12_goesToNoise_48 (by decide) rfl ?_ ?_
      · refine s_Ildn 3 rfl 70 dX12_goesToNoise_69 rfl ?_
        refine s_Istn 1 rfl 71 (by decide) dX12_goesToNoise_70 rfl ?_
        refine s_inc 2 1 74 (by decide) (by decide) dX12_goesToNoise_71 rfl ?_
        refine s_goto 19 dX12_goesToNoise_74 (by decide) ?_
        exact s_pick hk19
      · refine s_Aldn 0 rfl 52 dX12_goesToNoise_51 rfl ?_
        refine s_get 12 28 55 clX12 (by decide) tw_1316 dX12_goesToNoise_52 rfl ?_
        refine s_Ildn 3 rfl 56 dX12_goesToNoise_55 rfl ?_
        refine s_Ia 57 dX12_goesToNoise_56 rfl ?_
        refine s_Aldn 0 rfl 58 dX12_goesToNoise_57 rfl ?_
        refine s_get 12 28 61 clX12 (by decide) tw_1316 dX12_goesToNoise_58 rfl ?_
        refine s_Ildn 1 rfl 62 dX12_goesToNoise_61 rfl ?_
        refine s_Ia 63 dX12_goesToNoise_62 rfl ?_
        refine s_cmplt 69 66 dX12_goesToNoise_63 (by decide) rfl ?_ ?_
        · refine s_Ildn 3 rfl 70 dX12_goesToNoise_69 rfl ?_
          refine s_Istn 1 rfl 71 (by decide) dX12_goesToNoise_70 rfl ?_
          refine s_inc 2 1 74 (by decide) (by decide) dX12_goesToNoise_71 rfl ?_
          refine s_goto 19 dX12_goesToNoise_74 (by decide) ?_
          exact s_pick hk19
        · refine s_goto 71 dX12_goesToNoise_66 (by decide) ?_
          refine s_inc 2 1 74 (by decide) (by decide) dX12_goesToNoise_71 rfl ?_
          refine s_goto 19 dX12_goesToNoise_74 (by decide) ?_
          exact s_pick hk19
def BX12_goesToNoise_19 (k19 : KT HP) : KT HP :=
  oIld 2 (oConst (.int 4) (oCmpge (oIld 1 (oConst (.int (-1)) (oCmpeq (oVretH) (oAld 0 (oIld 1 (oPut 12 24 .int (oVretH))))))) (oAld 0 (oIld 2 (oPick [0, 1, 2] (BX12_goesToNoise_26 k19))))))
set_option maxRecDepth 20000 in
theorem sBX12_goesToNoise_19 {k19 : KT HP} (hk19 : Snd XX12_goesToNoise fVH 19 k19 0 0) : Snd XX12_goesToNoise fVH 19 (BX12_goesToNoise_19 k19) (0) (0) := by
  unfold BX12_goesToNoise_19
  refine s_Ildn 2 rfl 20 dX12_goesToNoise_19 rfl ?_
  refine s_iconst 21 4 (by decide) dX12_goesToNoise_20 rfl ?_
  refine s_cmpge 77 24 dX12_goesToNoise_21 (by decide) rfl ?_ ?_
  · refine s_Ildn 1 rfl 78 dX12_goesToNoise_77 rfl ?_
    refine s_iconst 79 (-1) (by decide) dX12_goesToNoise_78 rfl ?_
    refine s_cmpeq 87 82 dX12_goesToNoise_79 (by decide) rfl ?_ ?_
    · exact s_vretH rfl dX12_goesToNoise_87
    · refine s_Aldn 0 rfl 83 dX12_goesToNoise_82 rfl ?_
      refine s_Ildn 1 rfl 84 dX12_goesToNoise_83 rfl ?_
      refine s_put 12 24 87 clX12 (by decide) rfl rfl pVH tw_1312 dX12_goesToNoise_84 rfl ?_
      exact s_vretH rfl dX12_goesToNoise_87
  · refine s_Aldn 0 rfl 25 dX12_goesToNoise_24 rfl ?_
    refine s_Ildn 2 rfl 26 dX12_goesToNoise_25 rfl ?_
    exact s_pick (sBX12_goesToNoise_26 hk19)
def BX12_goesToNoise_0 : KT HP :=
  oAld 0 (oGet 12 24 (oAld 0 (oGet 12 3 (oGet 11 11 (oCmpne (oConst (.int (-1)) (oIst 1 (oConst (.int 0) (oIst 2 (oPick [0, 1, 2] (lp (BX12_goesToNoise_19) FU)))))) (oVretH))))))
set_option maxRecDepth 20000 in
theorem sBX12_goesToNoise_0 : Snd XX12_goesToNoise fVH 0 (BX12_goesToNoise_0) (0) (0) := by
  unfold BX12_goesToNoise_0
  refine s_Aldn 0 rfl 1 dX12_goesToNoise_0 rfl ?_
  refine s_get 12 24 4 clX12 (by decide) tw_1312 dX12_goesToNoise_1 rfl ?_
  refine s_Aldn 0 rfl 5 dX12_goesToNoise_4 rfl ?_
  refine s_get 12 3 8 clX12 (by decide) tw_1291 dX12_goesToNoise_5 rfl ?_
  refine s_getN 11 11 11 clX11 (by decide) nw_53 dX12_goesToNoise_8 rfl ?_
  refine s_cmpne 15 14 dX12_goesToNoise_11 (by decide) rfl ?_ ?_
  · refine s_iconst 16 (-1) (by decide) dX12_goesToNoise_15 rfl ?_
    refine s_Istn 1 rfl 17 (by decide) dX12_goesToNoise_16 rfl ?_
    refine s_iconst 18 0 (by decide) dX12_goesToNoise_17 rfl ?_
    refine s_Istn 2 rfl 19 (by decide) dX12_goesToNoise_18 rfl ?_
    exact s_pick (s_lp (fun k hk => sBX12_goesToNoise_19  hk) FU)
  · exact s_vretH rfl dX12_goesToNoise_14
def EX12_goesToNoise : List Value → HP → Option HP := en 4 BX12_goesToNoise_0
theorem cmX12_goesToNoise : CM XX12_goesToNoise EX12_goesToNoise fVH 0 0 := CM.of rfl (by decide) rfl rfl sBX12_goesToNoise_0
theorem yoX12_goesToNoise : YO XX12_goesToNoise 0 0 0 := ⟨tw_1799, rfl, tw_12, (by decide +kernel), rfl, rfl⟩
abbrev XX12_goesByLot : MX := (yX12_goesByLot, cX12_goesByLot, 6, none, Cond.code yX12_goesByLot cX12_goesByLot 6 none :: WS, { frames := 3, cells := 0, slots := 0, locals := 70 })
def BX12_goesByLot_53 (k44 : KT HP) : KT HP :=
  oCal 2 (some 12) EX12_mownTo fI (oIst 5 (oIld 5 (oConst (.int (-1)) (oCmpne (oIld 3 (oIfne (oInc 3 (-1) (oInc 4 1 (oPick [0, 3, 4] k44))) (oAld 0 (oIld 5 (oPut 12 24 .int (oVretH)))))) (oInc 4 1 (oPick [0, 3, 4] k44))))))
set_option maxRecDepth 20000 in
theorem sBX12_goesByLot_53 {k44 : KT HP} (hk44 : Snd XX12_goesByLot fVH 44 k44 0 0) : Snd XX12_goesByLot fVH 53 (BX12_goesByLot_53 k44) (0) (0) := by
  unfold BX12_goesByLot_53
  refine s_cal0 56 (run_V (X := XX12_goesByLot) rfl clX12 yoX12_mownTo rfl tw_1788 tw_1790 tw_p89 (by decide) dX12_goesByLot_53) cmX12_mownTo (fun _ _ _ => rfl) rfl ?_
  refine s_Ist 5 58 (by decide) dX12_goesByLot_56 rfl ?_
  refine s_Ild 5 60 dX12_goesByLot_58 rfl ?_
  refine s_iconst 61 (-1) (by decide) dX12_goesByLot_60 rfl ?_
  refine s_cmpne 67 64 dX12_goesByLot_61 (by decide) rfl ?_ ?_
  · refine s_Ildn 3 rfl 68 dX12_goesByLot_67 rfl ?_
    refine s_ifne 78 71 dX12_goesByLot_68 (by decide) rfl ?_ ?_
    · refine s_inc 3 (-1) 81 (by decide) (by decide) dX12_goesByLot_78 rfl ?_
      refine s_inc 4 1 84 (by decide) (by decide) dX12_goesByLot_81 rfl ?_
      refine s_goto 44 dX12_goesByLot_84 (by decide) ?_
      exact s_pick hk44
    · refine s_Aldn 0 rfl 72 dX12_goesByLot_71 rfl ?_
      refine s_Ild 5 74 dX12_goesByLot_72 rfl ?_
      refine s_put 12 24 77 clX12 (by decide) rfl rfl pVH tw_1312 dX12_goesByLot_74 rfl ?_
      exact s_vretH rfl dX12_goesByLot_77
  · refine s_goto 81 dX12_goesByLot_64 (by decide) ?_
    refine s_inc 4 1 84 (by decide) (by decide) dX12_goesByLot_81 rfl ?_
    refine s_goto 44 dX12_goesByLot_84 (by decide) ?_
    exact s_pick hk44
def BX12_goesByLot_44 (k44 : KT HP) : KT HP :=
  oIld 4 (oConst (.int 4) (oCmpge (oVretH) (oAld 0 (oIld 4 (oPick [0, 3, 4] (BX12_goesByLot_53 k44))))))
set_option maxRecDepth 20000 in
theorem sBX12_goesByLot_44 {k44 : KT HP} (hk44 : Snd XX12_goesByLot fVH 44 k44 0 0) : Snd XX12_goesByLot fVH 44 (BX12_goesByLot_44 k44) (0) (0) := by
  unfold BX12_goesByLot_44
  refine s_Ild 4 46 dX12_goesByLot_44 rfl ?_
  refine s_iconst 47 4 (by decide) dX12_goesByLot_46 rfl ?_
  refine s_cmpge 87 50 dX12_goesByLot_47 (by decide) rfl ?_ ?_
  · exact s_vretH rfl dX12_goesByLot_87
  · refine s_Aldn 0 rfl 51 dX12_goesByLot_50 rfl ?_
    refine s_Ild 4 53 dX12_goesByLot_51 rfl ?_
    exact s_pick (sBX12_goesByLot_53 hk44)
def BX12_goesByLot_36 : KT HP :=
  oCal 1 none EX12_bits fI (oirem (oIst 3 (oConst (.int 0) (oIst 4 (oPick [0, 3, 4] (lp (BX12_goesByLot_44) FU))))))
set_option maxRecDepth 20000 in
theorem sBX12_goesByLot_36 : Snd XX12_goesByLot fVH 36 (BX12_goesByLot_36) (0) (0) := by
  unfold BX12_goesByLot_36
  refine s_cal0 39 (run_S (X := XX12_goesByLot) yoX12_bits tw_1675 tw_1676 (by decide) dX12_goesByLot_36) cmX12_bits (fun _ _ _ => rfl) rfl ?_
  refine s_irem 40 dX12_goesByLot_39 rfl ?_
  refine s_Istn 3 rfl 41 (by decide) dX12_goesByLot_40 rfl ?_
  refine s_iconst 42 0 (by decide) dX12_goesByLot_41 rfl ?_
  refine s_Ist 4 44 (by decide) dX12_goesByLot_42 rfl ?_
  exact s_pick (s_lp (fun k hk => sBX12_goesByLot_44  hk) FU)
def BX12_goesByLot_9 : KT HP :=
  oCal 3 (some 12) EX12_besideOf fL (oLst 1 (oLld 1 (oConst (.long 0) (olcmp (oIfne (oAld 0 (oAld 0 (oGet 12 26 (oCal 1 none EX12_drawn fI (oPut 12 26 .int (oAld 0 (oGet 12 26 (oLld 1 (oPick [0] (BX12_goesByLot_36)))))))))) (oVretH))))))
set_option maxRecDepth 20000 in
theorem sBX12_goesByLot_9 : Snd XX12_goesByLot fVH 9 (BX12_goesByLot_9) (0) (0) := by
  unfold BX12_goesByLot_9
  refine s_cal0 12 (run_V (X := XX12_goesByLot) rfl clX12 yoX12_besideOf rfl tw_1706 tw_1708 tw_p79 (by decide) dX12_goesByLot_9) cmX12_besideOf (fun _ _ _ => rfl) rfl ?_
  refine s_Lstn 1 rfl 13 (by decide) dX12_goesByLot_12 rfl ?_
  refine s_Lldn 1 rfl 14 dX12_goesByLot_13 rfl ?_
  refine s_lconst 15 0 (by decide) dX12_goesByLot_14 rfl ?_
  refine s_lcmp 16 dX12_goesByLot_15 rfl ?_
  refine s_ifne 20 19 dX12_goesByLot_16 (by decide) rfl ?_ ?_
  · refine s_Aldn 0 rfl 21 dX12_goesByLot_20 rfl ?_
    refine s_Aldn 0 rfl 22 dX12_goesByLot_21 rfl ?_
    refine s_get 12 26 25 clX12 (by decide) tw_1314 dX12_goesByLot_22 rfl ?_
    refine s_cal0 28 (run_S (X := XX12_goesByLot) yoX12_drawn tw_1804 tw_1805 (by decide) dX12_goesByLot_25) cmX12_drawn (fun _ _ _ => rfl) rfl ?_
    refine s_put 12 26 31 clX12 (by decide) rfl rfl pVH tw_1314 dX12_goesByLot_28 rfl ?_
    refine s_Aldn 0 rfl 32 dX12_goesByLot_31 rfl ?_
    refine s_get 12 26 35 clX12 (by decide) tw_1314 dX12_goesByLot_32 rfl ?_
    refine s_Lldn 1 rfl 36 dX12_goesByLot_35 rfl ?_
    exact s_pick (sBX12_goesByLot_36)
  · exact s_vretH rfl dX12_goesByLot_19
def BX12_goesByLot_0 : KT HP :=
  oAld 0 (oAld 0 (oGet 12 20 (oAld 0 (oGet 12 24 (oPick [0] (BX12_goesByLot_9))))))
set_option maxRecDepth 20000 in
theorem sBX12_goesByLot_0 : Snd XX12_goesByLot fVH 0 (BX12_goesByLot_0) (0) (0) := by
  unfold BX12_goesByLot_0
  refine s_Aldn 0 rfl 1 dX12_goesByLot_0 rfl ?_
  refine s_Aldn 0 rfl 2 dX12_goesByLot_1 rfl ?_
  refine s_get 12 20 5 clX12 (by decide) tw_1308 dX12_goesByLot_2 rfl ?_
  refine s_Aldn 0 rfl 6 dX12_goesByLot_5 rfl ?_
  refine s_get 12 24 9 clX12 (by decide) tw_1312 dX12_goesByLot_6 rfl ?_
  exact s_pick (sBX12_goesByLot_9)
def EX12_goesByLot : List Value → HP → Option HP := en 6 BX12_goesByLot_0
theorem cmX12_goesByLot : CM XX12_goesByLot EX12_goesByLot fVH 0 0 := CM.of rfl (by decide) rfl rfl sBX12_goesByLot_0
theorem yoX12_goesByLot : YO XX12_goesByLot 0 0 0 := ⟨tw_1803, rfl, tw_12, (by decide +kernel), rfl, rfl⟩
abbrev XX12_goes : MX := (yX12_goes, cX12_goes, 2, none, Cond.code yX12_goes cX12_goes 2 none :: WS, { frames := 4, cells := 0, slots := 0, locals := 95 })
def BX12_goes_71 : KT HP :=
  oCal 1 (some 12) EX12_goesByLot fVH (oVretH)
set_option maxRecDepth 20000 in
theorem sBX12_goes_71 : Snd XX12_goes fVH 71 (BX12_goes_71) (0) (0) := by
  unfold BX12_goes_71
  refine s_cal0 74 (run_V (X := XX12_goes) rfl clX12 yoX12_goesByLot rfl tw_1800 tw_1802 tw_p92 (by decide) dX12_goes_71) cmX12_goesByLot (fun _ _ _ => rfl) rfl ?_
  exact s_vretH rfl dX12_goes_74
def BX12_goes_64 : KT HP :=
  oCal 1 (some 12) EX12_goesToNoise fVH (oVretH)
set_option maxRecDepth 20000 in
theorem sBX12_goes_64 : Snd XX12_goes fVH 64 (BX12_goes_64) (0) (0) := by
  unfold BX12_goes_64
  refine s_cal0 67 (run_V (X := XX12_goes) rfl clX12 yoX12_goesToNoise rfl tw_1796 tw_1798 tw_p91 (by decide) dX12_goes_64) cmX12_goesToNoise (fun _ _ _ => rfl) rfl ?_
  refine s_goto 74 dX12_goes_67 (by decide) ?_
  exact s_vretH rfl dX12_goes_74
def BX12_goes_57 : KT HP :=
  oCal 1 (some 12) EX12_goesOnce fVH (oVretH)
set_option maxRecDepth 20000 in
theorem sBX12_goes_57 : Snd XX12_goes fVH 57 (BX12_goes_57) (0) (0) := by
  unfold BX12_goes_57
  refine s_cal0 60 (run_V (X := XX12_goes) rfl clX12 yoX12_goesOnce rfl tw_1792 tw_1794 tw_p90 (by decide) dX12_goes_57) cmX12_goesOnce (fun _ _ _ => rfl) rfl ?_
  refine s_goto 74 dX12_goes_60 (by decide) ?_
  exact s_vretH rfl dX12_goes_74
def BX12_goes_50 : KT HP :=
  oCal 2 (some 12) EX12_turns fVH (oVretH)
set_option maxRecDepth 20000 in
theorem sBX12_goes_50 : Snd XX12_goes fVH 50 (BX12_goes_50) (0) (0) := by
  unfold BX12_goes_50
  refine s_cal0 53 (run_V (X := XX12_goes) rfl clX12 yoX12_turns rfl tw_1784 tw_1786 tw_p88 (by decide) dX12_goes_50) cmX12_turns (fun _ _ _ => rfl) rfl ?_
  refine s_goto 74 dX12_goes_53 (by decide) ?_
  exact s_vretH rfl dX12_goes_74
def BX12_goes_42 : KT HP :=
  oCal 2 (some 12) EX12_turns fVH (oVretH)
set_option maxRecDepth 20000 in
theorem sBX12_goes_42 : Snd XX12_goes fVH 42 (BX12_goes_42) (0) (0) := by
  unfold BX12_goes_42
  refine s_cal0 45 (run_V (X := XX12_goes) rfl clX12 yoX12_turns rfl tw_1784 tw_1786 tw_p88 (by decide) dX12_goes_42) cmX12_turns (fun _ _ _ => rfl) rfl ?_
  refine s_goto 74 dX12_goes_45 (by decide) ?_
  exact s_vretH rfl dX12_goes_74
def BX12_goes_0 : KT HP :=
  oAld 0 (oGet 12 3 (oGet 11 21 (oIld 1 (oIa (oTab 0 [(oAld 0 (oConst (.int 3) (oPick [] (BX12_goes_42)))), (oAld 0 (oConst (.int 1) (oPick [] (BX12_goes_50)))), (oAld 0 (oPick [] (BX12_goes_57))), (oAld 0 (oPick [] (BX12_goes_64)))] (oAld 0 (oPick [] (BX12_goes_71))))))))
set_option maxRecDepth 20000 in
theorem sBX12_goes_0 : Snd XX12_goes fVH 0 (BX12_goes_0) (0) (0) := by
  unfold BX12_goes_0
  refine s_Aldn 0 rfl 1 dX12_goes_0 rfl ?_
  refine s_get 12 3 4 clX12 (by decide) tw_1291 dX12_goes_1 rfl ?_
  refine s_getN 11 21 7 clX11 (by decide) nw_63 dX12_goes_4 rfl ?_
  refine s_Ildn 1 rfl 8 dX12_goes_7 rfl ?_
  refine s_Ia 9 dX12_goes_8 rfl ?_
  refine s_tab 0 3 0 [40, 48, 56, 63] 70 dX12_goes_9 rfl (by decide) (by decide) (by decide) (by decide) (by decide) ?_ ?_
  · refine s_Aldn 0 rfl 71 dX12_goes_70 rfl ?_
    exact s_pick (sBX12_goes_71)
  · refine Sall_cons ?_ ?_
    · refine s_Aldn 0 rfl 41 dX12_goes_40 rfl ?_
      refine s_iconst 42 3 (by decide) dX12_goes_41 rfl ?_
      exact s_pick (sBX12_goes_42)
    · refine Sall_cons ?_ ?_
      · refine s_Aldn 0 rfl 49 dX12_goes_48 rfl ?_
        refine s_iconst 50 1 (by decide) dX12_goes_49 rfl ?_
        exact s_pick (sBX12_goes_50)
      · refine Sall_cons ?_ ?_
        · refine s_Aldn 0 rfl 57 dX12_goes_56 rfl ?_
          exact s_pick (sBX12_goes_57)
        · refine Sall_cons ?_ ?_
          · refine s_Aldn 0 rfl 64 dX12_goes_63 rfl ?_
            exact s_pick (sBX12_goes_64)
          · exact Sall_nil
def EX12_goes : List Value → HP → Option HP := en 2 BX12_goes_0
theorem cmX12_goes : CM XX12_goes EX12_goes fVH 0 0 := CM.of rfl (by decide) rfl rfl sBX12_goes_0
theorem yoX12_goes : YO XX12_goes 1 0 0 := ⟨tw_1783, rfl, tw_12, (by decide +kernel), rfl, rfl⟩
abbrev XX12_walks : MX := (yX12_walks, cX12_walks, 3, none, Cond.code yX12_walks cX12_walks 3 none :: WS, { frames := 5, cells := 0, slots := 0, locals := 116 })
def BX12_walks_97 (k44 : KT HP) : KT HP :=
  oCal 2 (some 12) EX12_isGate fZ (oIfeq (oInc 2 1 (oPick [0, 1, 2] k44)) (oAld 0 (oIld 2 (oPut 12 31 .int (oInc 2 1 (oPick [0, 1, 2] k44))))))
set_option maxRecDepth 20000 in
theorem sBX12_walks_97 {k44 : KT HP} (hk44 : Snd XX12_walks fVH 44 k44 0 0) : Snd XX12_walks fVH 97 (BX12_walks_97 k44) (0) (0) := by
  unfold BX12_walks_97
  refine s_cal0 100 (run_V (X := XX12_walks) rfl clX12 yoX12_isGate rfl tw_1810 tw_1812 tw_p93 (by decide) dX12_walks_97) cmX12_isGate (fun _ _ _ => rfl) rfl ?_
  refine s_ifeq 108 103 dX12_walks_100 (by decide) rfl ?_ ?_
  · refine s_inc 2 1 111 (by decide) (by decide) dX12_walks_108 rfl ?_
    refine s_goto 44 dX12_walks_111 (by decide) ?_
    exact s_pick hk44
  · refine s_Aldn 0 rfl 104 dX12_walks_103 rfl ?_
    refine s_Ildn 2 rfl 105 dX12_walks_104 rfl ?_
    refine s_put 12 31 108 clX12 (by decide) rfl rfl pVH tw_1319 dX12_walks_105 rfl ?_
    refine s_inc 2 1 111 (by decide) (by decide) dX12_walks_108 rfl ?_
    refine s_goto 44 dX12_walks_111 (by decide) ?_
    exact s_pick hk44
def BX12_walks_82 (k44 : KT HP) : KT HP :=
  oAld 0 (oGet 12 29 (oIld 2 (oAld 0 (oGet 12 24 (oIw (oAld 0 (oAld 0 (oGet 12 24 (oPick [0, 1, 2] (BX12_walks_97 k44))))))))))
set_option maxRecDepth 20000 in
theorem sBX12_walks_82 {k44 : KT HP} (hk44 : Snd XX12_walks fVH 44 k44 0 0) : Snd XX12_walks fVH 82 (BX12_walks_82 k44) (0) (0) := by
  unfold BX12_walks_82
  refine s_Aldn 0 rfl 83 dX12_walks_82 rfl ?_
  refine s_get 12 29 86 clX12 (by decide) tw_1317 dX12_walks_83 rfl ?_
  refine s_Ildn 2 rfl 87 dX12_walks_86 rfl ?_
  refine s_Aldn 0 rfl 88 dX12_walks_87 rfl ?_
  refine s_get 12 24 91 clX12 (by decide) tw_1312 dX12_walks_88 rfl ?_
  refine s_Iw 92 pVH dX12_walks_91 rfl ?_
  refine s_Aldn 0 rfl 93 dX12_walks_92 rfl ?_
  refine s_Aldn 0 rfl 94 dX12_walks_93 rfl ?_
  refine s_get 12 24 97 clX12 (by decide) tw_1312 dX12_walks_94 rfl ?_
  exact s_pick (sBX12_walks_97 hk44)
def BX12_walks_79 (k44 : KT HP) : KT HP :=
  oCal 2 (some 12) EX12_goes fVH (oPick [0, 1, 2] (BX12_walks_82 k44))
set_option maxRecDepth 20000 in
theorem sBX12_walks_79 {k44 : KT HP} (hk44 : Snd XX12_walks fVH 44 k44 0 0) : Snd XX12_walks fVH 79 (BX12_walks_79 k44) (0) (0) := by
  unfold BX12_walks_79
  refine s_cal0 82 (run_V (X := XX12_walks) rfl clX12 yoX12_goes rfl tw_1780 tw_1782 tw_p87 (by decide) dX12_walks_79) cmX12_goes (fun _ _ _ => rfl) rfl ?_
  exact s_pick (sBX12_walks_82 hk44)
def BX12_walks_44 (k44 : KT HP) : KT HP :=
  oIld 2 (oAld 0 (oGet 12 3 (oGet 11 2 (oCmpgt (oVretH) (oAld 0 (oGet 12 31 (oConst (.int (-2)) (oCmpne (oVretH) (oIld 2 (oAld 0 (oGet 12 3 (oGet 11 24 (oIld 1 (oIa (oCmple (oPick [0, 1, 2] (BX12_walks_82 k44)) (oAld 0 (oIld 1 (oPick [0, 1, 2] (BX12_walks_79 k44)))))))))))))))))))
set_option maxRecDepth 20000 in
theorem sBX12_walks_44 {k44 : KT HP} (hk44 : Snd XX12_walks fVH 44 k44 0 0) : Snd XX12_walks fVH 44 (BX12_walks_44 k44) (0) (0) := by
  unfold BX12_walks_44
  refine s_Ildn 2 rfl 45 dX12_walks_44 rfl ?_
  refine s_Aldn 0 rfl 46 dX12_walks_45 rfl ?_
  refine s_get 12 3 49 clX12 (by decide) tw_1291 dX12_walks_46 rfl ?_
  refine s_getN 11 2 52 clX11 (by decide) nw_44 dX12_walks_49 rfl ?_
  refine s_cmpgt 114 55 dX12_walks_52 (by decide) rfl ?_ ?_
  · exact s_vretH rfl dX12_walks_114
  · refine s_Aldn 0 rfl 56 dX12_walks_55 rfl ?_
    refine s_get 12 31 59 clX12 (by decide) tw_1319 dX12_walks_56 rfl ?_
    refine s_bipush 61 (-2) (by decide) dX12_walks_59 rfl ?_
    refine s_cmpne 114 64 dX12_walks_61 (by decide) rfl ?_ ?_
    · exact s_vretH rfl dX12_walks_114
    · refine s_Ildn 2 rfl 65 dX12_walks_64 rfl ?_
      refine s_Aldn 0 rfl 66 dX12_walks_65 rfl ?_
      refine s_get 12 3 69 clX12 (by decide) tw_1291 dX12_walks_66 rfl ?_
      refine s_getN 11 24 72 clX11 (by decide) nw_66 dX12_walks_69 rfl ?_
      refine s_Ildn 1 rfl 73 dX12_walks_72 rfl ?_
      refine s_Ia 74 dX12_walks_73 rfl ?_
      refine s_cmple 82 77 dX12_walks_74 (by decide) rfl ?_ ?_
      · exact s_pick (sBX12_walks_82 hk44)
      · refine s_Aldn 0 rfl 78 dX12_walks_77 rfl ?_
        refine s_Ildn 1 rfl 79 dX12_walks_78 rfl ?_
        exact s_pick (sBX12_walks_79 hk44)
def BX12_walks_31 : KT HP :=
  oCal 2 (some 12) EX12_sets fVH (oAld 0 (oGet 12 3 (oGet 11 24 (oIld 1 (oIa (oIst 2 (oPick [0, 1, 2] (lp (BX12_walks_44) FU))))))))
set_option maxRecDepth 20000 in
theorem sBX12_walks_31 : Snd XX12_walks fVH 31 (BX12_walks_31) (0) (0) := by
  unfold BX12_walks_31
  refine s_cal0 34 (run_V (X := XX12_walks) rfl clX12 yoX12_sets rfl tw_1775 tw_1777 tw_p86 (by decide) dX12_walks_31) cmX12_sets (fun _ _ _ => rfl) rfl ?_
  refine s_Aldn 0 rfl 35 dX12_walks_34 rfl ?_
  refine s_get 12 3 38 clX12 (by decide) tw_1291 dX12_walks_35 rfl ?_
  refine s_getN 11 24 41 clX11 (by decide) nw_66 dX12_walks_38 rfl ?_
  refine s_Ildn 1 rfl 42 dX12_walks_41 rfl ?_
  refine s_Ia 43 dX12_walks_42 rfl ?_
  refine s_Istn 2 rfl 44 (by decide) dX12_walks_43 rfl ?_
  exact s_pick (s_lp (fun k hk => sBX12_walks_44  hk) FU)
def BX12_walks_8 (k8 : KT HP) : KT HP :=
  oIld 2 (oConst (.int 200) (oCmpgt (oAld 0 (oIld 1 (oPick [0, 1] (BX12_walks_31)))) (oAld 0 (oGet 12 29 (oIld 2 (oConst (.int (-2)) (oIw (oInc 2 1 (oPick [0, 1, 2] k8)))))))))
set_option maxRecDepth 20000 in
theorem sBX12_walks_8 {k8 : KT HP} (hk8 : Snd XX12_walks fVH 8 k8 0 0) : Snd XX12_walks fVH 8 (BX12_walks_8 k8) (0) (0) := by
  unfold BX12_walks_8
  refine s_Ildn 2 rfl 9 dX12_walks_8 rfl ?_
  refine s_sipush 12 200 (by decide) dX12_walks_9 rfl ?_
  refine s_cmpgt 29 15 dX12_walks_12 (by decide) rfl ?_ ?_
  · refine s_Aldn 0 rfl 30 dX12_walks_29 rfl ?_
    refine s_Ildn 1 rfl 31 dX12_walks_30 rfl ?_
    exact s_pick (sBX12_walks_31)
  · refine s_Aldn 0 rfl 16 dX12_walks_15 rfl ?_
    refine s_get 12 29 19 clX12 (by decide) tw_1317 dX12_walks_16 rfl ?_
    refine s_Ildn 2 rfl 20 dX12_walks_19 rfl ?_
    refine s_bipush 22 (-2) (by decide) dX12_walks_20 rfl ?_
    refine s_Iw 23 pVH dX12_walks_22 rfl ?_
    refine s_inc 2 1 26 (by decide) (by decide) dX12_walks_23 rfl ?_
    refine s_goto 8 dX12_walks_26 (by decide) ?_
    exact s_pick hk8
def BX12_walks_0 : KT HP :=
  oAld 0 (oConst (.int (-2)) (oPut 12 31 .int (oConst (.int 0) (oIst 2 (oPick [0, 1, 2] (lp (BX12_walks_8) FU))))))
set_option maxRecDepth 20000 in
theorem sBX12_walks_0 : Snd XX12_walks fVH 0 (BX12_walks_0) (0) (0) := by
  unfold BX12_walks_0
  refine s_Aldn 0 rfl 1 dX12_walks_0 rfl ?_
  refine s_bipush 3 (-2) (by decide) dX12_walks_1 rfl ?_
  refine s_put 12 31 6 clX12 (by decide) rfl rfl pVH tw_1319 dX12_walks_3 rfl ?_
  refine s_iconst 7 0 (by decide) dX12_walks_6 rfl ?_
  refine s_Istn 2 rfl 8 (by decide) dX12_walks_7 rfl ?_
  exact s_pick (s_lp (fun k hk => sBX12_walks_8  hk) FU)
def EX12_walks : List Value → HP → Option HP := en 3 BX12_walks_0
theorem cmX12_walks : CM XX12_walks EX12_walks fVH 0 0 := CM.of rfl (by decide) rfl rfl sBX12_walks_0
theorem yoX12_walks : YO XX12_walks 1 0 0 := ⟨tw_1774, rfl, tw_12, (by decide +kernel), rfl, rfl⟩
abbrev XX12_there : MX := (yX12_there, cX12_there, 3, (Option.some .int), Cond.code yX12_there cX12_there 3 (Option.some .int) :: WS, { frames := 0, cells := 0, slots := 0, locals := 0 })
def BX12_there_23 : KT Int32 :=
  oAld 0 (oGet 12 3 (oGet 11 24 (oIld 1 (oIa (oisub (oIst 2 (oIld 2 (oIfge (oIld 2 (oIretP)) (oConst (.int 0) (oIretP))))))))))
set_option maxRecDepth 20000 in
theorem sBX12_there_23 : Snd XX12_there fI 23 (BX12_there_23) (0) (0) := by
  unfold BX12_there_23
  refine s_Aldn 0 rfl 24 dX12_there_23 rfl ?_
  refine s_get 12 3 27 clX12 (by decide) tw_1291 dX12_there_24 rfl ?_
  refine s_getN 11 24 30 clX11 (by decide) nw_66 dX12_there_27 rfl ?_
  refine s_Ildn 1 rfl 31 dX12_there_30 rfl ?_
  refine s_Ia 32 dX12_there_31 rfl ?_
  refine s_isub 33 dX12_there_32 rfl ?_
  refine s_Istn 2 rfl 34 (by decide) dX12_there_33 rfl ?_
  refine s_Ildn 2 rfl 35 dX12_there_34 rfl ?_
  refine s_ifge 42 38 dX12_there_35 (by decide) rfl ?_ ?_
  · refine s_Ildn 2 rfl 43 dX12_there_42 rfl ?_
    exact s_iretP rfl dX12_there_43
  · refine s_iconst 39 0 (by decide) dX12_there_38 rfl ?_
    refine s_goto 43 dX12_there_39 (by decide) ?_
    exact s_iretP rfl dX12_there_43
def BX12_there_0 : KT Int32 :=
  oAld 0 (oGet 12 31 (oConst (.int (-2)) (oCmpne (oAld 0 (oGet 12 31 (oPick [0, 1] (BX12_there_23)))) (oAld 0 (oGet 12 3 (oGet 11 2 (oPick [0, 1] (BX12_there_23))))))))
set_option maxRecDepth 20000 in
theorem sBX12_there_0 : Snd XX12_there fI 0 (BX12_there_0) (0) (0) := by
  unfold BX12_there_0
  refine s_Aldn 0 rfl 1 dX12_there_0 rfl ?_
  refine s_get 12 31 4 clX12 (by decide) tw_1319 dX12_there_1 rfl ?_
  refine s_bipush 6 (-2) (by decide) dX12_there_4 rfl ?_
  refine s_cmpne 19 9 dX12_there_6 (by decide) rfl ?_ ?_
  · refine s_Aldn 0 rfl 20 dX12_there_19 rfl ?_
    refine s_get 12 31 23 clX12 (by decide) tw_1319 dX12_there_20 rfl ?_
    exact s_pick (sBX12_there_23)
  · refine s_Aldn 0 rfl 10 dX12_there_9 rfl ?_
    refine s_get 12 3 13 clX12 (by decide) tw_1291 dX12_there_10 rfl ?_
    refine s_getN 11 2 16 clX11 (by decide) nw_44 dX12_there_13 rfl ?_
    refine s_goto 23 dX12_there_16 (by decide) ?_
    exact s_pick (sBX12_there_23)
def EX12_there : List Value → HP → Option Int32 := en 3 BX12_there_0
theorem cmX12_there : CM XX12_there EX12_there fI 0 0 := CM.of rfl (by decide) rfl rfl sBX12_there_0
theorem yoX12_there : YO XX12_there 1 0 0 := ⟨tw_1841, rfl, tw_12, (by decide +kernel), rfl, rfl⟩
abbrev XX12_at : MX := (yX12_at, cX12_at, 3, (Option.some .int), Cond.code yX12_at cX12_at 3 (Option.some .int) :: WS, { frames := 6, cells := 0, slots := 0, locals := 138 })
def BX12_at_42 : KT (Int32 × HP) :=
  oCal 2 (some 12) EX12_walks fVH (oAld 0 (oAld 0 (oGet 12 29 (oIld 2 (oIa (oCal 2 (some 12) EX12_good fIH (oIretH)))))))
set_option maxRecDepth 20000 in
theorem sBX12_at_42 : Snd XX12_at fIH 42 (BX12_at_42) (0) (0) := by
  unfold BX12_at_42
  refine s_cal0 45 (run_V (X := XX12_at) rfl clX12 yoX12_walks rfl tw_1771 tw_1773 tw_p85 (by decide) dX12_at_42) cmX12_walks (fun _ _ _ => rfl) rfl ?_
  refine s_Aldn 0 rfl 46 dX12_at_45 rfl ?_
  refine s_Aldn 0 rfl 47 dX12_at_46 rfl ?_
  refine s_get 12 29 50 clX12 (by decide) tw_1317 dX12_at_47 rfl ?_
  refine s_Ildn 2 rfl 51 dX12_at_50 rfl ?_
  refine s_Ia 52 dX12_at_51 rfl ?_
  refine s_cal0 55 (run_V (X := XX12_at) rfl clX12 yoX12_good rfl tw_1678 tw_1680 tw_p76 (by decide) dX12_at_52) cmX12_good (fun _ _ _ => rfl) rfl ?_
  exact s_iretH rfl dX12_at_55
def BX12_at_28 : KT (Int32 × HP) :=
  oCal 3 none EX12_in fZ (oIfne (oAld 0 (oIld 1 (oPick [0, 2] (BX12_at_42)))) (oAld 0 (oConst (.int 2) (oCal 2 (some 12) EX12_refused fIH (oIretH)))))
set_option maxRecDepth 20000 in
theorem sBX12_at_28 : Snd XX12_at fIH 28 (BX12_at_28) (0) (0) := by
  unfold BX12_at_28
  refine s_cal0 31 (run_S (X := XX12_at) yoX12_in tw_1589 tw_1590 (by decide) dX12_at_28) cmX12_in (fun _ _ _ => rfl) rfl ?_
  refine s_ifne 40 34 dX12_at_31 (by decide) rfl ?_ ?_
  · refine s_Aldn 0 rfl 41 dX12_at_40 rfl ?_
    refine s_Ildn 1 rfl 42 dX12_at_41 rfl ?_
    exact s_pick (sBX12_at_42)
  · refine s_Aldn 0 rfl 35 dX12_at_34 rfl ?_
    refine s_iconst 36 2 (by decide) dX12_at_35 rfl ?_
    refine s_cal0 39 (run_V (X := XX12_at) rfl clX12 yoX12_refused rfl tw_1430 tw_1432 tw_p50 (by decide) dX12_at_36) cmX12_refused (fun _ _ _ => rfl) rfl ?_
    exact s_iretH rfl dX12_at_39
def BX12_at_7 : KT (Int32 × HP) :=
  oCal 2 (some 12) EX12_isWalker fZ (oIfne (oIld 2 (oConst (.int 0) (oAld 0 (oGet 12 3 (oGet 11 2 (oPick [0, 1, 2] (BX12_at_28))))))) (oAld 0 (oConst (.int 1) (oCal 2 (some 12) EX12_refused fIH (oIretH)))))
set_option maxRecDepth 20000 in
theorem sBX12_at_7 : Snd XX12_at fIH 7 (BX12_at_7) (0) (0) := by
  unfold BX12_at_7
  refine s_cal0 10 (run_V (X := XX12_at) rfl clX12 yoX12_isWalker rfl tw_1767 tw_1769 tw_p84 (by decide) dX12_at_7) cmX12_isWalker (fun _ _ _ => rfl) rfl ?_
  refine s_ifne 19 13 dX12_at_10 (by decide) rfl ?_ ?_
  · refine s_Ildn 2 rfl 20 dX12_at_19 rfl ?_
    refine s_iconst 21 0 (by decide) dX12_at_20 rfl ?_
    refine s_Aldn 0 rfl 22 dX12_at_21 rfl ?_
    refine s_get 12 3 25 clX12 (by decide) tw_1291 dX12_at_22 rfl ?_
    refine s_getN 11 2 28 clX11 (by decide) nw_44 dX12_at_25 rfl ?_
    exact s_pick (sBX12_at_28)
  · refine s_Aldn 0 rfl 14 dX12_at_13 rfl ?_
    refine s_iconst 15 1 (by decide) dX12_at_14 rfl ?_
    refine s_cal0 18 (run_V (X := XX12_at) rfl clX12 yoX12_refused rfl tw_1430 tw_1432 tw_p50 (by decide) dX12_at_15) cmX12_refused (fun _ _ _ => rfl) rfl ?_
    exact s_iretH rfl dX12_at_18
def BX12_at_0 : KT (Int32 × HP) :=
  oAld 0 (oConst (.int 0) (oPut 12 0 .int (oAld 0 (oIld 1 (oPick [0, 1, 2] (BX12_at_7))))))
set_option maxRecDepth 20000 in
theorem sBX12_at_0 : Snd XX12_at fIH 0 (BX12_at_0) (0) (0) := by
  unfold BX12_at_0
  refine s_Aldn 0 rfl 1 dX12_at_0 rfl ?_
  refine s_iconst 2 0 (by decide) dX12_at_1 rfl ?_
  refine s_put 12 0 5 clX12 (by decide) rfl rfl pIH tw_1288 dX12_at_2 rfl ?_
  refine s_Aldn 0 rfl 6 dX12_at_5 rfl ?_
  refine s_Ildn 1 rfl 7 dX12_at_6 rfl ?_
  exact s_pick (sBX12_at_7)
def EX12_at : List Value → HP → Option (Int32 × HP) := en 3 BX12_at_0
theorem cmX12_at : CM XX12_at EX12_at fIH 0 0 := CM.of rfl (by decide) rfl rfl sBX12_at_0
theorem yoX12_at : YO XX12_at 2 0 0 := ⟨tw_1766, rfl, tw_12, (by decide +kernel), rfl, rfl⟩
abbrev XX12_out : MX := (yX12_out, cX12_out, 2, (Option.some .int), Cond.code yX12_out cX12_out 2 (Option.some .int) :: WS, { frames := 6, cells := 0, slots := 0, locals := 138 })
def BX12_out_21 : KT (Int32 × HP) :=
  oCal 2 (some 12) EX12_walks fVH (oAld 0 (oAld 0 (oGet 12 31 (oCal 2 (some 12) EX12_good fIH (oIretH)))))
set_option maxRecDepth 20000 in
theorem sBX12_out_21 : Snd XX12_out fIH 21 (BX12_out_21) (0) (0) := by
  unfold BX12_out_21
  refine s_cal0 24 (run_V (X := XX12_out) rfl clX12 yoX12_walks rfl tw_1771 tw_1773 tw_p85 (by decide) dX12_out_21) cmX12_walks (fun _ _ _ => rfl) rfl ?_
  refine s_Aldn 0 rfl 25 dX12_out_24 rfl ?_
  refine s_Aldn 0 rfl 26 dX12_out_25 rfl ?_
  refine s_get 12 31 29 clX12 (by decide) tw_1319 dX12_out_26 rfl ?_
  refine s_cal0 32 (run_V (X := XX12_out) rfl clX12 yoX12_good rfl tw_1678 tw_1680 tw_p76 (by decide) dX12_out_29) cmX12_good (fun _ _ _ => rfl) rfl ?_
  exact s_iretH rfl dX12_out_32
def BX12_out_7 : KT (Int32 × HP) :=
  oCal 2 (some 12) EX12_isWalker fZ (oIfne (oAld 0 (oIld 1 (oPick [0] (BX12_out_21)))) (oAld 0 (oConst (.int 1) (oCal 2 (some 12) EX12_refused fIH (oIretH)))))
set_option maxRecDepth 20000 in
theorem sBX12_out_7 : Snd XX12_out fIH 7 (BX12_out_7) (0) (0) := by
  unfold BX12_out_7
  refine s_cal0 10 (run_V (X := XX12_out) rfl clX12 yoX12_isWalker rfl tw_1767 tw_1769 tw_p84 (by decide) dX12_out_7) cmX12_isWalker (fun _ _ _ => rfl) rfl ?_
  refine s_ifne 19 13 dX12_out_10 (by decide) rfl ?_ ?_
  · refine s_Aldn 0 rfl 20 dX12_out_19 rfl ?_
    refine s_Ildn 1 rfl 21 dX12_out_20 rfl ?_
    exact s_pick (sBX12_out_21)
  · refine s_Aldn 0 rfl 14 dX12_out_13 rfl ?_
    refine s_iconst 15 1 (by decide) dX12_out_14 rfl ?_
    refine s_cal0 18 (run_V (X := XX12_out) rfl clX12 yoX12_refused rfl tw_1430 tw_1432 tw_p50 (by decide) dX12_out_15) cmX12_refused (fun _ _ _ => rfl) rfl ?_
    exact s_iretH rfl dX12_out_18
def BX12_out_0 : KT (Int32 × HP) :=
  oAld 0 (oConst (.int 0) (oPut 12 0 .int (oAld 0 (oIld 1 (oPick [0, 1] (BX12_out_7))))))
set_option maxRecDepth 20000 in
theorem sBX12_out_0 : Snd XX12_out fIH 0 (BX12_out_0) (0) (0) := by
  unfold BX12_out_0
  refine s_Aldn 0 rfl 1 dX12_out_0 rfl ?_
  refine s_iconst 2 0 (by decide) dX12_out_1 rfl ?_
  refine s_put 12 0 5 clX12 (by decide) rfl rfl pIH tw_1288 dX12_out_2 rfl ?_
  refine s_Aldn 0 rfl 6 dX12_out_5 rfl ?_
  refine s_Ildn 1 rfl 7 dX12_out_6 rfl ?_
  exact s_pick (sBX12_out_7)
def EX12_out : List Value → HP → Option (Int32 × HP) := en 2 BX12_out_0
theorem cmX12_out : CM XX12_out EX12_out fIH 0 0 := CM.of rfl (by decide) rfl rfl sBX12_out_0
theorem yoX12_out : YO XX12_out 1 0 0 := ⟨tw_1817, rfl, tw_12, (by decide +kernel), rfl, rfl⟩
abbrev XX12_ringOf : MX := (yX12_ringOf, cX12_ringOf, 5, (Option.some .int), Cond.code yX12_ringOf cX12_ringOf 5 (Option.some .int) :: WS, { frames := 5, cells := 0, slots := 0, locals := 116 })
def BX12_ringOf_112 (k42 : KT (Int32 × HP)) : KT (Int32 × HP) :=
  oCal 2 (some 12) EX12_goes fVH (oInc 3 1 (oPick [0, 1, 2, 3] k42))
set_option maxRecDepth 20000 in
theorem sBX12_ringOf_112 {k42 : KT (Int32 × HP)} (hk42 : Snd XX12_ringOf fIH 42 k42 0 0) : Snd XX12_ringOf fIH 112 (BX12_ringOf_112 k42) (0) (0) := by
  unfold BX12_ringOf_112
  refine s_cal0 115 (run_V (X := XX12_ringOf) rfl clX12 yoX12_goes rfl tw_1780 tw_1782 tw_p87 (by decide) dX12_ringOf_112) cmX12_goes (fun _ _ _ => rfl) rfl ?_
  refine s_inc 3 1 118 (by decide) (by decide) dX12_ringOf_115 rfl ?_
  refine s_goto 42 dX12_ringOf_118 (by decide) ?_
  exact s_pick hk42
def BX12_ringOf_54 (k42 : KT (Int32 × HP)) : KT (Int32 × HP) :=
  oCal 2 (some 12) EX12_isGate fZ (oIfeq (oConst (.int 4) (oAld 0 (oGet 12 24 (oimul (oAld 0 (oGet 12 25 (oiadd (oIst 4 (oIld 2 (oConst (.int 2) (oCmpge (oAld 0 (oGet 12 32 (oIld 4 (oIld 3 (oIw (oAld 0 (oIld 1 (oPick [0, 1, 2, 3] (BX12_ringOf_112 k42))))))))) (oAld 0 (oGet 12 32 (oIld 4 (oIa (oConst (.int (-2)) (oCmpeq (oAld 0 (oGet 12 32 (oIld 4 (oIld 3 (oIw (oAld 0 (oIld 1 (oPick [0, 1, 2, 3] (BX12_ringOf_112 k42))))))))) (oIld 3 (oAld 0 (oGet 12 32 (oIld 4 (oIa (oisub (oIretH)))))))))))))))))))))))) (oConst (.int 0) (oIretH)))
set_option maxRecDepth 20000 in
theorem sBX12_ringOf_54 {k42 : KT (Int32 × HP)} (hk42 : Snd XX12_ringOf fIH 42 k42 0 0) : Snd XX12_ringOf fIH 54 (BX12_ringOf_54 k42) (0) (0) := by
  unfold BX12_ringOf_54
  refine s_cal0 57 (run_V (X := XX12_ringOf) rfl clX12 yoX12_isGate rfl tw_1810 tw_1812 tw_p93 (by decide) dX12_ringOf_54) cmX12_isGate (fun _ _ _ => rfl) rfl ?_
  refine s_ifeq 62 60 dX12_ringOf_57 (by decide) rfl ?_ ?_
  · refine s_iconst 63 4 (by decide) dX12_ringOf_62 rfl ?_
    refine s_Aldn 0 rfl 64 dX12_ringOf_63 rfl ?_
    refine s_get 12 24 67 clX12 (by decide) tw_1312 dX12_ringOf_64 rfl ?_
    refine s_imul 68 dX12_ringOf_67 rfl ?_
    refine s_Aldn 0 rfl 69 dX12_ringOf_68 rfl ?_
    refine s_get 12 25 72 clX12 (by decide) tw_1313 dX12_ringOf_69 rfl ?_
    refine s_iadd 73 dX12_ringOf_72 rfl ?_
    refine s_Ist 4 75 (by decide) dX12_ringOf_73 rfl ?_
    refine s_Ildn 2 rfl 76 dX12_ringOf_75 rfl ?_
    refine s_iconst 77 2 (by decide) dX12_ringOf_76 rfl ?_
    refine s_cmpge 102 80 dX12_ringOf_77 (by decide) rfl ?_ ?_
    · refine s_Aldn 0 rfl 103 dX12_ringOf_102 rfl ?_
      refine s_get 12 32 106 clX12 (by decide) tw_1320 dX12_ringOf_103 rfl ?_
      refine s_Ild 4 108 dX12_ringOf_106 rfl ?_
      refine s_Ildn 3 rfl 109 dX12_ringOf_108 rfl ?_
      refine s_Iw 110 pIH dX12_ringOf_109 rfl ?_
      refine s_Aldn 0 rfl 111 dX12_ringOf_110 rfl ?_
      refine s_Ildn 1 rfl 112 dX12_ringOf_111 rfl ?_
      exact s_pick (sBX12_ringOf_112 hk42)
    · refine s_Aldn 0 rfl 81 dX12_ringOf_80 rfl ?_
      refine s_get 12 32 84 clX12 (by decide) tw_1320 dX12_ringOf_81 rfl ?_
      refine s_Ild 4 86 dX12_ringOf_84 rfl ?_
      refine s_Ia 87 dX12_ringOf_86 rfl ?_
      refine s_bipush 89 (-2) (by decide) dX12_ringOf_87 rfl ?_
      refine s_cmpeq 102 92 dX12_ringOf_89 (by decide) rfl ?_ ?_
      · refine s_Aldn 0 rfl 103 dX12_ringOf_102 rfl ?_
        refine s_get 12 32 106 clX12 (by decide) tw_1320 dX12_ringOf_103 rfl ?_
        refine s_Ild 4 108 dX12_ringOf_106 rfl ?_
        refine s_Ildn 3 rfl 109 dX12_ringOf_108 rfl ?_
        refine s_Iw 110 pIH dX12_ringOf_109 rfl ?_
        refine s_Aldn 0 rfl 111 dX12_ringOf_110 rfl ?_
        refine s_Ildn 1 rfl 112 dX12_ringOf_111 rfl ?_
        exact s_pick (sBX12_ringOf_112 hk42)
      · refine s_Ildn 3 rfl 93 dX12_ringOf_92 rfl ?_
        refine s_Aldn 0 rfl 94 dX12_ringOf_93 rfl ?_
        refine s_get 12 32 97 clX12 (by decide) tw_1320 dX12_ringOf_94 rfl ?_
        refine s_Ild 4 99 dX12_ringOf_97 rfl ?_
        refine s_Ia 100 dX12_ringOf_99 rfl ?_
        refine s_isub 101 dX12_ringOf_100 rfl ?_
        exact s_iretH rfl dX12_ringOf_101
  · refine s_iconst 61 0 (by decide) dX12_ringOf_60 rfl ?_
    exact s_iretH rfl dX12_ringOf_61
def BX12_ringOf_42 (k42 : KT (Int32 × HP)) : KT (Int32 × HP) :=
  oIld 3 (oConst (.int 196) (oCmpgt (oConst (.int 1) (oIretH)) (oAld 0 (oAld 0 (oGet 12 24 (oPick [0, 1, 2, 3] (BX12_ringOf_54 k42)))))))
set_option maxRecDepth 20000 in
theorem sBX12_ringOf_42 {k42 : KT (Int32 × HP)} (hk42 : Snd XX12_ringOf fIH 42 k42 0 0) : Snd XX12_ringOf fIH 42 (BX12_ringOf_42 k42) (0) (0) := by
  unfold BX12_ringOf_42
  refine s_Ildn 3 rfl 43 dX12_ringOf_42 rfl ?_
  refine s_sipush 46 196 (by decide) dX12_ringOf_43 rfl ?_
  refine s_cmpgt 121 49 dX12_ringOf_46 (by decide) rfl ?_ ?_
  · refine s_iconst 122 1 (by decide) dX12_ringOf_121 rfl ?_
    exact s_iretH rfl dX12_ringOf_122
  · refine s_Aldn 0 rfl 50 dX12_ringOf_49 rfl ?_
    refine s_Aldn 0 rfl 51 dX12_ringOf_50 rfl ?_
    refine s_get 12 24 54 clX12 (by decide) tw_1312 dX12_ringOf_51 rfl ?_
    exact s_pick (sBX12_ringOf_54 hk42)
def BX12_ringOf_7 (k7 : KT (Int32 × HP)) : KT (Int32 × HP) :=
  oIld 2 (oAld 0 (oGet 12 32 (oLen (oCmpge (oAld 0 (oGet 12 3 (oGet 11 21 (oIld 1 (oIa (oIst 2 (oConst (.int 0) (oIst 3 (oPick [0, 1, 2, 3] (lp (BX12_ringOf_42) FU)))))))))) (oAld 0 (oGet 12 32 (oIld 2 (oConst (.int (-2)) (oIw (oInc 2 1 (oPick [0, 1, 2] k7)))))))))))
set_option maxRecDepth 20000 in
theorem sBX12_ringOf_7 {k7 : KT (Int32 × HP)} (hk7 : Snd XX12_ringOf fIH 7 k7 0 0) : Snd XX12_ringOf fIH 7 (BX12_ringOf_7 k7) (0) (0) := by
  unfold BX12_ringOf_7
  refine s_Ildn 2 rfl 8 dX12_ringOf_7 rfl ?_
  refine s_Aldn 0 rfl 9 dX12_ringOf_8 rfl ?_
  refine s_get 12 32 12 clX12 (by decide) tw_1320 dX12_ringOf_9 rfl ?_
  refine s_len 13 dX12_ringOf_12 rfl ?_
  refine s_cmpge 30 16 dX12_ringOf_13 (by decide) rfl ?_ ?_
  · refine s_Aldn 0 rfl 31 dX12_ringOf_30 rfl ?_
    refine s_get 12 3 34 clX12 (by decide) tw_1291 dX12_ringOf_31 rfl ?_
    refine s_getN 11 21 37 clX11 (by decide) nw_63 dX12_ringOf_34 rfl ?_
    refine s_Ildn 1 rfl 38 dX12_ringOf_37 rfl ?_
    refine s_Ia 39 dX12_ringOf_38 rfl ?_
    refine s_Istn 2 rfl 40 (by decide) dX12_ringOf_39 rfl ?_
    refine s_iconst 41 0 (by decide) dX12_ringOf_40 rfl ?_
    refine s_Istn 3 rfl 42 (by decide) dX12_ringOf_41 rfl ?_
    exact s_pick (s_lp (fun k hk => sBX12_ringOf_42  hk) FU)
  · refine s_Aldn 0 rfl 17 dX12_ringOf_16 rfl ?_
    refine s_get 12 32 20 clX12 (by decide) tw_1320 dX12_ringOf_17 rfl ?_
    refine s_Ildn 2 rfl 21 dX12_ringOf_20 rfl ?_
    refine s_bipush 23 (-2) (by decide) dX12_ringOf_21 rfl ?_
    refine s_Iw 24 pIH dX12_ringOf_23 rfl ?_
    refine s_inc 2 1 27 (by decide) (by decide) dX12_ringOf_24 rfl ?_
    refine s_goto 7 dX12_ringOf_27 (by decide) ?_
    exact s_pick hk7
def BX12_ringOf_2 : KT (Int32 × HP) :=
  oCal 2 (some 12) EX12_sets fVH (oConst (.int 0) (oIst 2 (oPick [0, 1, 2] (lp (BX12_ringOf_7) FU))))
set_option maxRecDepth 20000 in
theorem sBX12_ringOf_2 : Snd XX12_ringOf fIH 2 (BX12_ringOf_2) (0) (0) := by
  unfold BX12_ringOf_2
  refine s_cal0 5 (run_V (X := XX12_ringOf) rfl clX12 yoX12_sets rfl tw_1775 tw_1777 tw_p86 (by decide) dX12_ringOf_2) cmX12_sets (fun _ _ _ => rfl) rfl ?_
  refine s_iconst 6 0 (by decide) dX12_ringOf_5 rfl ?_
  refine s_Istn 2 rfl 7 (by decide) dX12_ringOf_6 rfl ?_
  exact s_pick (s_lp (fun k hk => sBX12_ringOf_7  hk) FU)
def BX12_ringOf_0 : KT (Int32 × HP) :=
  oAld 0 (oIld 1 (oPick [0, 1] (BX12_ringOf_2)))
set_option maxRecDepth 20000 in
theorem sBX12_ringOf_0 : Snd XX12_ringOf fIH 0 (BX12_ringOf_0) (0) (0) := by
  unfold BX12_ringOf_0
  refine s_Aldn 0 rfl 1 dX12_ringOf_0 rfl ?_
  refine s_Ildn 1 rfl 2 dX12_ringOf_1 rfl ?_
  exact s_pick (sBX12_ringOf_2)
def EX12_ringOf : List Value → HP → Option (Int32 × HP) := en 5 BX12_ringOf_0
theorem cmX12_ringOf : CM XX12_ringOf EX12_ringOf fIH 0 0 := CM.of rfl (by decide) rfl rfl sBX12_ringOf_0
theorem yoX12_ringOf : YO XX12_ringOf 1 0 0 := ⟨tw_1825, rfl, tw_12, (by decide +kernel), rfl, rfl⟩
abbrev XX12_ever : MX := (yX12_ever, cX12_ever, 2, (Option.some .int), Cond.code yX12_ever cX12_ever 2 (Option.some .int) :: WS, { frames := 6, cells := 0, slots := 0, locals := 140 })
def BX12_ever_43 : KT (Int32 × HP) :=
  oCal 2 (some 12) EX12_ringOf fIH (oIfne (oConst (.int 0) (oCal 2 (some 12) EX12_good fIH (oIretH))) (oConst (.int 1) (oCal 2 (some 12) EX12_good fIH (oIretH))))
set_option maxRecDepth 20000 in
theorem sBX12_ever_43 : Snd XX12_ever fIH 43 (BX12_ever_43) (0) (0) := by
  unfold BX12_ever_43
  refine s_cal0 46 (run_V (X := XX12_ever) rfl clX12 yoX12_ringOf rfl tw_1822 tw_1824 tw_p94 (by decide) dX12_ever_43) cmX12_ringOf (fun _ _ _ => rfl) rfl ?_
  refine s_ifne 53 49 dX12_ever_46 (by decide) rfl ?_ ?_
  · refine s_iconst 54 0 (by decide) dX12_ever_53 rfl ?_
    refine s_cal0 57 (run_V (X := XX12_ever) rfl clX12 yoX12_good rfl tw_1678 tw_1680 tw_p76 (by decide) dX12_ever_54) cmX12_good (fun _ _ _ => rfl) rfl ?_
    exact s_iretH rfl dX12_ever_57
  · refine s_iconst 50 1 (by decide) dX12_ever_49 rfl ?_
    refine s_goto 54 dX12_ever_50 (by decide) ?_
    refine s_cal0 57 (run_V (X := XX12_ever) rfl clX12 yoX12_good rfl tw_1678 tw_1680 tw_p76 (by decide) dX12_ever_54) cmX12_good (fun _ _ _ => rfl) rfl ?_
    exact s_iretH rfl dX12_ever_57
def BX12_ever_7 : KT (Int32 × HP) :=
  oCal 2 (some 12) EX12_isWalker fZ (oIfne (oAld 0 (oGet 12 3 (oGet 11 21 (oIld 1 (oIa (oConst (.int 4) (oCmpne (oAld 0 (oAld 0 (oIld 1 (oPick [] (BX12_ever_43))))) (oAld 0 (oConst (.int 5) (oCal 2 (some 12) EX12_refused fIH (oIretH))))))))))) (oAld 0 (oConst (.int 1) (oCal 2 (some 12) EX12_refused fIH (oIretH)))))
set_option maxRecDepth 20000 in
theorem sBX12_ever_7 : Snd XX12_ever fIH 7 (BX12_ever_7) (0) (0) := by
  unfold BX12_ever_7
  refine s_cal0 10 (run_V (X := XX12_ever) rfl clX12 yoX12_isWalker rfl tw_1767 tw_1769 tw_p84 (by decide) dX12_ever_7) cmX12_isWalker (fun _ _ _ => rfl) rfl ?_
  refine s_ifne 19 13 dX12_ever_10 (by decide) rfl ?_ ?_
  · refine s_Aldn 0 rfl 20 dX12_ever_19 rfl ?_
    refine s_get 12 3 23 clX12 (by decide) tw_1291 dX12_ever_20 rfl ?_
    refine s_getN 11 21 26 clX11 (by decide) nw_63 dX12_ever_23 rfl ?_
    refine s_Ildn 1 rfl 27 dX12_ever_26 rfl ?_
    refine s_Ia 28 dX12_ever_27 rfl ?_
    refine s_iconst 29 4 (by decide) dX12_ever_28 rfl ?_
    refine s_cmpne 40 32 dX12_ever_29 (by decide) rfl ?_ ?_
    · refine s_Aldn 0 rfl 41 dX12_ever_40 rfl ?_
      refine s_Aldn 0 rfl 42 dX12_ever_41 rfl ?_
      refine s_Ildn 1 rfl 43 dX12_ever_42 rfl ?_
      exact s_pick (sBX12_ever_43)
    · refine s_Aldn 0 rfl 33 dX12_ever_32 rfl ?_
      refine s_iconst 34 5 (by decide) dX12_ever_33 rfl ?_
      refine s_cal0 37 (run_V (X := XX12_ever) rfl clX12 yoX12_refused rfl tw_1430 tw_1432 tw_p50 (by decide) dX12_ever_34) cmX12_refused (fun _ _ _ => rfl) rfl ?_
      refine s_goto 57 dX12_ever_37 (by decide) ?_
      exact s_iretH rfl dX12_ever_57
  · refine s_Aldn 0 rfl 14 dX12_ever_13 rfl ?_
    refine s_iconst 15 1 (by decide) dX12_ever_14 rfl ?_
    refine s_cal0 18 (run_V (X := XX12_ever) rfl clX12 yoX12_refused rfl tw_1430 tw_1432 tw_p50 (by decide) dX12_ever_15) cmX12_refused (fun _ _ _ => rfl) rfl ?_
    exact s_iretH rfl dX12_ever_18
def BX12_ever_0 : KT (Int32 × HP) :=
  oAld 0 (oConst (.int 0) (oPut 12 0 .int (oAld 0 (oIld 1 (oPick [0, 1] (BX12_ever_7))))))
set_option maxRecDepth 20000 in
theorem sBX12_ever_0 : Snd XX12_ever fIH 0 (BX12_ever_0) (0) (0) := by
  unfold BX12_ever_0
  refine s_Aldn 0 rfl 1 dX12_ever_0 rfl ?_
  refine s_iconst 2 0 (by decide) dX12_ever_1 rfl ?_
  refine s_put 12 0 5 clX12 (by decide) rfl rfl pIH tw_1288 dX12_ever_2 rfl ?_
  refine s_Aldn 0 rfl 6 dX12_ever_5 rfl ?_
  refine s_Ildn 1 rfl 7 dX12_ever_6 rfl ?_
  exact s_pick (sBX12_ever_7)
def EX12_ever : List Value → HP → Option (Int32 × HP) := en 2 BX12_ever_0
theorem cmX12_ever : CM XX12_ever EX12_ever fIH 0 0 := CM.of rfl (by decide) rfl rfl sBX12_ever_0
theorem yoX12_ever : YO XX12_ever 1 0 0 := ⟨tw_1821, rfl, tw_12, (by decide +kernel), rfl, rfl⟩
abbrev XX12_ring : MX := (yX12_ring, cX12_ring, 3, (Option.some .int), Cond.code yX12_ring cX12_ring 3 (Option.some .int) :: WS, { frames := 6, cells := 0, slots := 0, locals := 140 })
def BX12_ring_40 : KT (Int32 × HP) :=
  oCal 2 (some 12) EX12_ringOf fIH (oIst 2 (oIld 2 (oIfne (oAld 0 (oIld 2 (oCal 2 (some 12) EX12_good fIH (oIretH)))) (oAld 0 (oConst (.int 6) (oCal 2 (some 12) EX12_refused fIH (oIretH)))))))
set_option maxRecDepth 20000 in
theorem sBX12_ring_40 : Snd XX12_ring fIH 40 (BX12_ring_40) (0) (0) := by
  unfold BX12_ring_40
  refine s_cal0 43 (run_V (X := XX12_ring) rfl clX12 yoX12_ringOf rfl tw_1822 tw_1824 tw_p94 (by decide) dX12_ring_40) cmX12_ringOf (fun _ _ _ => rfl) rfl ?_
  refine s_Istn 2 rfl 44 (by decide) dX12_ring_43 rfl ?_
  refine s_Ildn 2 rfl 45 dX12_ring_44 rfl ?_
  refine s_ifne 57 48 dX12_ring_45 (by decide) rfl ?_ ?_
  · refine s_Aldn 0 rfl 58 dX12_ring_57 rfl ?_
    refine s_Ildn 2 rfl 59 dX12_ring_58 rfl ?_
    refine s_cal0 62 (run_V (X := XX12_ring) rfl clX12 yoX12_good rfl tw_1678 tw_1680 tw_p76 (by decide) dX12_ring_59) cmX12_good (fun _ _ _ => rfl) rfl ?_
    exact s_iretH rfl dX12_ring_62
  · refine s_Aldn 0 rfl 49 dX12_ring_48 rfl ?_
    refine s_bipush 51 6 (by decide) dX12_ring_49 rfl ?_
    refine s_cal0 54 (run_V (X := XX12_ring) rfl clX12 yoX12_refused rfl tw_1430 tw_1432 tw_p50 (by decide) dX12_ring_51) cmX12_refused (fun _ _ _ => rfl) rfl ?_
    refine s_goto 62 dX12_ring_54 (by decide) ?_
    exact s_iretH rfl dX12_ring_62
def BX12_ring_7 : KT (Int32 × HP) :=
  oCal 2 (some 12) EX12_isWalker fZ (oIfne (oAld 0 (oGet 12 3 (oGet 11 21 (oIld 1 (oIa (oConst (.int 4) (oCmpne (oAld 0 (oIld 1 (oPick [0] (BX12_ring_40)))) (oAld 0 (oConst (.int 5) (oCal 2 (some 12) EX12_refused fIH (oIretH))))))))))) (oAld 0 (oConst (.int 1) (oCal 2 (some 12) EX12_refused fIH (oIretH)))))
set_option maxRecDepth 20000 in
theorem sBX12_ring_7 : Snd XX12_ring fIH 7 (BX12_ring_7) (0) (0) := by
  unfold BX12_ring_7
  refine s_cal0 10 (run_V (X := XX12_ring) rfl clX12 yoX12_isWalker rfl tw_1767 tw_1769 tw_p84 (by decide) dX12_ring_7) cmX12_isWalker (fun _ _ _ => rfl) rfl ?_
  refine s_ifne 19 13 dX12_ring_10 (by decide) rfl ?_ ?_
  · refine s_Aldn 0 rfl 20 dX12_ring_19 rfl ?_
    refine s_get 12 3 23 clX12 (by decide) tw_1291 dX12_ring_20 rfl ?_
    refine s_getN 11 21 26 clX11 (by decide) nw_63 dX12_ring_23 rfl ?_
    refine s_Ildn 1 rfl 27 dX12_ring_26 rfl ?_
    refine s_Ia 28 dX12_ring_27 rfl ?_
    refine s_iconst 29 4 (by decide) dX12_ring_28 rfl ?_
    refine s_cmpne 38 32 dX12_ring_29 (by decide) rfl ?_ ?_
    · refine s_Aldn 0 rfl 39 dX12_ring_38 rfl ?_
      refine s_Ildn 1 rfl 40 dX12_ring_39 rfl ?_
      exact s_pick (sBX12_ring_40)
    · refine s_Aldn 0 rfl 33 dX12_ring_32 rfl ?_
      refine s_iconst 34 5 (by decide) dX12_ring_33 rfl ?_
      refine s_cal0 37 (run_V (X := XX12_ring) rfl clX12 yoX12_refused rfl tw_1430 tw_1432 tw_p50 (by decide) dX12_ring_34) cmX12_refused (fun _ _ _ => rfl) rfl ?_
      exact s_iretH rfl dX12_ring_37
  · refine s_Aldn 0 rfl 14 dX12_ring_13 rfl ?_
    refine s_iconst 15 1 (by decide) dX12_ring_14 rfl ?_
    refine s_cal0 18 (run_V (X := XX12_ring) rfl clX12 yoX12_refused rfl tw_1430 tw_1432 tw_p50 (by decide) dX12_ring_15) cmX12_refused (fun _ _ _ => rfl) rfl ?_
    exact s_iretH rfl dX12_ring_18
def BX12_ring_0 : KT (Int32 × HP) :=
  oAld 0 (oConst (.int 0) (oPut 12 0 .int (oAld 0 (oIld 1 (oPick [0, 1] (BX12_ring_7))))))
set_option maxRecDepth 20000 in
theorem sBX12_ring_0 : Snd XX12_ring fIH 0 (BX12_ring_0) (0) (0) := by
  unfold BX12_ring_0
  refine s_Aldn 0 rfl 1 dX12_ring_0 rfl ?_
  refine s_iconst 2 0 (by decide) dX12_ring_1 rfl ?_
  refine s_put 12 0 5 clX12 (by decide) rfl rfl pIH tw_1288 dX12_ring_2 rfl ?_
  refine s_Aldn 0 rfl 6 dX12_ring_5 rfl ?_
  refine s_Ildn 1 rfl 7 dX12_ring_6 rfl ?_
  exact s_pick (sBX12_ring_7)
def EX12_ring : List Value → HP → Option (Int32 × HP) := en 3 BX12_ring_0
theorem cmX12_ring : CM XX12_ring EX12_ring fIH 0 0 := CM.of rfl (by decide) rfl rfl sBX12_ring_0
theorem yoX12_ring : YO XX12_ring 1 0 0 := ⟨tw_1829, rfl, tw_12, (by decide +kernel), rfl, rfl⟩
abbrev XX12_meets : MX := (yX12_meets, cX12_meets, 4, (Option.some .int), Cond.code yX12_meets cX12_meets 4 (Option.some .int) :: WS, { frames := 6, cells := 0, slots := 0, locals := 138 })
def BX12_meets_71 (k71 : KT (Int32 × HP)) : KT (Int32 × HP) :=
  oIld 3 (oAld 0 (oGet 12 3 (oGet 11 2 (oCmpgt (oAld 0 (oConst (.int (-2)) (oCal 2 (some 12) EX12_good fIH (oIretH)))) (oAld 0 (oGet 12 29 (oIld 3 (oIa (oConst (.int (-2)) (oCmpeq (oInc 3 1 (oPick [0, 3] k71)) (oAld 0 (oGet 12 29 (oIld 3 (oIa (oAld 0 (oGet 12 30 (oIld 3 (oIa (oCmpne (oInc 3 1 (oPick [0, 3] k71)) (oAld 0 (oIld 3 (oCal 2 (some 12) EX12_good fIH (oIretH)))))))))))))))))))))))
set_option maxRecDepth 20000 in
theorem sBX12_meets_71 {k71 : KT (Int32 × HP)} (hk71 : Snd XX12_meets fIH 71 k71 0 0) : Snd XX12_meets fIH 71 (BX12_meets_71 k71) (0) (0) := by
  unfold BX12_meets_71
  refine s_Ildn 3 rfl 72 dX12_meets_71 rfl ?_
  refine s_Aldn 0 rfl 73 dX12_meets_72 rfl ?_
  refine s_get 12 3 76 clX12 (by decide) tw_1291 dX12_meets_73 rfl ?_
  refine s_getN 11 2 79 clX11 (by decide) nw_44 dX12_meets_76 rfl ?_
  refine s_cmpgt 120 82 dX12_meets_79 (by decide) rfl ?_ ?_
  · refine s_Aldn 0 rfl 121 dX12_meets_120 rfl ?_
    refine s_bipush 123 (-2) (by decide) dX12_meets_121 rfl ?_
    refine s_cal0 126 (run_V (X := XX12_meets) rfl clX12 yoX12_good rfl tw_1678 tw_1680 tw_p76 (by decide) dX12_meets_123) cmX12_good (fun _ _ _ => rfl) rfl ?_
    exact s_iretH rfl dX12_meets_126
  · refine s_Aldn 0 rfl 83 dX12_meets_82 rfl ?_
    refine s_get 12 29 86 clX12 (by decide) tw_1317 dX12_meets_83 rfl ?_
    refine s_Ildn 3 rfl 87 dX12_meets_86 rfl ?_
    refine s_Ia 88 dX12_meets_87 rfl ?_
    refine s_bipush 90 (-2) (by decide) dX12_meets_88 rfl ?_
    refine s_cmpeq 114 93 dX12_meets_90 (by decide) rfl ?_ ?_
    · refine s_inc 3 1 117 (by decide) (by decide) dX12_meets_114 rfl ?_
      refine s_goto 71 dX12_meets_117 (by decide) ?_
      exact s_pick hk71
    · refine s_Aldn 0 rfl 94 dX12_meets_93 rfl ?_
      refine s_get 12 29 97 clX12 (by decide) tw_1317 dX12_meets_94 rfl ?_
      refine s_Ildn 3 rfl 98 dX12_meets_97 rfl ?_
      refine s_Ia 99 dX12_meets_98 rfl ?_
      refine s_Aldn 0 rfl 100 dX12_meets_99 rfl ?_
      refine s_get 12 30 103 clX12 (by decide) tw_1318 dX12_meets_100 rfl ?_
      refine s_Ildn 3 rfl 104 dX12_meets_103 rfl ?_
      refine s_Ia 105 dX12_meets_104 rfl ?_
      refine s_cmpne 114 108 dX12_meets_105 (by decide) rfl ?_ ?_
      · refine s_inc 3 1 117 (by decide) (by decide) dX12_meets_114 rfl ?_
        refine s_goto 71 dX12_meets_117 (by decide) ?_
        exact s_pick hk71
      · refine s_Aldn 0 rfl 109 dX12_meets_108 rfl ?_
        refine s_Ildn 3 rfl 110 dX12_meets_109 rfl ?_
        refine s_cal0 113 (run_V (X := XX12_meets) rfl clX12 yoX12_good rfl tw_1678 tw_1680 tw_p76 (by decide) dX12_meets_110) cmX12_good (fun _ _ _ => rfl) rfl ?_
        exact s_iretH rfl dX12_meets_113
def BX12_meets_66 : KT (Int32 × HP) :=
  oCal 2 (some 12) EX12_walks fVH (oConst (.int 0) (oIst 3 (oPick [0, 3] (lp (BX12_meets_71) FU))))
set_option maxRecDepth 20000 in
theorem sBX12_meets_66 : Snd XX12_meets fIH 66 (BX12_meets_66) (0) (0) := by
  unfold BX12_meets_66
  refine s_cal0 69 (run_V (X := XX12_meets) rfl clX12 yoX12_walks rfl tw_1771 tw_1773 tw_p85 (by decide) dX12_meets_66) cmX12_walks (fun _ _ _ => rfl) rfl ?_
  refine s_iconst 70 0 (by decide) dX12_meets_69 rfl ?_
  refine s_Istn 3 rfl 71 (by decide) dX12_meets_70 rfl ?_
  exact s_pick (s_lp (fun k hk => sBX12_meets_71  hk) FU)
def BX12_meets_39 (k39 : KT (Int32 × HP)) : KT (Int32 × HP) :=
  oIld 3 (oConst (.int 200) (oCmpgt (oAld 0 (oIld 2 (oPick [0] (BX12_meets_66)))) (oAld 0 (oGet 12 30 (oIld 3 (oAld 0 (oGet 12 29 (oIld 3 (oIa (oIw (oInc 3 1 (oPick [0, 2, 3] k39))))))))))))
set_option maxRecDepth 20000 in
theorem sBX12_meets_39 {k39 : KT (Int32 × HP)} (hk39 : Snd XX12_meets fIH 39 k39 0 0) : Snd XX12_meets fIH 39 (BX12_meets_39 k39) (0) (0) := by
  unfold BX12_meets_39
  refine s_Ildn 3 rfl 40 dX12_meets_39 rfl ?_
  refine s_sipush 43 200 (by decide) dX12_meets_40 rfl ?_
  refine s_cmpgt 64 46 dX12_meets_43 (by decide) rfl ?_ ?_
  · refine s_Aldn 0 rfl 65 dX12_meets_64 rfl ?_
    refine s_Ildn 2 rfl 66 dX12_meets_65 rfl ?_
    exact s_pick (sBX12_meets_66)
  · refine s_Aldn 0 rfl 47 dX12_meets_46 rfl ?_
    refine s_get 12 30 50 clX12 (by decide) tw_1318 dX12_meets_47 rfl ?_
    refine s_Ildn 3 rfl 51 dX12_meets_50 rfl ?_
    refine s_Aldn 0 rfl 52 dX12_meets_51 rfl ?_
    refine s_get 12 29 55 clX12 (by decide) tw_1317 dX12_meets_52 rfl ?_
    refine s_Ildn 3 rfl 56 dX12_meets_55 rfl ?_
    refine s_Ia 57 dX12_meets_56 rfl ?_
    refine s_Iw 58 pIH dX12_meets_57 rfl ?_
    refine s_inc 3 1 61 (by decide) (by decide) dX12_meets_58 rfl ?_
    refine s_goto 39 dX12_meets_61 (by decide) ?_
    exact s_pick hk39
def BX12_meets_34 : KT (Int32 × HP) :=
  oCal 2 (some 12) EX12_walks fVH (oConst (.int 0) (oIst 3 (oPick [0, 2, 3] (lp (BX12_meets_39) FU))))
set_option maxRecDepth 20000 in
theorem sBX12_meets_34 : Snd XX12_meets fIH 34 (BX12_meets_34) (0) (0) := by
  unfold BX12_meets_34
  refine s_cal0 37 (run_V (X := XX12_meets) rfl clX12 yoX12_walks rfl tw_1771 tw_1773 tw_p85 (by decide) dX12_meets_34) cmX12_walks (fun _ _ _ => rfl) rfl ?_
  refine s_iconst 38 0 (by decide) dX12_meets_37 rfl ?_
  refine s_Istn 3 rfl 39 (by decide) dX12_meets_38 rfl ?_
  exact s_pick (s_lp (fun k hk => sBX12_meets_39  hk) FU)
def BX12_meets_15 : KT (Int32 × HP) :=
  oCal 2 (some 12) EX12_isWalker fZ (oIfeq (oAld 0 (oConst (.int 1) (oCal 2 (some 12) EX12_refused fIH (oIretH)))) (oIld 1 (oIld 2 (oCmpne (oAld 0 (oIld 1 (oPick [0, 2] (BX12_meets_34)))) (oAld 0 (oConst (.int 1) (oCal 2 (some 12) EX12_refused fIH (oIretH))))))))
set_option maxRecDepth 20000 in
theorem sBX12_meets_15 : Snd XX12_meets fIH 15 (BX12_meets_15) (0) (0) := by
  unfold BX12_meets_15
  refine s_cal0 18 (run_V (X := XX12_meets) rfl clX12 yoX12_isWalker rfl tw_1767 tw_1769 tw_p84 (by decide) dX12_meets_15) cmX12_isWalker (fun _ _ _ => rfl) rfl ?_
  refine s_ifeq 26 21 dX12_meets_18 (by decide) rfl ?_ ?_
  · refine s_Aldn 0 rfl 27 dX12_meets_26 rfl ?_
    refine s_iconst 28 1 (by decide) dX12_meets_27 rfl ?_
    refine s_cal0 31 (run_V (X := XX12_meets) rfl clX12 yoX12_refused rfl tw_1430 tw_1432 tw_p50 (by decide) dX12_meets_28) cmX12_refused (fun _ _ _ => rfl) rfl ?_
    exact s_iretH rfl dX12_meets_31
  · refine s_Ildn 1 rfl 22 dX12_meets_21 rfl ?_
    refine s_Ildn 2 rfl 23 dX12_meets_22 rfl ?_
    refine s_cmpne 32 26 dX12_meets_23 (by decide) rfl ?_ ?_
    · refine s_Aldn 0 rfl 33 dX12_meets_32 rfl ?_
      refine s_Ildn 1 rfl 34 dX12_meets_33 rfl ?_
      exact s_pick (sBX12_meets_34)
    · refine s_Aldn 0 rfl 27 dX12_meets_26 rfl ?_
      refine s_iconst 28 1 (by decide) dX12_meets_27 rfl ?_
      refine s_cal0 31 (run_V (X := XX12_meets) rfl clX12 yoX12_refused rfl tw_1430 tw_1432 tw_p50 (by decide) dX12_meets_28) cmX12_refused (fun _ _ _ => rfl) rfl ?_
      exact s_iretH rfl dX12_meets_31
def BX12_meets_7 : KT (Int32 × HP) :=
  oCal 2 (some 12) EX12_isWalker fZ (oIfeq (oAld 0 (oConst (.int 1) (oCal 2 (some 12) EX12_refused fIH (oIretH)))) (oAld 0 (oIld 2 (oPick [0, 1, 2] (BX12_meets_15)))))
set_option maxRecDepth 20000 in
theorem sBX12_meets_7 : Snd XX12_meets fIH 7 (BX12_meets_7) (0) (0) := by
  unfold BX12_meets_7
  refine s_cal0 10 (run_V (X := XX12_meets) rfl clX12 yoX12_isWalker rfl tw_1767 tw_1769 tw_p84 (by decide) dX12_meets_7) cmX12_isWalker (fun _ _ _ => rfl) rfl ?_
  refine s_ifeq 26 13 dX12_meets_10 (by decide) rfl ?_ ?_
  · refine s_Aldn 0 rfl 27 dX12_meets_26 rfl ?_
    refine s_iconst 28 1 (by decide) dX12_meets_27 rfl ?_
    refine s_cal0 31 (run_V (X := XX12_meets) rfl clX12 yoX12_refused rfl tw_1430 tw_1432 tw_p50 (by decide) dX12_meets_28) cmX12_refused (fun _ _ _ => rfl) rfl ?_
    exact s_iretH rfl dX12_meets_31
  · refine s_Aldn 0 rfl 14 dX12_meets_13 rfl ?_
    refine s_Ildn 2 rfl 15 dX12_meets_14 rfl ?_
    exact s_pick (sBX12_meets_15)
def BX12_meets_0 : KT (Int32 × HP) :=
  oAld 0 (oConst (.int 0) (oPut 12 0 .int (oAld 0 (oIld 1 (oPick [0, 1, 2] (BX12_meets_7))))))
set_option maxRecDepth 20000 in
theorem sBX12_meets_0 : Snd XX12_meets fIH 0 (BX12_meets_0) (0) (0) := by
  unfold BX12_meets_0
  refine s_Aldn 0 rfl 1 dX12_meets_0 rfl ?_
  refine s_iconst 2 0 (by decide) dX12_meets_1 rfl ?_
  refine s_put 12 0 5 clX12 (by decide) rfl rfl pIH tw_1288 dX12_meets_2 rfl ?_
  refine s_Aldn 0 rfl 6 dX12_meets_5 rfl ?_
  refine s_Ildn 1 rfl 7 dX12_meets_6 rfl ?_
  exact s_pick (sBX12_meets_7)
def EX12_meets : List Value → HP → Option (Int32 × HP) := en 4 BX12_meets_0
theorem cmX12_meets : CM XX12_meets EX12_meets fIH 0 0 := CM.of rfl (by decide) rfl rfl sBX12_meets_0
theorem yoX12_meets : YO XX12_meets 2 0 0 := ⟨tw_1833, rfl, tw_12, (by decide +kernel), rfl, rfl⟩
abbrev XX12_shouts : MX := (yX12_shouts, cX12_shouts, 2, (Option.some .int), Cond.code yX12_shouts cX12_shouts 2 (Option.some .int) :: WS, { frames := 6, cells := 0, slots := 0, locals := 138 })
def BX12_shouts_27 : KT (Int32 × HP) :=
  oCal 2 (some 12) EX12_there fI (oCal 2 (some 12) EX12_good fIH (oIretH))
set_option maxRecDepth 20000 in
theorem sBX12_shouts_27 : Snd XX12_shouts fIH 27 (BX12_shouts_27) (0) (0) := by
  unfold BX12_shouts_27
  refine s_cal0 30 (run_V (X := XX12_shouts) rfl clX12 yoX12_there rfl tw_1838 tw_1840 tw_p95 (by decide) dX12_shouts_27) cmX12_there (fun _ _ _ => rfl) rfl ?_
  refine s_cal0 33 (run_V (X := XX12_shouts) rfl clX12 yoX12_good rfl tw_1678 tw_1680 tw_p76 (by decide) dX12_shouts_30) cmX12_good (fun _ _ _ => rfl) rfl ?_
  exact s_iretH rfl dX12_shouts_33
def BX12_shouts_21 : KT (Int32 × HP) :=
  oCal 2 (some 12) EX12_walks fVH (oAld 0 (oAld 0 (oIld 1 (oPick [] (BX12_shouts_27)))))
set_option maxRecDepth 20000 in
theorem sBX12_shouts_21 : Snd XX12_shouts fIH 21 (BX12_shouts_21) (0) (0) := by
  unfold BX12_shouts_21
  refine s_cal0 24 (run_V (X := XX12_shouts) rfl clX12 yoX12_walks rfl tw_1771 tw_1773 tw_p85 (by decide) dX12_shouts_21) cmX12_walks (fun _ _ _ => rfl) rfl ?_
  refine s_Aldn 0 rfl 25 dX12_shouts_24 rfl ?_
  refine s_Aldn 0 rfl 26 dX12_shouts_25 rfl ?_
  refine s_Ildn 1 rfl 27 dX12_shouts_26 rfl ?_
  exact s_pick (sBX12_shouts_27)
def BX12_shouts_7 : KT (Int32 × HP) :=
  oCal 2 (some 12) EX12_isWalker fZ (oIfne (oAld 0 (oIld 1 (oPick [0, 1] (BX12_shouts_21)))) (oAld 0 (oConst (.int 1) (oCal 2 (some 12) EX12_refused fIH (oIretH)))))
set_option maxRecDepth 20000 in
theorem sBX12_shouts_7 : Snd XX12_shouts fIH 7 (BX12_shouts_7) (0) (0) := by
  unfold BX12_shouts_7
  refine s_cal0 10 (run_V (X := XX12_shouts) rfl clX12 yoX12_isWalker rfl tw_1767 tw_1769 tw_p84 (by decide) dX12_shouts_7) cmX12_isWalker (fun _ _ _ => rfl) rfl ?_
  refine s_ifne 19 13 dX12_shouts_10 (by decide) rfl ?_ ?_
  · refine s_Aldn 0 rfl 20 dX12_shouts_19 rfl ?_
    refine s_Ildn 1 rfl 21 dX12_shouts_20 rfl ?_
    exact s_pick (sBX12_shouts_21)
  · refine s_Aldn 0 rfl 14 dX12_shouts_13 rfl ?_
    refine s_iconst 15 1 (by decide) dX12_shouts_14 rfl ?_
    refine s_cal0 18 (run_V (X := XX12_shouts) rfl clX12 yoX12_refused rfl tw_1430 tw_1432 tw_p50 (by decide) dX12_shouts_15) cmX12_refused (fun _ _ _ => rfl) rfl ?_
    exact s_iretH rfl dX12_shouts_18
def BX12_shouts_0 : KT (Int32 × HP) :=
  oAld 0 (oConst (.int 0) (oPut 12 0 .int (oAld 0 (oIld 1 (oPick [0, 1] (BX12_shouts_7))))))
set_option maxRecDepth 20000 in
theorem sBX12_shouts_0 : Snd XX12_shouts fIH 0 (BX12_shouts_0) (0) (0) := by
  unfold BX12_shouts_0
  refine s_Aldn 0 rfl 1 dX12_shouts_0 rfl ?_
  refine s_iconst 2 0 (by decide) dX12_shouts_1 rfl ?_
  refine s_put 12 0 5 clX12 (by decide) rfl rfl pIH tw_1288 dX12_shouts_2 rfl ?_
  refine s_Aldn 0 rfl 6 dX12_shouts_5 rfl ?_
  refine s_Ildn 1 rfl 7 dX12_shouts_6 rfl ?_
  exact s_pick (sBX12_shouts_7)
def EX12_shouts : List Value → HP → Option (Int32 × HP) := en 2 BX12_shouts_0
theorem cmX12_shouts : CM XX12_shouts EX12_shouts fIH 0 0 := CM.of rfl (by decide) rfl rfl sBX12_shouts_0
theorem yoX12_shouts : YO XX12_shouts 1 0 0 := ⟨tw_1837, rfl, tw_12, (by decide +kernel), rfl, rfl⟩
abbrev XX12_visits : MX := (yX12_visits, cX12_visits, 5, (Option.some .int), Cond.code yX12_visits cX12_visits 5 (Option.some .int) :: WS, { frames := 6, cells := 0, slots := 0, locals := 138 })
def BX12_visits_73 : KT (Int32 × HP) :=
  oCal 1 none EX12_bits fI (oCal 2 (some 12) EX12_good fIH (oIretH))
set_option maxRecDepth 20000 in
theorem sBX12_visits_73 : Snd XX12_visits fIH 73 (BX12_visits_73) (0) (0) := by
  unfold BX12_visits_73
  refine s_cal0 76 (run_S (X := XX12_visits) yoX12_bits tw_1675 tw_1676 (by decide) dX12_visits_73) cmX12_bits (fun _ _ _ => rfl) rfl ?_
  refine s_cal0 79 (run_V (X := XX12_visits) rfl clX12 yoX12_good rfl tw_1678 tw_1680 tw_p76 (by decide) dX12_visits_76) cmX12_good (fun _ _ _ => rfl) rfl ?_
  exact s_iretH rfl dX12_visits_79
def BX12_visits_29 (k29 : KT (Int32 × HP)) : KT (Int32 × HP) :=
  oIld 4 (oAld 0 (oGet 12 3 (oGet 11 2 (oCmpgt (oAld 0 (oLld 2 (oPick [] (BX12_visits_73)))) (oAld 0 (oGet 12 29 (oIld 4 (oIa (oConst (.int (-2)) (oCmpeq (oInc 4 1 (oPick [0, 2, 4] k29)) (oLld 2 (oConst (.long 1) (oAld 0 (oGet 12 29 (oIld 4 (oIa (olshl (olor (oLst 2 (oInc 4 1 (oPick [0, 2, 4] k29)))))))))))))))))))))
set_option maxRecDepth 20000 in
theorem sBX12_visits_29 {k29 : KT (Int32 × HP)} (hk29 : Snd XX12_visits fIH 29 k29 0 0) : Snd XX12_visits fIH 29 (BX12_visits_29 k29) (0) (0) := by
  unfold BX12_visits_29
  refine s_Ild 4 31 dX12_visits_29 rfl ?_
  refine s_Aldn 0 rfl 32 dX12_visits_31 rfl ?_
  refine s_get 12 3 35 clX12 (by decide) tw_1291 dX12_visits_32 rfl ?_
  refine s_getN 11 2 38 clX11 (by decide) nw_44 dX12_visits_35 rfl ?_
  refine s_cmpgt 71 41 dX12_visits_38 (by decide) rfl ?_ ?_
  · refine s_Aldn 0 rfl 72 dX12_visits_71 rfl ?_
    refine s_Lldn 2 rfl 73 dX12_visits_72 rfl ?_
    exact s_pick (sBX12_visits_73)
  · refine s_Aldn 0 rfl 42 dX12_visits_41 rfl ?_
    refine s_get 12 29 45 clX12 (by decide) tw_1317 dX12_visits_42 rfl ?_
    refine s_Ild 4 47 dX12_visits_45 rfl ?_
    refine s_Ia 48 dX12_visits_47 rfl ?_
    refine s_bipush 50 (-2) (by decide) dX12_visits_48 rfl ?_
    refine s_cmpeq 65 53 dX12_visits_50 (by decide) rfl ?_ ?_
    · refine s_inc 4 1 68 (by decide) (by decide) dX12_visits_65 rfl ?_
      refine s_goto 29 dX12_visits_68 (by decide) ?_
      exact s_pick hk29
    · refine s_Lldn 2 rfl 54 dX12_visits_53 rfl ?_
      refine s_lconst 55 1 (by decide) dX12_visits_54 rfl ?_
      refine s_Aldn 0 rfl 56 dX12_visits_55 rfl ?_
      refine s_get 12 29 59 clX12 (by decide) tw_1317 dX12_visits_56 rfl ?_
      refine s_Ild 4 61 dX12_visits_59 rfl ?_
      refine s_Ia 62 dX12_visits_61 rfl ?_
      refine s_lshl 63 dX12_visits_62 rfl ?_
      refine s_lor 64 dX12_visits_63 rfl ?_
      refine s_Lstn 2 rfl 65 (by decide) dX12_visits_64 rfl ?_
      refine s_inc 4 1 68 (by decide) (by decide) dX12_visits_65 rfl ?_
      refine s_goto 29 dX12_visits_68 (by decide) ?_
      exact s_pick hk29
def BX12_visits_21 : KT (Int32 × HP) :=
  oCal 2 (some 12) EX12_walks fVH (oConst (.long 0) (oLst 2 (oConst (.int 0) (oIst 4 (oPick [0, 2, 4] (lp (BX12_visits_29) FU))))))
set_option maxRecDepth 20000 in
theorem sBX12_visits_21 : Snd XX12_visits fIH 21 (BX12_visits_21) (0) (0) := by
  unfold BX12_visits_21
  refine s_cal0 24 (run_V (X := XX12_visits) rfl clX12 yoX12_walks rfl tw_1771 tw_1773 tw_p85 (by decide) dX12_visits_21) cmX12_walks (fun _ _ _ => rfl) rfl ?_
  refine s_lconst 25 0 (by decide) dX12_visits_24 rfl ?_
  refine s_Lstn 2 rfl 26 (by decide) dX12_visits_25 rfl ?_
  refine s_iconst 27 0 (by decide) dX12_visits_26 rfl ?_
  refine s_Ist 4 29 (by decide) dX12_visits_27 rfl ?_
  exact s_pick (s_lp (fun k hk => sBX12_visits_29  hk) FU)
def BX12_visits_7 : KT (Int32 × HP) :=
  oCal 2 (some 12) EX12_isWalker fZ (oIfne (oAld 0 (oIld 1 (oPick [0] (BX12_visits_21)))) (oAld 0 (oConst (.int 1) (oCal 2 (some 12) EX12_refused fIH (oIretH)))))
set_option maxRecDepth 20000 in
theorem sBX12_visits_7 : Snd XX12_visits fIH 7 (BX12_visits_7) (0) (0) := by
  unfold BX12_visits_7
  refine s_cal0 10 (run_V (X := XX12_visits) rfl clX12 yoX12_isWalker rfl tw_1767 tw_1769 tw_p84 (by decide) dX12_visits_7) cmX12_isWalker (fun _ _ _ => rfl) rfl ?_
  refine s_ifne 19 13 dX12_visits_10 (by decide) rfl ?_ ?_
  · refine s_Aldn 0 rfl 20 dX12_visits_19 rfl ?_
    refine s_Ildn 1 rfl 21 dX12_visits_20 rfl ?_
    exact s_pick (sBX12_visits_21)
  · refine s_Aldn 0 rfl 14 dX12_visits_13 rfl ?_
    refine s_iconst 15 1 (by decide) dX12_visits_14 rfl ?_
    refine s_cal0 18 (run_V (X := XX12_visits) rfl clX12 yoX12_refused rfl tw_1430 tw_1432 tw_p50 (by decide) dX12_visits_15) cmX12_refused (fun _ _ _ => rfl) rfl ?_
    exact s_iretH rfl dX12_visits_18
def BX12_visits_0 : KT (Int32 × HP) :=
  oAld 0 (oConst (.int 0) (oPut 12 0 .int (oAld 0 (oIld 1 (oPick [0, 1] (BX12_visits_7))))))
set_option maxRecDepth 20000 in
theorem sBX12_visits_0 : Snd XX12_visits fIH 0 (BX12_visits_0) (0) (0) := by
  unfold BX12_visits_0
  refine s_Aldn 0 rfl 1 dX12_visits_0 rfl ?_
  refine s_iconst 2 0 (by decide) dX12_visits_1 rfl ?_
  refine s_put 12 0 5 clX12 (by decide) rfl rfl pIH tw_1288 dX12_visits_2 rfl ?_
  refine s_Aldn 0 rfl 6 dX12_visits_5 rfl ?_
  refine s_Ildn 1 rfl 7 dX12_visits_6 rfl ?_
  exact s_pick (sBX12_visits_7)
def EX12_visits : List Value → HP → Option (Int32 × HP) := en 5 BX12_visits_0
theorem cmX12_visits : CM XX12_visits EX12_visits fIH 0 0 := CM.of rfl (by decide) rfl rfl sBX12_visits_0
theorem yoX12_visits : YO XX12_visits 1 0 0 := ⟨tw_1845, rfl, tw_12, (by decide +kernel), rfl, rfl⟩
abbrev XX12_crowd : MX := (yX12_crowd, cX12_crowd, 4, (Option.some .int), Cond.code yX12_crowd cX12_crowd 4 (Option.some .int) :: WS, { frames := 6, cells := 0, slots := 0, locals := 138 })
def BX12_crowd_56 (k43 : KT (Int32 × HP)) : KT (Int32 × HP) :=
  oCal 2 (some 12) EX12_walks fVH (oIld 2 (oAld 0 (oGet 12 29 (oIld 1 (oIa (oConst (.int (-2)) (oCmpne (oConst (.int 1) (oiadd (oIst 2 (oInc 3 1 (oPick [0, 1, 2, 3] k43))))) (oConst (.int 0) (oiadd (oIst 2 (oInc 3 1 (oPick [0, 1, 2, 3] k43))))))))))))
set_option maxRecDepth 20000 in
theorem sBX12_crowd_56 {k43 : KT (Int32 × HP)} (hk43 : Snd XX12_crowd fIH 43 k43 0 0) : Snd XX12_crowd fIH 56 (BX12_crowd_56 k43) (0) (0) := by
  unfold BX12_crowd_56
  refine s_cal0 59 (run_V (X := XX12_crowd) rfl clX12 yoX12_walks rfl tw_1771 tw_1773 tw_p85 (by decide) dX12_crowd_56) cmX12_walks (fun _ _ _ => rfl) rfl ?_
  refine s_Ildn 2 rfl 60 dX12_crowd_59 rfl ?_
  refine s_Aldn 0 rfl 61 dX12_crowd_60 rfl ?_
  refine s_get 12 29 64 clX12 (by decide) tw_1317 dX12_crowd_61 rfl ?_
  refine s_Ildn 1 rfl 65 dX12_crowd_64 rfl ?_
  refine s_Ia 66 dX12_crowd_65 rfl ?_
  refine s_bipush 68 (-2) (by decide) dX12_crowd_66 rfl ?_
  refine s_cmpne 75 71 dX12_crowd_68 (by decide) rfl ?_ ?_
  · refine s_iconst 76 1 (by decide) dX12_crowd_75 rfl ?_
    refine s_iadd 77 dX12_crowd_76 rfl ?_
    refine s_Istn 2 rfl 78 (by decide) dX12_crowd_77 rfl ?_
    refine s_inc 3 1 81 (by decide) (by decide) dX12_crowd_78 rfl ?_
    refine s_goto 43 dX12_crowd_81 (by decide) ?_
    exact s_pick hk43
  · refine s_iconst 72 0 (by decide) dX12_crowd_71 rfl ?_
    refine s_goto 76 dX12_crowd_72 (by decide) ?_
    refine s_iadd 77 dX12_crowd_76 rfl ?_
    refine s_Istn 2 rfl 78 (by decide) dX12_crowd_77 rfl ?_
    refine s_inc 3 1 81 (by decide) (by decide) dX12_crowd_78 rfl ?_
    refine s_goto 43 dX12_crowd_81 (by decide) ?_
    exact s_pick hk43
def BX12_crowd_43 (k43 : KT (Int32 × HP)) : KT (Int32 × HP) :=
  oIld 3 (oAld 0 (oGet 12 3 (oGet 11 10 (oCmpge (oAld 0 (oIld 2 (oCal 2 (some 12) EX12_good fIH (oIretH)))) (oAld 0 (oIld 3 (oPick [0, 1, 2, 3] (BX12_crowd_56 k43))))))))
set_option maxRecDepth 20000 in
theorem sBX12_crowd_43 {k43 : KT (Int32 × HP)} (hk43 : Snd XX12_crowd fIH 43 k43 0 0) : Snd XX12_crowd fIH 43 (BX12_crowd_43 k43) (0) (0) := by
  unfold BX12_crowd_43
  refine s_Ildn 3 rfl 44 dX12_crowd_43 rfl ?_
  refine s_Aldn 0 rfl 45 dX12_crowd_44 rfl ?_
  refine s_get 12 3 48 clX12 (by decide) tw_1291 dX12_crowd_45 rfl ?_
  refine s_getN 11 10 51 clX11 (by decide) nw_52 dX12_crowd_48 rfl ?_
  refine s_cmpge 84 54 dX12_crowd_51 (by decide) rfl ?_ ?_
  · refine s_Aldn 0 rfl 85 dX12_crowd_84 rfl ?_
    refine s_Ildn 2 rfl 86 dX12_crowd_85 rfl ?_
    refine s_cal0 89 (run_V (X := XX12_crowd) rfl clX12 yoX12_good rfl tw_1678 tw_1680 tw_p76 (by decide) dX12_crowd_86) cmX12_good (fun _ _ _ => rfl) rfl ?_
    exact s_iretH rfl dX12_crowd_89
  · refine s_Aldn 0 rfl 55 dX12_crowd_54 rfl ?_
    refine s_Ildn 3 rfl 56 dX12_crowd_55 rfl ?_
    exact s_pick (sBX12_crowd_56 hk43)
def BX12_crowd_27 : KT (Int32 × HP) :=
  oCal 3 none EX12_in fZ (oIfne (oConst (.int 0) (oIst 2 (oConst (.int 0) (oIst 3 (oPick [0, 1, 2, 3] (lp (BX12_crowd_43) FU)))))) (oAld 0 (oConst (.int 2) (oCal 2 (some 12) EX12_refused fIH (oIretH)))))
set_option maxRecDepth 20000 in
theorem sBX12_crowd_27 : Snd XX12_crowd fIH 27 (BX12_crowd_27) (0) (0) := by
  unfold BX12_crowd_27
  refine s_cal0 30 (run_S (X := XX12_crowd) yoX12_in tw_1589 tw_1590 (by decide) dX12_crowd_27) cmX12_in (fun _ _ _ => rfl) rfl ?_
  refine s_ifne 39 33 dX12_crowd_30 (by decide) rfl ?_ ?_
  · refine s_iconst 40 0 (by decide) dX12_crowd_39 rfl ?_
    refine s_Istn 2 rfl 41 (by decide) dX12_crowd_40 rfl ?_
    refine s_iconst 42 0 (by decide) dX12_crowd_41 rfl ?_
    refine s_Istn 3 rfl 43 (by decide) dX12_crowd_42 rfl ?_
    exact s_pick (s_lp (fun k hk => sBX12_crowd_43  hk) FU)
  · refine s_Aldn 0 rfl 34 dX12_crowd_33 rfl ?_
    refine s_iconst 35 2 (by decide) dX12_crowd_34 rfl ?_
    refine s_cal0 38 (run_V (X := XX12_crowd) rfl clX12 yoX12_refused rfl tw_1430 tw_1432 tw_p50 (by decide) dX12_crowd_35) cmX12_refused (fun _ _ _ => rfl) rfl ?_
    exact s_iretH rfl dX12_crowd_38
def BX12_crowd_0 : KT (Int32 × HP) :=
  oAld 0 (oConst (.int 0) (oPut 12 0 .int (oAld 0 (oGet 12 3 (oNul (oAld 0 (oConst (.int 1) (oCal 2 (some 12) EX12_refused fIH (oIretH)))) (oIld 1 (oConst (.int 0) (oAld 0 (oGet 12 3 (oGet 11 2 (oPick [0, 1] (BX12_crowd_27))))))))))))
set_option maxRecDepth 20000 in
theorem sBX12_crowd_0 : Snd XX12_crowd fIH 0 (BX12_crowd_0) (0) (0) := by
  unfold BX12_crowd_0
  refine s_Aldn 0 rfl 1 dX12_crowd_0 rfl ?_
  refine s_iconst 2 0 (by decide) dX12_crowd_1 rfl ?_
  refine s_put 12 0 5 clX12 (by decide) rfl rfl pIH tw_1288 dX12_crowd_2 rfl ?_
  refine s_Aldn 0 rfl 6 dX12_crowd_5 rfl ?_
  refine s_get 12 3 9 clX12 (by decide) tw_1291 dX12_crowd_6 rfl ?_
  refine s_ifnonnull 18 12 dX12_crowd_9 (by decide) rfl ?_ ?_
  · refine s_Ildn 1 rfl 19 dX12_crowd_18 rfl ?_
    refine s_iconst 20 0 (by decide) dX12_crowd_19 rfl ?_
    refine s_Aldn 0 rfl 21 dX12_crowd_20 rfl ?_
    refine s_get 12 3 24 clX12 (by decide) tw_1291 dX12_crowd_21 rfl ?_
    refine s_getN 11 2 27 clX11 (by decide) nw_44 dX12_crowd_24 rfl ?_
    exact s_pick (sBX12_crowd_27)
  · refine s_Aldn 0 rfl 13 dX12_crowd_12 rfl ?_
    refine s_iconst 14 1 (by decide) dX12_crowd_13 rfl ?_
    refine s_cal0 17 (run_V (X := XX12_crowd) rfl clX12 yoX12_refused rfl tw_1430 tw_1432 tw_p50 (by decide) dX12_crowd_14) cmX12_refused (fun _ _ _ => rfl) rfl ?_
    exact s_iretH rfl dX12_crowd_17
def EX12_crowd : List Value → HP → Option (Int32 × HP) := en 4 BX12_crowd_0
theorem cmX12_crowd : CM XX12_crowd EX12_crowd fIH 0 0 := CM.of rfl (by decide) rfl rfl sBX12_crowd_0
theorem yoX12_crowd : YO XX12_crowd 1 0 0 := ⟨tw_1849, rfl, tw_12, (by decide +kernel), rfl, rfl⟩
abbrev XX12_paidNow : MX := (yX12_paidNow, cX12_paidNow, 3, (Option.some .int), Cond.code yX12_paidNow cX12_paidNow 3 (Option.some .int) :: WS, { frames := 6, cells := 0, slots := 0, locals := 138 })
def BX12_paidNow_35 (k9 : KT (Int32 × HP)) : KT (Int32 × HP) :=
  oCal 2 (some 12) EX12_there fI (oimul (oiadd (oIst 1 (oAld 0 (odup (oGet 12 33 (oAld 0 (oGet 12 31 (oConst (.int (-2)) (oCmpne (oConst (.int 0) (oior (oPut 12 33 .int (oInc 2 1 (oPick [0, 1, 2] k9))))) (oConst (.int 1) (oIld 2 (oishl (oior (oPut 12 33 .int (oInc 2 1 (oPick [0, 1, 2] k9)))))))))))))))))
set_option maxRecDepth 20000 in
theorem sBX12_paidNow_35 {k9 : KT (Int32 × HP)} (hk9 : Snd XX12_paidNow fIH 9 k9 0 0) : Snd XX12_paidNow fIH 35 (BX12_paidNow_35 k9) (0) (0) := by
  unfold BX12_paidNow_35
  refine s_cal0 38 (run_V (X := XX12_paidNow) rfl clX12 yoX12_there rfl tw_1838 tw_1840 tw_p95 (by decide) dX12_paidNow_35) cmX12_there (fun _ _ _ => rfl) rfl ?_
  refine s_imul 39 dX12_paidNow_38 rfl ?_
  refine s_iadd 40 dX12_paidNow_39 rfl ?_
  refine s_Istn 1 rfl 41 (by decide) dX12_paidNow_40 rfl ?_
  refine s_Aldn 0 rfl 42 dX12_paidNow_41 rfl ?_
  refine s_dup 43 dX12_paidNow_42 rfl ?_
  refine s_get 12 33 46 clX12 (by decide) tw_1321 dX12_paidNow_43 rfl ?_
  refine s_Aldn 0 rfl 47 dX12_paidNow_46 rfl ?_
  refine s_get 12 31 50 clX12 (by decide) tw_1319 dX12_paidNow_47 rfl ?_
  refine s_bipush 52 (-2) (by decide) dX12_paidNow_50 rfl ?_
  refine s_cmpne 61 55 dX12_paidNow_52 (by decide) rfl ?_ ?_
  · refine s_iconst 62 0 (by decide) dX12_paidNow_61 rfl ?_
    refine s_ior 63 dX12_paidNow_62 rfl ?_
    refine s_put 12 33 66 clX12 (by decide) rfl rfl pIH tw_1321 dX12_paidNow_63 rfl ?_
    refine s_inc 2 1 69 (by decide) (by decide) dX12_paidNow_66 rfl ?_
    refine s_goto 9 dX12_paidNow_69 (by decide) ?_
    exact s_pick hk9
  · refine s_iconst 56 1 (by decide) dX12_paidNow_55 rfl ?_
    refine s_Ildn 2 rfl 57 dX12_paidNow_56 rfl ?_
    refine s_ishl 58 dX12_paidNow_57 rfl ?_
    refine s_goto 62 dX12_paidNow_58 (by decide) ?_
    refine s_ior 63 dX12_paidNow_62 rfl ?_
    refine s_put 12 33 66 clX12 (by decide) rfl rfl pIH tw_1321 dX12_paidNow_63 rfl ?_
    refine s_inc 2 1 69 (by decide) (by decide) dX12_paidNow_66 rfl ?_
    refine s_goto 9 dX12_paidNow_69 (by decide) ?_
    exact s_pick hk9
def BX12_paidNow_22 (k9 : KT (Int32 × HP)) : KT (Int32 × HP) :=
  oCal 2 (some 12) EX12_walks fVH (oIld 1 (oAld 0 (oGet 12 3 (oGet 11 3 (oAld 0 (oIld 2 (oPick [0, 2] (BX12_paidNow_35 k9))))))))
set_option maxRecDepth 20000 in
theorem sBX12_paidNow_22 {k9 : KT (Int32 × HP)} (hk9 : Snd XX12_paidNow fIH 9 k9 0 0) : Snd XX12_paidNow fIH 22 (BX12_paidNow_22 k9) (0) (0) := by
  unfold BX12_paidNow_22
  refine s_cal0 25 (run_V (X := XX12_paidNow) rfl clX12 yoX12_walks rfl tw_1771 tw_1773 tw_p85 (by decide) dX12_paidNow_22) cmX12_walks (fun _ _ _ => rfl) rfl ?_
  refine s_Ildn 1 rfl 26 dX12_paidNow_25 rfl ?_
  refine s_Aldn 0 rfl 27 dX12_paidNow_26 rfl ?_
  refine s_get 12 3 30 clX12 (by decide) tw_1291 dX12_paidNow_27 rfl ?_
  refine s_getN 11 3 33 clX11 (by decide) nw_45 dX12_paidNow_30 rfl ?_
  refine s_Aldn 0 rfl 34 dX12_paidNow_33 rfl ?_
  refine s_Ildn 2 rfl 35 dX12_paidNow_34 rfl ?_
  exact s_pick (sBX12_paidNow_35 hk9)
def BX12_paidNow_9 (k9 : KT (Int32 × HP)) : KT (Int32 × HP) :=
  oIld 2 (oAld 0 (oGet 12 3 (oGet 11 10 (oCmpge (oIld 1 (oIretH)) (oAld 0 (oIld 2 (oPick [0, 1, 2] (BX12_paidNow_22 k9))))))))
set_option maxRecDepth 20000 in
theorem sBX12_paidNow_9 {k9 : KT (Int32 × HP)} (hk9 : Snd XX12_paidNow fIH 9 k9 0 0) : Snd XX12_paidNow fIH 9 (BX12_paidNow_9 k9) (0) (0) := by
  unfold BX12_paidNow_9
  refine s_Ildn 2 rfl 10 dX12_paidNow_9 rfl ?_
  refine s_Aldn 0 rfl 11 dX12_paidNow_10 rfl ?_
  refine s_get 12 3 14 clX12 (by decide) tw_1291 dX12_paidNow_11 rfl ?_
  refine s_getN 11 10 17 clX11 (by decide) nw_52 dX12_paidNow_14 rfl ?_
  refine s_cmpge 72 20 dX12_paidNow_17 (by decide) rfl ?_ ?_
  · refine s_Ildn 1 rfl 73 dX12_paidNow_72 rfl ?_
    exact s_iretH rfl dX12_paidNow_73
  · refine s_Aldn 0 rfl 21 dX12_paidNow_20 rfl ?_
    refine s_Ildn 2 rfl 22 dX12_paidNow_21 rfl ?_
    exact s_pick (sBX12_paidNow_22 hk9)
def BX12_paidNow_0 : KT (Int32 × HP) :=
  oConst (.int 0) (oIst 1 (oAld 0 (oConst (.int 0) (oPut 12 33 .int (oConst (.int 0) (oIst 2 (oPick [0, 1, 2] (lp (BX12_paidNow_9) FU))))))))
set_option maxRecDepth 20000 in
theorem sBX12_paidNow_0 : Snd XX12_paidNow fIH 0 (BX12_paidNow_0) (0) (0) := by
  unfold BX12_paidNow_0
  refine s_iconst 1 0 (by decide) dX12_paidNow_0 rfl ?_
  refine s_Istn 1 rfl 2 (by decide) dX12_paidNow_1 rfl ?_
  refine s_Aldn 0 rfl 3 dX12_paidNow_2 rfl ?_
  refine s_iconst 4 0 (by decide) dX12_paidNow_3 rfl ?_
  refine s_put 12 33 7 clX12 (by decide) rfl rfl pIH tw_1321 dX12_paidNow_4 rfl ?_
  refine s_iconst 8 0 (by decide) dX12_paidNow_7 rfl ?_
  refine s_Istn 2 rfl 9 (by decide) dX12_paidNow_8 rfl ?_
  exact s_pick (s_lp (fun k hk => sBX12_paidNow_9  hk) FU)
def EX12_paidNow : List Value → HP → Option (Int32 × HP) := en 3 BX12_paidNow_0
theorem cmX12_paidNow : CM XX12_paidNow EX12_paidNow fIH 0 0 := CM.of rfl (by decide) rfl rfl sBX12_paidNow_0
theorem yoX12_paidNow : YO XX12_paidNow 0 0 0 := ⟨tw_1857, rfl, tw_12, (by decide +kernel), rfl, rfl⟩
abbrev XX12_paid : MX := (yX12_paid, cX12_paid, 1, (Option.some .int), Cond.code yX12_paid cX12_paid 1 (Option.some .int) :: WS, { frames := 7, cells := 0, slots := 0, locals := 160 })
def BX12_paid_22 : KT (Int32 × HP) :=
  oCal 1 (some 12) EX12_paidNow fIH (oCal 2 (some 12) EX12_good fIH (oIretH))
set_option maxRecDepth 20000 in
theorem sBX12_paid_22 : Snd XX12_paid fIH 22 (BX12_paid_22) (0) (0) := by
  unfold BX12_paid_22
  refine s_cal0 25 (run_V (X := XX12_paid) rfl clX12 yoX12_paidNow rfl tw_1854 tw_1856 tw_p96 (by decide) dX12_paid_22) cmX12_paidNow (fun _ _ _ => rfl) rfl ?_
  refine s_cal0 28 (run_V (X := XX12_paid) rfl clX12 yoX12_good rfl tw_1678 tw_1680 tw_p76 (by decide) dX12_paid_25) cmX12_good (fun _ _ _ => rfl) rfl ?_
  exact s_iretH rfl dX12_paid_28
def BX12_paid_0 : KT (Int32 × HP) :=
  oAld 0 (oConst (.int 0) (oPut 12 0 .int (oAld 0 (oGet 12 3 (oNul (oAld 0 (oConst (.int 1) (oCal 2 (some 12) EX12_refused fIH (oIretH)))) (oAld 0 (oAld 0 (oPick [] (BX12_paid_22)))))))))
set_option maxRecDepth 20000 in
theorem sBX12_paid_0 : Snd XX12_paid fIH 0 (BX12_paid_0) (0) (0) := by
  unfold BX12_paid_0
  refine s_Aldn 0 rfl 1 dX12_paid_0 rfl ?_
  refine s_iconst 2 0 (by decide) dX12_paid_1 rfl ?_
  refine s_put 12 0 5 clX12 (by decide) rfl rfl pIH tw_1288 dX12_paid_2 rfl ?_
  refine s_Aldn 0 rfl 6 dX12_paid_5 rfl ?_
  refine s_get 12 3 9 clX12 (by decide) tw_1291 dX12_paid_6 rfl ?_
  refine s_ifnonnull 20 12 dX12_paid_9 (by decide) rfl ?_ ?_
  · refine s_Aldn 0 rfl 21 dX12_paid_20 rfl ?_
    refine s_Aldn 0 rfl 22 dX12_paid_21 rfl ?_
    exact s_pick (sBX12_paid_22)
  · refine s_Aldn 0 rfl 13 dX12_paid_12 rfl ?_
    refine s_iconst 14 1 (by decide) dX12_paid_13 rfl ?_
    refine s_cal0 17 (run_V (X := XX12_paid) rfl clX12 yoX12_refused rfl tw_1430 tw_1432 tw_p50 (by decide) dX12_paid_14) cmX12_refused (fun _ _ _ => rfl) rfl ?_
    refine s_goto 28 dX12_paid_17 (by decide) ?_
    exact s_iretH rfl dX12_paid_28
def EX12_paid : List Value → HP → Option (Int32 × HP) := en 1 BX12_paid_0
theorem cmX12_paid : CM XX12_paid EX12_paid fIH 0 0 := CM.of rfl (by decide) rfl rfl sBX12_paid_0
theorem yoX12_paid : YO XX12_paid 0 0 0 := ⟨tw_1853, rfl, tw_12, (by decide +kernel), rfl, rfl⟩
abbrev XX12_stuck : MX := (yX12_stuck, cX12_stuck, 1, (Option.some .int), Cond.code yX12_stuck cX12_stuck 1 (Option.some .int) :: WS, { frames := 7, cells := 0, slots := 0, locals := 160 })
def BX12_stuck_19 : KT (Int32 × HP) :=
  oCal 1 (some 12) EX12_paidNow fIH (opop (oAld 0 (oAld 0 (oGet 12 33 (oCal 2 (some 12) EX12_good fIH (oIretH))))))
set_option maxRecDepth 20000 in
theorem sBX12_stuck_19 : Snd XX12_stuck fIH 19 (BX12_stuck_19) (0) (0) := by
  unfold BX12_stuck_19
  refine s_cal0 22 (run_V (X := XX12_stuck) rfl clX12 yoX12_paidNow rfl tw_1854 tw_1856 tw_p96 (by decide) dX12_stuck_19) cmX12_paidNow (fun _ _ _ => rfl) rfl ?_
  refine s_pop 23 dX12_stuck_22 rfl ?_
  refine s_Aldn 0 rfl 24 dX12_stuck_23 rfl ?_
  refine s_Aldn 0 rfl 25 dX12_stuck_24 rfl ?_
  refine s_get 12 33 28 clX12 (by decide) tw_1321 dX12_stuck_25 rfl ?_
  refine s_cal0 31 (run_V (X := XX12_stuck) rfl clX12 yoX12_good rfl tw_1678 tw_1680 tw_p76 (by decide) dX12_stuck_28) cmX12_good (fun _ _ _ => rfl) rfl ?_
  exact s_iretH rfl dX12_stuck_31
def BX12_stuck_0 : KT (Int32 × HP) :=
  oAld 0 (oConst (.int 0) (oPut 12 0 .int (oAld 0 (oGet 12 3 (oNul (oAld 0 (oConst (.int 1) (oCal 2 (some 12) EX12_refused fIH (oIretH)))) (oAld 0 (oPick [0] (BX12_stuck_19))))))))
set_option maxRecDepth 20000 in
theorem sBX12_stuck_0 : Snd XX12_stuck fIH 0 (BX12_stuck_0) (0) (0) := by
  unfold BX12_stuck_0
  refine s_Aldn 0 rfl 1 dX12_stuck_0 rfl ?_
  refine s_iconst 2 0 (by decide) dX12_stuck_1 rfl ?_
  refine s_put 12 0 5 clX12 (by decide) rfl rfl pIH tw_1288 dX12_stuck_2 rfl ?_
  refine s_Aldn 0 rfl 6 dX12_stuck_5 rfl ?_
  refine s_get 12 3 9 clX12 (by decide) tw_1291 dX12_stuck_6 rfl ?_
  refine s_ifnonnull 18 12 dX12_stuck_9 (by decide) rfl ?_ ?_
  · refine s_Aldn 0 rfl 19 dX12_stuck_18 rfl ?_
    exact s_pick (sBX12_stuck_19)
  · refine s_Aldn 0 rfl 13 dX12_stuck_12 rfl ?_
    refine s_iconst 14 1 (by decide) dX12_stuck_13 rfl ?_
    refine s_cal0 17 (run_V (X := XX12_stuck) rfl clX12 yoX12_refused rfl tw_1430 tw_1432 tw_p50 (by decide) dX12_stuck_14) cmX12_refused (fun _ _ _ => rfl) rfl ?_
    exact s_iretH rfl dX12_stuck_17
def EX12_stuck : List Value → HP → Option (Int32 × HP) := en 1 BX12_stuck_0
theorem cmX12_stuck : CM XX12_stuck EX12_stuck fIH 0 0 := CM.of rfl (by decide) rfl rfl sBX12_stuck_0
theorem yoX12_stuck : YO XX12_stuck 0 0 0 := ⟨tw_1861, rfl, tw_12, (by decide +kernel), rfl, rfl⟩
abbrev XX12_caught : MX := (yX12_caught, cX12_caught, 5, (Option.some .int), Cond.code yX12_caught cX12_caught 5 (Option.some .int) :: WS, { frames := 6, cells := 0, slots := 0, locals := 138 })
def BX12_caught_72 (k72 : KT (Int32 × HP)) : KT (Int32 × HP) :=
  oIld 4 (oAld 0 (oGet 12 3 (oGet 11 2 (oCmpgt (oAld 0 (oConst (.int (-2)) (oCal 2 (some 12) EX12_good fIH (oIretH)))) (oAld 0 (oGet 12 29 (oIld 4 (oIa (oConst (.int (-2)) (oCmpeq (oInc 4 1 (oPick [0, 4] k72)) (oAld 0 (oGet 12 22 (oAld 0 (oGet 12 29 (oIld 4 (oIa (oIa (oConst (.int (-2)) (oCmpeq (oInc 4 1 (oPick [0, 4] k72)) (oAld 0 (oGet 12 22 (oAld 0 (oGet 12 29 (oIld 4 (oIa (oIa (oIld 4 (oCmpgt (oInc 4 1 (oPick [0, 4] k72)) (oAld 0 (oIld 4 (oCal 2 (some 12) EX12_good fIH (oIretH))))))))))))))))))))))))))))))))
set_option maxRecDepth 20000 in
theorem sBX12_caught_72 {k72 : KT (Int32 × HP)} (hk72 : Snd XX12_caught fIH 72 k72 0 0) : Snd XX12_caught fIH 72 (BX12_caught_72 k72) (0) (0) := by
  unfold BX12_caught_72
  refine s_Ild 4 74 dX12_caught_72 rfl ?_
  refine s_Aldn 0 rfl 75 dX12_caught_74 rfl ?_
  refine s_get 12 3 78 clX12 (by decide) tw_1291 dX12_caught_75 rfl ?_
  refine s_getN 11 2 81 clX11 (by decide) nw_44 dX12_caught_78 rfl ?_
  refine s_cmpgt 143 84 dX12_caught_81 (by decide) rfl ?_ ?_
  · refine s_Aldn 0 rfl 144 dX12_caught_143 rfl ?_
    refine s_bipush 146 (-2) (by decide) dX12_caught_144 rfl ?_
    refine s_cal0 149 (run_V (X := XX12_caught) rfl clX12 yoX12_good rfl tw_1678 tw_1680 tw_p76 (by decide) dX12_caught_146) cmX12_good (fun _ _ _ => rfl) rfl ?_
    exact s_iretH rfl dX12_caught_149
  · refine s_Aldn 0 rfl 85 dX12_caught_84 rfl ?_
    refine s_get 12 29 88 clX12 (by decide) tw_1317 dX12_caught_85 rfl ?_
    refine s_Ild 4 90 dX12_caught_88 rfl ?_
    refine s_Ia 91 dX12_caught_90 rfl ?_
    refine s_bipush 93 (-2) (by decide) dX12_caught_91 rfl ?_
    refine s_cmpeq 137 96 dX12_caught_93 (by decide) rfl ?_ ?_
    · refine s_inc 4 1 140 (by decide) (by decide) dX12_caught_137 rfl ?_
      refine s_goto 72 dX12_caught_140 (by decide) ?_
      exact s_pick hk72
    · refine s_Aldn 0 rfl 97 dX12_caught_96 rfl ?_
      refine s_get 12 22 100 clX12 (by decide) tw_1310 dX12_caught_97 rfl ?_
      refine s_Aldn 0 rfl 101 dX12_caught_100 rfl ?_
      refine s_get 12 29 104 clX12 (by decide) tw_1317 dX12_caught_101 rfl ?_
      refine s_Ild 4 106 dX12_caught_104 rfl ?_
      refine s_Ia 107 dX12_caught_106 rfl ?_
      refine s_Ia 108 dX12_caught_107 rfl ?_
      refine s_bipush 110 (-2) (by decide) dX12_caught_108 rfl ?_
      refine s_cmpeq 137 113 dX12_caught_110 (by decide) rfl ?_ ?_
      · refine s_inc 4 1 140 (by decide) (by decide) dX12_caught_137 rfl ?_
        refine s_goto 72 dX12_caught_140 (by decide) ?_
        exact s_pick hk72
      · refine s_Aldn 0 rfl 114 dX12_caught_113 rfl ?_
        refine s_get 12 22 117 clX12 (by decide) tw_1310 dX12_caught_114 rfl ?_
        refine s_Aldn 0 rfl 118 dX12_caught_117 rfl ?_
        refine s_get 12 29 121 clX12 (by decide) tw_1317 dX12_caught_118 rfl ?_
        refine s_Ild 4 123 dX12_caught_121 rfl ?_
        refine s_Ia 124 dX12_caught_123 rfl ?_
        refine s_Ia 125 dX12_caught_124 rfl ?_
        refine s_Ild 4 127 dX12_caught_125 rfl ?_
        refine s_cmpgt 137 130 dX12_caught_127 (by decide) rfl ?_ ?_
        · refine s_inc 4 1 140 (by decide) (by decide) dX12_caught_137 rfl ?_
          refine s_goto 72 dX12_caught_140 (by decide) ?_
          exact s_pick hk72
        · refine s_Aldn 0 rfl 131 dX12_caught_130 rfl ?_
          refine s_Ild 4 133 dX12_caught_131 rfl ?_
          refine s_cal0 136 (run_V (X := XX12_caught) rfl clX12 yoX12_good rfl tw_1678 tw_1680 tw_p76 (by decide) dX12_caught_133) cmX12_good (fun _ _ _ => rfl) rfl ?_
          exact s_iretH rfl dX12_caught_136
def BX12_caught_66 : KT (Int32 × HP) :=
  oCal 3 (some 12) EX12_laysFar fVH (oConst (.int 0) (oIst 4 (oPick [0, 4] (lp (BX12_caught_72) FU))))
set_option maxRecDepth 20000 in
theorem sBX12_caught_66 : Snd XX12_caught fIH 66 (BX12_caught_66) (0) (0) := by
  unfold BX12_caught_66
  refine s_cal0 69 (run_V (X := XX12_caught) rfl clX12 yoX12_laysFar rfl tw_1729 tw_1731 tw_p81 (by decide) dX12_caught_66) cmX12_laysFar (fun _ _ _ => rfl) rfl ?_
  refine s_iconst 70 0 (by decide) dX12_caught_69 rfl ?_
  refine s_Ist 4 72 (by decide) dX12_caught_70 rfl ?_
  exact s_pick (s_lp (fun k hk => sBX12_caught_72  hk) FU)
def BX12_caught_52 : KT (Int32 × HP) :=
  oCal 2 (some 12) EX12_walks fVH (oAld 0 (oAld 0 (oGet 12 20 (oAld 0 (oIld 2 (oIld 3 (oCal 3 (some 12) EX12_cellOf fI (oPick [0] (BX12_caught_66)))))))))
set_option maxRecDepth 20000 in
theorem sBX12_caught_52 : Snd XX12_caught fIH 52 (BX12_caught_52) (0) (0) := by
  unfold BX12_caught_52
  refine s_cal0 55 (run_V (X := XX12_caught) rfl clX12 yoX12_walks rfl tw_1771 tw_1773 tw_p85 (by decide) dX12_caught_52) cmX12_walks (fun _ _ _ => rfl) rfl ?_
  refine s_Aldn 0 rfl 56 dX12_caught_55 rfl ?_
  refine s_Aldn 0 rfl 57 dX12_caught_56 rfl ?_
  refine s_get 12 20 60 clX12 (by decide) tw_1308 dX12_caught_57 rfl ?_
  refine s_Aldn 0 rfl 61 dX12_caught_60 rfl ?_
  refine s_Ildn 2 rfl 62 dX12_caught_61 rfl ?_
  refine s_Ildn 3 rfl 63 dX12_caught_62 rfl ?_
  refine s_cal0 66 (run_V (X := XX12_caught) rfl clX12 yoX12_cellOf rfl tw_1698 tw_1700 tw_p78 (by decide) dX12_caught_63) cmX12_cellOf (fun _ _ _ => rfl) rfl ?_
  exact s_pick (sBX12_caught_66)
def BX12_caught_38 : KT (Int32 × HP) :=
  oCal 2 none EX12_has fZ (oIfne (oAld 0 (oIld 1 (oPick [0, 2, 3] (BX12_caught_52)))) (oAld 0 (oConst (.int 5) (oCal 2 (some 12) EX12_refused fIH (oIretH)))))
set_option maxRecDepth 20000 in
theorem sBX12_caught_38 : Snd XX12_caught fIH 38 (BX12_caught_38) (0) (0) := by
  unfold BX12_caught_38
  refine s_cal0 41 (run_S (X := XX12_caught) yoX12_has tw_1628 tw_1629 (by decide) dX12_caught_38) cmX12_has (fun _ _ _ => rfl) rfl ?_
  refine s_ifne 50 44 dX12_caught_41 (by decide) rfl ?_ ?_
  · refine s_Aldn 0 rfl 51 dX12_caught_50 rfl ?_
    refine s_Ildn 1 rfl 52 dX12_caught_51 rfl ?_
    exact s_pick (sBX12_caught_52)
  · refine s_Aldn 0 rfl 45 dX12_caught_44 rfl ?_
    refine s_iconst 46 5 (by decide) dX12_caught_45 rfl ?_
    refine s_cal0 49 (run_V (X := XX12_caught) rfl clX12 yoX12_refused rfl tw_1430 tw_1432 tw_p50 (by decide) dX12_caught_46) cmX12_refused (fun _ _ _ => rfl) rfl ?_
    exact s_iretH rfl dX12_caught_49
def BX12_caught_16 : KT (Int32 × HP) :=
  oCal 3 (some 12) EX12_isCell fZ (oIfne (oAld 0 (oGet 12 20 (oAld 0 (oIld 2 (oIld 3 (oCal 3 (some 12) EX12_cellOf fI (oPick [0, 1, 2, 3] (BX12_caught_38)))))))) (oAld 0 (oConst (.int 1) (oCal 2 (some 12) EX12_refused fIH (oIretH)))))
set_option maxRecDepth 20000 in
theorem sBX12_caught_16 : Snd XX12_caught fIH 16 (BX12_caught_16) (0) (0) := by
  unfold BX12_caught_16
  refine s_cal0 19 (run_V (X := XX12_caught) rfl clX12 yoX12_isCell rfl tw_1694 tw_1696 tw_p77 (by decide) dX12_caught_16) cmX12_isCell (fun _ _ _ => rfl) rfl ?_
  refine s_ifne 28 22 dX12_caught_19 (by decide) rfl ?_ ?_
  · refine s_Aldn 0 rfl 29 dX12_caught_28 rfl ?_
    refine s_get 12 20 32 clX12 (by decide) tw_1308 dX12_caught_29 rfl ?_
    refine s_Aldn 0 rfl 33 dX12_caught_32 rfl ?_
    refine s_Ildn 2 rfl 34 dX12_caught_33 rfl ?_
    refine s_Ildn 3 rfl 35 dX12_caught_34 rfl ?_
    refine s_cal0 38 (run_V (X := XX12_caught) rfl clX12 yoX12_cellOf rfl tw_1698 tw_1700 tw_p78 (by decide) dX12_caught_35) cmX12_cellOf (fun _ _ _ => rfl) rfl ?_
    exact s_pick (sBX12_caught_38)
  · refine s_Aldn 0 rfl 23 dX12_caught_22 rfl ?_
    refine s_iconst 24 1 (by decide) dX12_caught_23 rfl ?_
    refine s_cal0 27 (run_V (X := XX12_caught) rfl clX12 yoX12_refused rfl tw_1430 tw_1432 tw_p50 (by decide) dX12_caught_24) cmX12_refused (fun _ _ _ => rfl) rfl ?_
    exact s_iretH rfl dX12_caught_27
def BX12_caught_7 : KT (Int32 × HP) :=
  oCal 2 (some 12) EX12_isWalker fZ (oIfeq (oAld 0 (oConst (.int 1) (oCal 2 (some 12) EX12_refused fIH (oIretH)))) (oAld 0 (oIld 2 (oIld 3 (oPick [0, 1, 2, 3] (BX12_caught_16))))))
set_option maxRecDepth 20000 in
theorem sBX12_caught_7 : Snd XX12_caught fIH 7 (BX12_caught_7) (0) (0) := by
  unfold BX12_caught_7
  refine s_cal0 10 (run_V (X := XX12_caught) rfl clX12 yoX12_isWalker rfl tw_1767 tw_1769 tw_p84 (by decide) dX12_caught_7) cmX12_isWalker (fun _ _ _ => rfl) rfl ?_
  refine s_ifeq 22 13 dX12_caught_10 (by decide) rfl ?_ ?_
  · refine s_Aldn 0 rfl 23 dX12_caught_22 rfl ?_
    refine s_iconst 24 1 (by decide) dX12_caught_23 rfl ?_
    refine s_cal0 27 (run_V (X := XX12_caught) rfl clX12 yoX12_refused rfl tw_1430 tw_1432 tw_p50 (by decide) dX12_caught_24) cmX12_refused (fun _ _ _ => rfl) rfl ?_
    exact s_iretH rfl dX12_caught_27
  · refine s_Aldn 0 rfl 14 dX12_caught_13 rfl ?_
    refine s_Ildn 2 rfl 15 dX12_caught_14 rfl ?_
    refine s_Ildn 3 rfl 16 dX12_caught_15 rfl ?_
    exact s_pick (sBX12_caught_16)
def BX12_caught_0 : KT (Int32 × HP) :=
  oAld 0 (oConst (.int 0) (oPut 12 0 .int (oAld 0 (oIld 1 (oPick [0, 1, 2, 3] (BX12_caught_7))))))
set_option maxRecDepth 20000 in
theorem sBX12_caught_0 : Snd XX12_caught fIH 0 (BX12_caught_0) (0) (0) := by
  unfold BX12_caught_0
  refine s_Aldn 0 rfl 1 dX12_caught_0 rfl ?_
  refine s_iconst 2 0 (by decide) dX12_caught_1 rfl ?_
  refine s_put 12 0 5 clX12 (by decide) rfl rfl pIH tw_1288 dX12_caught_2 rfl ?_
  refine s_Aldn 0 rfl 6 dX12_caught_5 rfl ?_
  refine s_Ildn 1 rfl 7 dX12_caught_6 rfl ?_
  exact s_pick (sBX12_caught_7)
def EX12_caught : List Value → HP → Option (Int32 × HP) := en 5 BX12_caught_0
theorem cmX12_caught : CM XX12_caught EX12_caught fIH 0 0 := CM.of rfl (by decide) rfl rfl sBX12_caught_0
theorem yoX12_caught : YO XX12_caught 3 0 0 := ⟨tw_1865, rfl, tw_12, (by decide +kernel), rfl, rfl⟩
abbrev XX12_unlikeNow : MX := (yX12_unlikeNow, cX12_unlikeNow, 2, (Option.some .long), Cond.code yX12_unlikeNow cX12_unlikeNow 2 (Option.some .long) :: WS, { frames := 0, cells := 0, slots := 0, locals := 0 })
def BX12_unlikeNow_0 : KT Int64 :=
  oIld 1 (oIfeq (oAld 0 (oGet 12 3 (oGet 11 13 (oAld 0 (oGet 12 20 (oConst (.long (-1)) (olxor (oland (oAld 0 (oGet 12 3 (oGet 11 14 (oAld 0 (oGet 12 20 (oland (olor (oLretP)))))))))))))))) (oAld 0 (oGet 12 3 (oGet 11 15 (oAld 0 (oGet 12 20 (oConst (.long (-1)) (olxor (oland (oAld 0 (oGet 12 3 (oGet 11 16 (oAld 0 (oGet 12 20 (oland (olor (oLretP)))))))))))))))))
set_option maxRecDepth 20000 in
theorem sBX12_unlikeNow_0 : Snd XX12_unlikeNow fL 0 (BX12_unlikeNow_0) (0) (0) := by
  unfold BX12_unlikeNow_0
  refine s_Ildn 1 rfl 1 dX12_unlikeNow_0 rfl ?_
  refine s_ifeq 36 4 dX12_unlikeNow_1 (by decide) rfl ?_ ?_
  · refine s_Aldn 0 rfl 37 dX12_unlikeNow_36 rfl ?_
    refine s_get 12 3 40 clX12 (by decide) tw_1291 dX12_unlikeNow_37 rfl ?_
    refine s_getN 11 13 43 clX11 (by decide) nw_55 dX12_unlikeNow_40 rfl ?_
    refine s_Aldn 0 rfl 44 dX12_unlikeNow_43 rfl ?_
    refine s_get 12 20 47 clX12 (by decide) tw_1308 dX12_unlikeNow_44 rfl ?_
    refine s_ldc2 50 (-1) tw_1734 dX12_unlikeNow_47 rfl ?_
    refine s_lxor 51 dX12_unlikeNow_50 rfl ?_
    refine s_land 52 dX12_unlikeNow_51 rfl ?_
    refine s_Aldn 0 rfl 53 dX12_unlikeNow_52 rfl ?_
    refine s_get 12 3 56 clX12 (by decide) tw_1291 dX12_unlikeNow_53 rfl ?_
    refine s_getN 11 14 59 clX11 (by decide) nw_56 dX12_unlikeNow_56 rfl ?_
    refine s_Aldn 0 rfl 60 dX12_unlikeNow_59 rfl ?_
    refine s_get 12 20 63 clX12 (by decide) tw_1308 dX12_unlikeNow_60 rfl ?_
    refine s_land 64 dX12_unlikeNow_63 rfl ?_
    refine s_lor 65 dX12_unlikeNow_64 rfl ?_
    exact s_lretP rfl dX12_unlikeNow_65
  · refine s_Aldn 0 rfl 5 dX12_unlikeNow_4 rfl ?_
    refine s_get 12 3 8 clX12 (by decide) tw_1291 dX12_unlikeNow_5 rfl ?_
    refine s_getN 11 15 11 clX11 (by decide) nw_57 dX12_unlikeNow_8 rfl ?_
    refine s_Aldn 0 rfl 12 dX12_unlikeNow_11 rfl ?_
    refine s_get 12 20 15 clX12 (by decide) tw_1308 dX12_unlikeNow_12 rfl ?_
    refine s_ldc2 18 (-1) tw_1734 dX12_unlikeNow_15 rfl ?_
    refine s_lxor 19 dX12_unlikeNow_18 rfl ?_
    refine s_land 20 dX12_unlikeNow_19 rfl ?_
    refine s_Aldn 0 rfl 21 dX12_unlikeNow_20 rfl ?_
    refine s_get 12 3 24 clX12 (by decide) tw_1291 dX12_unlikeNow_21 rfl ?_
    refine s_getN 11 16 27 clX11 (by decide) nw_58 dX12_unlikeNow_24 rfl ?_
    refine s_Aldn 0 rfl 28 dX12_unlikeNow_27 rfl ?_
    refine s_get 12 20 31 clX12 (by decide) tw_1308 dX12_unlikeNow_28 rfl ?_
    refine s_land 32 dX12_unlikeNow_31 rfl ?_
    refine s_lor 33 dX12_unlikeNow_32 rfl ?_
    refine s_goto 65 dX12_unlikeNow_33 (by decide) ?_
    exact s_lretP rfl dX12_unlikeNow_65
def EX12_unlikeNow : List Value → HP → Option Int64 := en 2 BX12_unlikeNow_0
theorem cmX12_unlikeNow : CM XX12_unlikeNow EX12_unlikeNow fL 0 0 := CM.of rfl (by decide) rfl rfl sBX12_unlikeNow_0
theorem yoX12_unlikeNow : YO XX12_unlikeNow 1 0 0 := ⟨tw_1873, rfl, tw_12, (by decide +kernel), rfl, rfl⟩
abbrev XX12_clashNow : MX := (yX12_clashNow, cX12_clashNow, 1, (Option.some .long), Cond.code yX12_clashNow cX12_clashNow 1 (Option.some .long) :: WS, { frames := 0, cells := 0, slots := 0, locals := 0 })
def BX12_clashNow_0 : KT Int64 :=
  oAld 0 (oGet 12 3 (oGet 11 13 (oAld 0 (oGet 12 3 (oGet 11 16 (oland (oAld 0 (oGet 12 3 (oGet 11 14 (oAld 0 (oGet 12 3 (oGet 11 15 (oland (olor (oLretP)))))))))))))))
set_option maxRecDepth 20000 in
theorem sBX12_clashNow_0 : Snd XX12_clashNow fL 0 (BX12_clashNow_0) (0) (0) := by
  unfold BX12_clashNow_0
  refine s_Aldn 0 rfl 1 dX12_clashNow_0 rfl ?_
  refine s_get 12 3 4 clX12 (by decide) tw_1291 dX12_clashNow_1 rfl ?_
  refine s_getN 11 13 7 clX11 (by decide) nw_55 dX12_clashNow_4 rfl ?_
  refine s_Aldn 0 rfl 8 dX12_clashNow_7 rfl ?_
  refine s_get 12 3 11 clX12 (by decide) tw_1291 dX12_clashNow_8 rfl ?_
  refine s_getN 11 16 14 clX11 (by decide) nw_58 dX12_clashNow_11 rfl ?_
  refine s_land 15 dX12_clashNow_14 rfl ?_
  refine s_Aldn 0 rfl 16 dX12_clashNow_15 rfl ?_
  refine s_get 12 3 19 clX12 (by decide) tw_1291 dX12_clashNow_16 rfl ?_
  refine s_getN 11 14 22 clX11 (by decide) nw_56 dX12_clashNow_19 rfl ?_
  refine s_Aldn 0 rfl 23 dX12_clashNow_22 rfl ?_
  refine s_get 12 3 26 clX12 (by decide) tw_1291 dX12_clashNow_23 rfl ?_
  refine s_getN 11 15 29 clX11 (by decide) nw_57 dX12_clashNow_26 rfl ?_
  refine s_land 30 dX12_clashNow_29 rfl ?_
  refine s_lor 31 dX12_clashNow_30 rfl ?_
  exact s_lretP rfl dX12_clashNow_31
def EX12_clashNow : List Value → HP → Option Int64 := en 1 BX12_clashNow_0
theorem cmX12_clashNow : CM XX12_clashNow EX12_clashNow fL 0 0 := CM.of rfl (by decide) rfl rfl sBX12_clashNow_0
theorem yoX12_clashNow : YO XX12_clashNow 0 0 0 := ⟨tw_1885, rfl, tw_12, (by decide +kernel), rfl, rfl⟩
abbrev XX12_toMowNow : MX := (yX12_toMowNow, cX12_toMowNow, 1, (Option.some .long), Cond.code yX12_toMowNow cX12_toMowNow 1 (Option.some .long) :: WS, { frames := 0, cells := 0, slots := 0, locals := 0 })
def BX12_toMowNow_0 : KT Int64 :=
  oAld 0 (oGet 12 3 (oGet 11 13 (oAld 0 (oGet 12 20 (oConst (.long (-1)) (olxor (oland (oLretP))))))))
set_option maxRecDepth 20000 in
theorem sBX12_toMowNow_0 : Snd XX12_toMowNow fL 0 (BX12_toMowNow_0) (0) (0) := by
  unfold BX12_toMowNow_0
  refine s_Aldn 0 rfl 1 dX12_toMowNow_0 rfl ?_
  refine s_get 12 3 4 clX12 (by decide) tw_1291 dX12_toMowNow_1 rfl ?_
  refine s_getN 11 13 7 clX11 (by decide) nw_55 dX12_toMowNow_4 rfl ?_
  refine s_Aldn 0 rfl 8 dX12_toMowNow_7 rfl ?_
  refine s_get 12 20 11 clX12 (by decide) tw_1308 dX12_toMowNow_8 rfl ?_
  refine s_ldc2 14 (-1) tw_1734 dX12_toMowNow_11 rfl ?_
  refine s_lxor 15 dX12_toMowNow_14 rfl ?_
  refine s_land 16 dX12_toMowNow_15 rfl ?_
  exact s_lretP rfl dX12_toMowNow_16
def EX12_toMowNow : List Value → HP → Option Int64 := en 1 BX12_toMowNow_0
theorem cmX12_toMowNow : CM XX12_toMowNow EX12_toMowNow fL 0 0 := CM.of rfl (by decide) rfl rfl sBX12_toMowNow_0
theorem yoX12_toMowNow : YO XX12_toMowNow 0 0 0 := ⟨tw_1897, rfl, tw_12, (by decide +kernel), rfl, rfl⟩
abbrev XX12_unlike : MX := (yX12_unlike, cX12_unlike, 2, (Option.some .int), Cond.code yX12_unlike cX12_unlike 2 (Option.some .int) :: WS, { frames := 1, cells := 0, slots := 0, locals := 24 })
def BX12_unlike_26 : KT (Int32 × HP) :=
  oCal 1 none EX12_bits fI (oCal 2 (some 12) EX12_good fIH (oIretH))
set_option maxRecDepth 20000 in
theorem sBX12_unlike_26 : Snd XX12_unlike fIH 26 (BX12_unlike_26) (0) (0) := by
  unfold BX12_unlike_26
  refine s_cal0 29 (run_S (X := XX12_unlike) yoX12_bits tw_1675 tw_1676 (by decide) dX12_unlike_26) cmX12_bits (fun _ _ _ => rfl) rfl ?_
  refine s_cal0 32 (run_V (X := XX12_unlike) rfl clX12 yoX12_good rfl tw_1678 tw_1680 tw_p76 (by decide) dX12_unlike_29) cmX12_good (fun _ _ _ => rfl) rfl ?_
  exact s_iretH rfl dX12_unlike_32
def BX12_unlike_23 : KT (Int32 × HP) :=
  oCal 2 (some 12) EX12_unlikeNow fL (oPick [] (BX12_unlike_26))
set_option maxRecDepth 20000 in
theorem sBX12_unlike_23 : Snd XX12_unlike fIH 23 (BX12_unlike_23) (0) (0) := by
  unfold BX12_unlike_23
  refine s_cal0 26 (run_V (X := XX12_unlike) rfl clX12 yoX12_unlikeNow rfl tw_1870 tw_1872 tw_p97 (by decide) dX12_unlike_23) cmX12_unlikeNow (fun _ _ _ => rfl) rfl ?_
  exact s_pick (sBX12_unlike_26)
def BX12_unlike_0 : KT (Int32 × HP) :=
  oAld 0 (oConst (.int 0) (oPut 12 0 .int (oAld 0 (oGet 12 3 (oNul (oAld 0 (oConst (.int 1) (oCal 2 (some 12) EX12_refused fIH (oIretH)))) (oAld 0 (oAld 0 (oIld 1 (oPick [] (BX12_unlike_23))))))))))
set_option maxRecDepth 20000 in
theorem sBX12_unlike_0 : Snd XX12_unlike fIH 0 (BX12_unlike_0) (0) (0) := by
  unfold BX12_unlike_0
  refine s_Aldn 0 rfl 1 dX12_unlike_0 rfl ?_
  refine s_iconst 2 0 (by decide) dX12_unlike_1 rfl ?_
  refine s_put 12 0 5 clX12 (by decide) rfl rfl pIH tw_1288 dX12_unlike_2 rfl ?_
  refine s_Aldn 0 rfl 6 dX12_unlike_5 rfl ?_
  refine s_get 12 3 9 clX12 (by decide) tw_1291 dX12_unlike_6 rfl ?_
  refine s_ifnonnull 20 12 dX12_unlike_9 (by decide) rfl ?_ ?_
  · refine s_Aldn 0 rfl 21 dX12_unlike_20 rfl ?_
    refine s_Aldn 0 rfl 22 dX12_unlike_21 rfl ?_
    refine s_Ildn 1 rfl 23 dX12_unlike_22 rfl ?_
    exact s_pick (sBX12_unlike_23)
  · refine s_Aldn 0 rfl 13 dX12_unlike_12 rfl ?_
    refine s_iconst 14 1 (by decide) dX12_unlike_13 rfl ?_
    refine s_cal0 17 (run_V (X := XX12_unlike) rfl clX12 yoX12_refused rfl tw_1430 tw_1432 tw_p50 (by decide) dX12_unlike_14) cmX12_refused (fun _ _ _ => rfl) rfl ?_
    refine s_goto 32 dX12_unlike_17 (by decide) ?_
    exact s_iretH rfl dX12_unlike_32
def EX12_unlike : List Value → HP → Option (Int32 × HP) := en 2 BX12_unlike_0
theorem cmX12_unlike : CM XX12_unlike EX12_unlike fIH 0 0 := CM.of rfl (by decide) rfl rfl sBX12_unlike_0
theorem yoX12_unlike : YO XX12_unlike 1 0 0 := ⟨tw_1869, rfl, tw_12, (by decide +kernel), rfl, rfl⟩
abbrev XX12_firstUnlike : MX := (yX12_firstUnlike, cX12_firstUnlike, 2, (Option.some .int), Cond.code yX12_firstUnlike cX12_firstUnlike 2 (Option.some .int) :: WS, { frames := 2, cells := 0, slots := 0, locals := 44 })
def BX12_firstUnlike_39 : KT (Int32 × HP) :=
  oCal 1 none EX12_first fI (oCal 2 (some 12) EX12_good fIH (oIretH))
set_option maxRecDepth 20000 in
theorem sBX12_firstUnlike_39 : Snd XX12_firstUnlike fIH 39 (BX12_firstUnlike_39) (0) (0) := by
  unfold BX12_firstUnlike_39
  refine s_cal0 42 (run_S (X := XX12_firstUnlike) yoX12_first tw_1726 tw_1727 (by decide) dX12_firstUnlike_39) cmX12_first (fun _ _ _ => rfl) rfl ?_
  refine s_cal0 45 (run_V (X := XX12_firstUnlike) rfl clX12 yoX12_good rfl tw_1678 tw_1680 tw_p76 (by decide) dX12_firstUnlike_42) cmX12_good (fun _ _ _ => rfl) rfl ?_
  exact s_iretH rfl dX12_firstUnlike_45
def BX12_firstUnlike_36 : KT (Int32 × HP) :=
  oCal 2 (some 12) EX12_unlikeNow fL (oPick [] (BX12_firstUnlike_39))
set_option maxRecDepth 20000 in
theorem sBX12_firstUnlike_36 : Snd XX12_firstUnlike fIH 36 (BX12_firstUnlike_36) (0) (0) := by
  unfold BX12_firstUnlike_36
  refine s_cal0 39 (run_V (X := XX12_firstUnlike) rfl clX12 yoX12_unlikeNow rfl tw_1870 tw_1872 tw_p97 (by decide) dX12_firstUnlike_36) cmX12_unlikeNow (fun _ _ _ => rfl) rfl ?_
  exact s_pick (sBX12_firstUnlike_39)
def BX12_firstUnlike_21 : KT (Int32 × HP) :=
  oCal 2 (some 12) EX12_unlikeNow fL (oConst (.long 0) (olcmp (oIfne (oAld 0 (oIld 1 (oPick [] (BX12_firstUnlike_36)))) (oConst (.int (-2)) (oCal 2 (some 12) EX12_good fIH (oIretH))))))
set_option maxRecDepth 20000 in
theorem sBX12_firstUnlike_21 : Snd XX12_firstUnlike fIH 21 (BX12_firstUnlike_21) (0) (0) := by
  unfold BX12_firstUnlike_21
  refine s_cal0 24 (run_V (X := XX12_firstUnlike) rfl clX12 yoX12_unlikeNow rfl tw_1870 tw_1872 tw_p97 (by decide) dX12_firstUnlike_21) cmX12_unlikeNow (fun _ _ _ => rfl) rfl ?_
  refine s_lconst 25 0 (by decide) dX12_firstUnlike_24 rfl ?_
  refine s_lcmp 26 dX12_firstUnlike_25 rfl ?_
  refine s_ifne 34 29 dX12_firstUnlike_26 (by decide) rfl ?_ ?_
  · refine s_Aldn 0 rfl 35 dX12_firstUnlike_34 rfl ?_
    refine s_Ildn 1 rfl 36 dX12_firstUnlike_35 rfl ?_
    exact s_pick (sBX12_firstUnlike_36)
  · refine s_bipush 31 (-2) (by decide) dX12_firstUnlike_29 rfl ?_
    refine s_goto 42 dX12_firstUnlike_31 (by decide) ?_
    refine s_cal0 45 (run_V (X := XX12_firstUnlike) rfl clX12 yoX12_good rfl tw_1678 tw_1680 tw_p76 (by decide) dX12_firstUnlike_42) cmX12_good (fun _ _ _ => rfl) rfl ?_
    exact s_iretH rfl dX12_firstUnlike_45
def BX12_firstUnlike_0 : KT (Int32 × HP) :=
  oAld 0 (oConst (.int 0) (oPut 12 0 .int (oAld 0 (oGet 12 3 (oNul (oAld 0 (oConst (.int 1) (oCal 2 (some 12) EX12_refused fIH (oIretH)))) (oAld 0 (oAld 0 (oIld 1 (oPick [0, 1] (BX12_firstUnlike_21))))))))))
set_option maxRecDepth 20000 in
theorem sBX12_firstUnlike_0 : Snd XX12_firstUnlike fIH 0 (BX12_firstUnlike_0) (0) (0) := by
  unfold BX12_firstUnlike_0
  refine s_Aldn 0 rfl 1 dX12_firstUnlike_0 rfl ?_
  refine s_iconst 2 0 (by decide) dX12_firstUnlike_1 rfl ?_
  refine s_put 12 0 5 clX12 (by decide) rfl rfl pIH tw_1288 dX12_firstUnlike_2 rfl ?_
  refine s_Aldn 0 rfl 6 dX12_firstUnlike_5 rfl ?_
  refine s_get 12 3 9 clX12 (by decide) tw_1291 dX12_firstUnlike_6 rfl ?_
  refine s_ifnonnull 18 12 dX12_firstUnlike_9 (by decide) rfl ?_ ?_
  · refine s_Aldn 0 rfl 19 dX12_firstUnlike_18 rfl ?_
    refine s_Aldn 0 rfl 20 dX12_firstUnlike_19 rfl ?_
    refine s_Ildn 1 rfl 21 dX12_firstUnlike_20 rfl ?_
    exact s_pick (sBX12_firstUnlike_21)
  · refine s_Aldn 0 rfl 13 dX12_firstUnlike_12 rfl ?_
    refine s_iconst 14 1 (by decide) dX12_firstUnlike_13 rfl ?_
    refine s_cal0 17 (run_V (X := XX12_firstUnlike) rfl clX12 yoX12_refused rfl tw_1430 tw_1432 tw_p50 (by decide) dX12_firstUnlike_14) cmX12_refused (fun _ _ _ => rfl) rfl ?_
    exact s_iretH rfl dX12_firstUnlike_17
def EX12_firstUnlike : List Value → HP → Option (Int32 × HP) := en 2 BX12_firstUnlike_0
theorem cmX12_firstUnlike : CM XX12_firstUnlike EX12_firstUnlike fIH 0 0 := CM.of rfl (by decide) rfl rfl sBX12_firstUnlike_0
theorem yoX12_firstUnlike : YO XX12_firstUnlike 1 0 0 := ⟨tw_1877, rfl, tw_12, (by decide +kernel), rfl, rfl⟩
abbrev XX12_clash : MX := (yX12_clash, cX12_clash, 1, (Option.some .int), Cond.code yX12_clash cX12_clash 1 (Option.some .int) :: WS, { frames := 1, cells := 0, slots := 0, locals := 24 })
def BX12_clash_25 : KT (Int32 × HP) :=
  oCal 1 none EX12_bits fI (oCal 2 (some 12) EX12_good fIH (oIretH))
set_option maxRecDepth 20000 in
theorem sBX12_clash_25 : Snd XX12_clash fIH 25 (BX12_clash_25) (0) (0) := by
  unfold BX12_clash_25
  refine s_cal0 28 (run_S (X := XX12_clash) yoX12_bits tw_1675 tw_1676 (by decide) dX12_clash_25) cmX12_bits (fun _ _ _ => rfl) rfl ?_
  refine s_cal0 31 (run_V (X := XX12_clash) rfl clX12 yoX12_good rfl tw_1678 tw_1680 tw_p76 (by decide) dX12_clash_28) cmX12_good (fun _ _ _ => rfl) rfl ?_
  exact s_iretH rfl dX12_clash_31
def BX12_clash_0 : KT (Int32 × HP) :=
  oAld 0 (oConst (.int 0) (oPut 12 0 .int (oAld 0 (oGet 12 3 (oNul (oAld 0 (oConst (.int 1) (oCal 2 (some 12) EX12_refused fIH (oIretH)))) (oAld 0 (oAld 0 (oCal 1 (some 12) EX12_clashNow fL (oPick [] (BX12_clash_25))))))))))
set_option maxRecDepth 20000 in
theorem sBX12_clash_0 : Snd XX12_clash fIH 0 (BX12_clash_0) (0) (0) := by
  unfold BX12_clash_0
  refine s_Aldn 0 rfl 1 dX12_clash_0 rfl ?_
  refine s_iconst 2 0 (by decide) dX12_clash_1 rfl ?_
  refine s_put 12 0 5 clX12 (by decide) rfl rfl pIH tw_1288 dX12_clash_2 rfl ?_
  refine s_Aldn 0 rfl 6 dX12_clash_5 rfl ?_
  refine s_get 12 3 9 clX12 (by decide) tw_1291 dX12_clash_6 rfl ?_
  refine s_ifnonnull 20 12 dX12_clash_9 (by decide) rfl ?_ ?_
  · refine s_Aldn 0 rfl 21 dX12_clash_20 rfl ?_
    refine s_Aldn 0 rfl 22 dX12_clash_21 rfl ?_
    refine s_cal0 25 (run_V (X := XX12_clash) rfl clX12 yoX12_clashNow rfl tw_1882 tw_1884 tw_p98 (by decide) dX12_clash_22) cmX12_clashNow (fun _ _ _ => rfl) rfl ?_
    exact s_pick (sBX12_clash_25)
  · refine s_Aldn 0 rfl 13 dX12_clash_12 rfl ?_
    refine s_iconst 14 1 (by decide) dX12_clash_13 rfl ?_
    refine s_cal0 17 (run_V (X := XX12_clash) rfl clX12 yoX12_refused rfl tw_1430 tw_1432 tw_p50 (by decide) dX12_clash_14) cmX12_refused (fun _ _ _ => rfl) rfl ?_
    refine s_goto 31 dX12_clash_17 (by decide) ?_
    exact s_iretH rfl dX12_clash_31
def EX12_clash : List Value → HP → Option (Int32 × HP) := en 1 BX12_clash_0
theorem cmX12_clash : CM XX12_clash EX12_clash fIH 0 0 := CM.of rfl (by decide) rfl rfl sBX12_clash_0
theorem yoX12_clash : YO XX12_clash 0 0 0 := ⟨tw_1881, rfl, tw_12, (by decide +kernel), rfl, rfl⟩
abbrev XX12_changes : MX := (yX12_changes, cX12_changes, 1, (Option.some .int), Cond.code yX12_changes cX12_changes 1 (Option.some .int) :: WS, { frames := 1, cells := 0, slots := 0, locals := 24 })
def BX12_changes_41 : KT (Int32 × HP) :=
  oCal 1 none EX12_bits fI (oCal 2 (some 12) EX12_good fIH (oIretH))
set_option maxRecDepth 20000 in
theorem sBX12_changes_41 : Snd XX12_changes fIH 41 (BX12_changes_41) (0) (0) := by
  unfold BX12_changes_41
  refine s_cal0 44 (run_S (X := XX12_changes) yoX12_bits tw_1675 tw_1676 (by decide) dX12_changes_41) cmX12_bits (fun _ _ _ => rfl) rfl ?_
  refine s_cal0 47 (run_V (X := XX12_changes) rfl clX12 yoX12_good rfl tw_1678 tw_1680 tw_p76 (by decide) dX12_changes_44) cmX12_good (fun _ _ _ => rfl) rfl ?_
  exact s_iretH rfl dX12_changes_47
def BX12_changes_28 : KT (Int32 × HP) :=
  oCal 2 (some 12) EX12_unlikeNow fL (olor (oAld 0 (oCal 1 (some 12) EX12_clashNow fL (oConst (.long (-1)) (olxor (oland (oPick [] (BX12_changes_41))))))))
set_option maxRecDepth 20000 in
theorem sBX12_changes_28 : Snd XX12_changes fIH 28 (BX12_changes_28) (0) (0) := by
  unfold BX12_changes_28
  refine s_cal0 31 (run_V (X := XX12_changes) rfl clX12 yoX12_unlikeNow rfl tw_1870 tw_1872 tw_p97 (by decide) dX12_changes_28) cmX12_unlikeNow (fun _ _ _ => rfl) rfl ?_
  refine s_lor 32 dX12_changes_31 rfl ?_
  refine s_Aldn 0 rfl 33 dX12_changes_32 rfl ?_
  refine s_cal0 36 (run_V (X := XX12_changes) rfl clX12 yoX12_clashNow rfl tw_1882 tw_1884 tw_p98 (by decide) dX12_changes_33) cmX12_clashNow (fun _ _ _ => rfl) rfl ?_
  refine s_ldc2 39 (-1) tw_1734 dX12_changes_36 rfl ?_
  refine s_lxor 40 dX12_changes_39 rfl ?_
  refine s_land 41 dX12_changes_40 rfl ?_
  exact s_pick (sBX12_changes_41)
def BX12_changes_23 : KT (Int32 × HP) :=
  oCal 2 (some 12) EX12_unlikeNow fL (oAld 0 (oConst (.int 1) (oPick [0] (BX12_changes_28))))
set_option maxRecDepth 20000 in
theorem sBX12_changes_23 : Snd XX12_changes fIH 23 (BX12_changes_23) (0) (0) := by
  unfold BX12_changes_23
  refine s_cal0 26 (run_V (X := XX12_changes) rfl clX12 yoX12_unlikeNow rfl tw_1870 tw_1872 tw_p97 (by decide) dX12_changes_23) cmX12_unlikeNow (fun _ _ _ => rfl) rfl ?_
  refine s_Aldn 0 rfl 27 dX12_changes_26 rfl ?_
  refine s_iconst 28 1 (by decide) dX12_changes_27 rfl ?_
  exact s_pick (sBX12_changes_28)
def BX12_changes_0 : KT (Int32 × HP) :=
  oAld 0 (oConst (.int 0) (oPut 12 0 .int (oAld 0 (oGet 12 3 (oNul (oAld 0 (oConst (.int 1) (oCal 2 (some 12) EX12_refused fIH (oIretH)))) (oAld 0 (oAld 0 (oConst (.int 0) (oPick [0] (BX12_changes_23))))))))))
set_option maxRecDepth 20000 in
theorem sBX12_changes_0 : Snd XX12_changes fIH 0 (BX12_changes_0) (0) (0) := by
  unfold BX12_changes_0
  refine s_Aldn 0 rfl 1 dX12_changes_0 rfl ?_
  refine s_iconst 2 0 (by decide) dX12_changes_1 rfl ?_
  refine s_put 12 0 5 clX12 (by decide) rfl rfl pIH tw_1288 dX12_changes_2 rfl ?_
  refine s_Aldn 0 rfl 6 dX12_changes_5 rfl ?_
  refine s_get 12 3 9 clX12 (by decide) tw_1291 dX12_changes_6 rfl ?_
  refine s_ifnonnull 20 12 dX12_changes_9 (by decide) rfl ?_ ?_
  · refine s_Aldn 0 rfl 21 dX12_changes_20 rfl ?_
    refine s_Aldn 0 rfl 22 dX12_changes_21 rfl ?_
    refine s_iconst 23 0 (by decide) dX12_changes_22 rfl ?_
    exact s_pick (sBX12_changes_23)
  · refine s_Aldn 0 rfl 13 dX12_changes_12 rfl ?_
    refine s_iconst 14 1 (by decide) dX12_changes_13 rfl ?_
    refine s_cal0 17 (run_V (X := XX12_changes) rfl clX12 yoX12_refused rfl tw_1430 tw_1432 tw_p50 (by decide) dX12_changes_14) cmX12_refused (fun _ _ _ => rfl) rfl ?_
    refine s_goto 47 dX12_changes_17 (by decide) ?_
    exact s_iretH rfl dX12_changes_47
def EX12_changes : List Value → HP → Option (Int32 × HP) := en 1 BX12_changes_0
theorem cmX12_changes : CM XX12_changes EX12_changes fIH 0 0 := CM.of rfl (by decide) rfl rfl sBX12_changes_0
theorem yoX12_changes : YO XX12_changes 0 0 0 := ⟨tw_1889, rfl, tw_12, (by decide +kernel), rfl, rfl⟩
abbrev XX12_toMow : MX := (yX12_toMow, cX12_toMow, 1, (Option.some .int), Cond.code yX12_toMow cX12_toMow 1 (Option.some .int) :: WS, { frames := 1, cells := 0, slots := 0, locals := 24 })
def BX12_toMow_25 : KT (Int32 × HP) :=
  oCal 1 none EX12_bits fI (oCal 2 (some 12) EX12_good fIH (oIretH))
set_option maxRecDepth 20000 in
theorem sBX12_toMow_25 : Snd XX12_toMow fIH 25 (BX12_toMow_25) (0) (0) := by
  unfold BX12_toMow_25
  refine s_cal0 28 (run_S (X := XX12_toMow) yoX12_bits tw_1675 tw_1676 (by decide) dX12_toMow_25) cmX12_bits (fun _ _ _ => rfl) rfl ?_
  refine s_cal0 31 (run_V (X := XX12_toMow) rfl clX12 yoX12_good rfl tw_1678 tw_1680 tw_p76 (by decide) dX12_toMow_28) cmX12_good (fun _ _ _ => rfl) rfl ?_
  exact s_iretH rfl dX12_toMow_31
def BX12_toMow_0 : KT (Int32 × HP) :=
  oAld 0 (oConst (.int 0) (oPut 12 0 .int (oAld 0 (oGet 12 3 (oNul (oAld 0 (oConst (.int 1) (oCal 2 (some 12) EX12_refused fIH (oIretH)))) (oAld 0 (oAld 0 (oCal 1 (some 12) EX12_toMowNow fL (oPick [] (BX12_toMow_25))))))))))
set_option maxRecDepth 20000 in
theorem sBX12_toMow_0 : Snd XX12_toMow fIH 0 (BX12_toMow_0) (0) (0) := by
  unfold BX12_toMow_0
  refine s_Aldn 0 rfl 1 dX12_toMow_0 rfl ?_
  refine s_iconst 2 0 (by decide) dX12_toMow_1 rfl ?_
  refine s_put 12 0 5 clX12 (by decide) rfl rfl pIH tw_1288 dX12_toMow_2 rfl ?_
  refine s_Aldn 0 rfl 6 dX12_toMow_5 rfl ?_
  refine s_get 12 3 9 clX12 (by decide) tw_1291 dX12_toMow_6 rfl ?_
  refine s_ifnonnull 20 12 dX12_toMow_9 (by decide) rfl ?_ ?_
  · refine s_Aldn 0 rfl 21 dX12_toMow_20 rfl ?_
    refine s_Aldn 0 rfl 22 dX12_toMow_21 rfl ?_
    refine s_cal0 25 (run_V (X := XX12_toMow) rfl clX12 yoX12_toMowNow rfl tw_1894 tw_1896 tw_p99 (by decide) dX12_toMow_22) cmX12_toMowNow (fun _ _ _ => rfl) rfl ?_
    exact s_pick (sBX12_toMow_25)
  · refine s_Aldn 0 rfl 13 dX12_toMow_12 rfl ?_
    refine s_iconst 14 1 (by decide) dX12_toMow_13 rfl ?_
    refine s_cal0 17 (run_V (X := XX12_toMow) rfl clX12 yoX12_refused rfl tw_1430 tw_1432 tw_p50 (by decide) dX12_toMow_14) cmX12_refused (fun _ _ _ => rfl) rfl ?_
    refine s_goto 31 dX12_toMow_17 (by decide) ?_
    exact s_iretH rfl dX12_toMow_31
def EX12_toMow : List Value → HP → Option (Int32 × HP) := en 1 BX12_toMow_0
theorem cmX12_toMow : CM XX12_toMow EX12_toMow fIH 0 0 := CM.of rfl (by decide) rfl rfl sBX12_toMow_0
theorem yoX12_toMow : YO XX12_toMow 0 0 0 := ⟨tw_1893, rfl, tw_12, (by decide +kernel), rfl, rfl⟩
abbrev XX12_isBeside : MX := (yX12_isBeside, cX12_isBeside, 4, (Option.some .boolean), Cond.code yX12_isBeside cX12_isBeside 4 (Option.some .boolean) :: WS, { frames := 2, cells := 0, slots := 0, locals := 43 })
def BX12_isBeside_13 (k2 : KT Bool) : KT Bool :=
  oCal 3 (some 11) EX11_to fI (oIld 2 (oCmpne (oInc 3 1 (oPick [0, 1, 2, 3] k2)) (oConst (.int 1) (oZretP))))
set_option maxRecDepth 20000 in
theorem sBX12_isBeside_13 {k2 : KT Bool} (hk2 : Snd XX12_isBeside fZ 2 k2 0 0) : Snd XX12_isBeside fZ 13 (BX12_isBeside_13 k2) (0) (0) := by
  unfold BX12_isBeside_13
  refine s_cal0 16 (run_V (X := XX12_isBeside) rfl clX11 yoX11_to rfl tw_1710 tw_1711 tw_1712 (by decide) dX12_isBeside_13) cmX11_to (fun _ _ _ => rfl) rfl ?_
  refine s_Ildn 2 rfl 17 dX12_isBeside_16 rfl ?_
  refine s_cmpne 22 20 dX12_isBeside_17 (by decide) rfl ?_ ?_
  · refine s_inc 3 1 25 (by decide) (by decide) dX12_isBeside_22 rfl ?_
    refine s_goto 2 dX12_isBeside_25 (by decide) ?_
    exact s_pick hk2
  · refine s_iconst 21 1 (by decide) dX12_isBeside_20 rfl ?_
    exact s_zretP rfl dX12_isBeside_21
def BX12_isBeside_2 (k2 : KT Bool) : KT Bool :=
  oIld 3 (oConst (.int 4) (oCmpge (oConst (.int 0) (oZretP)) (oAld 0 (oGet 12 3 (oIld 1 (oIld 3 (oPick [0, 1, 2, 3] (BX12_isBeside_13 k2))))))))
set_option maxRecDepth 20000 in
theorem sBX12_isBeside_2 {k2 : KT Bool} (hk2 : Snd XX12_isBeside fZ 2 k2 0 0) : Snd XX12_isBeside fZ 2 (BX12_isBeside_2 k2) (0) (0) := by
  unfold BX12_isBeside_2
  refine s_Ildn 3 rfl 3 dX12_isBeside_2 rfl ?_
  refine s_iconst 4 4 (by decide) dX12_isBeside_3 rfl ?_
  refine s_cmpge 28 7 dX12_isBeside_4 (by decide) rfl ?_ ?_
  · refine s_iconst 29 0 (by decide) dX12_isBeside_28 rfl ?_
    exact s_zretP rfl dX12_isBeside_29
  · refine s_Aldn 0 rfl 8 dX12_isBeside_7 rfl ?_
    refine s_get 12 3 11 clX12 (by decide) tw_1291 dX12_isBeside_8 rfl ?_
    refine s_Ildn 1 rfl 12 dX12_isBeside_11 rfl ?_
    refine s_Ildn 3 rfl 13 dX12_isBeside_12 rfl ?_
    exact s_pick (sBX12_isBeside_13 hk2)
def BX12_isBeside_0 : KT Bool :=
  oConst (.int 0) (oIst 3 (oPick [0, 1, 2, 3] (lp (BX12_isBeside_2) FU)))
set_option maxRecDepth 20000 in
theorem sBX12_isBeside_0 : Snd XX12_isBeside fZ 0 (BX12_isBeside_0) (0) (0) := by
  unfold BX12_isBeside_0
  refine s_iconst 1 0 (by decide) dX12_isBeside_0 rfl ?_
  refine s_Istn 3 rfl 2 (by decide) dX12_isBeside_1 rfl ?_
  exact s_pick (s_lp (fun k hk => sBX12_isBeside_2  hk) FU)
def EX12_isBeside : List Value → HP → Option Bool := en 4 BX12_isBeside_0
theorem cmX12_isBeside : CM XX12_isBeside EX12_isBeside fZ 0 0 := CM.of rfl (by decide) rfl rfl sBX12_isBeside_0
theorem yoX12_isBeside : YO XX12_isBeside 2 0 0 := ⟨tw_1913, rfl, tw_12, (by decide +kernel), rfl, rfl⟩
abbrev XX12_strokesTo : MX := (yX12_strokesTo, cX12_strokesTo, 7, (Option.some .int), Cond.code yX12_strokesTo cX12_strokesTo 7 (Option.some .int) :: WS, { frames := 3, cells := 0, slots := 0, locals := 66 })
def BX12_strokesTo_61 (k8 : KT Int32) : KT Int32 :=
  oIld 6 (oIld 4 (oCmpge (oIld 4 (oIst 4 (oInc 5 1 (oPick [0, 1, 2, 3, 4, 5] k8)))) (oIld 6 (oIst 4 (oInc 5 1 (oPick [0, 1, 2, 3, 4, 5] k8))))))
set_option maxRecDepth 20000 in
theorem sBX12_strokesTo_61 {k8 : KT Int32} (hk8 : Snd XX12_strokesTo fI 8 k8 0 0) : Snd XX12_strokesTo fI 61 (BX12_strokesTo_61 k8) (0) (0) := by
  unfold BX12_strokesTo_61
  refine s_Ild 6 63 dX12_strokesTo_61 rfl ?_
  refine s_Ild 4 65 dX12_strokesTo_63 rfl ?_
  refine s_cmpge 73 68 dX12_strokesTo_65 (by decide) rfl ?_ ?_
  · refine s_Ild 4 75 dX12_strokesTo_73 rfl ?_
    refine s_Ist 4 77 (by decide) dX12_strokesTo_75 rfl ?_
    refine s_inc 5 1 80 (by decide) (by decide) dX12_strokesTo_77 rfl ?_
    refine s_goto 8 dX12_strokesTo_80 (by decide) ?_
    exact s_pick hk8
  · refine s_Ild 6 70 dX12_strokesTo_68 rfl ?_
    refine s_goto 75 dX12_strokesTo_70 (by decide) ?_
    refine s_Ist 4 77 (by decide) dX12_strokesTo_75 rfl ?_
    refine s_inc 5 1 80 (by decide) (by decide) dX12_strokesTo_77 rfl ?_
    refine s_goto 8 dX12_strokesTo_80 (by decide) ?_
    exact s_pick hk8
def BX12_strokesTo_52 (k8 : KT Int32) : KT Int32 :=
  oCal 3 (some 12) EX12_isBeside fZ (oIfne (oPick [0, 1, 2, 3, 4, 5, 6] (BX12_strokesTo_61 k8)) (oInc 6 1 (oPick [0, 1, 2, 3, 4, 5, 6] (BX12_strokesTo_61 k8))))
set_option maxRecDepth 20000 in
theorem sBX12_strokesTo_52 {k8 : KT Int32} (hk8 : Snd XX12_strokesTo fI 8 k8 0 0) : Snd XX12_strokesTo fI 52 (BX12_strokesTo_52 k8) (0) (0) := by
  unfold BX12_strokesTo_52
  refine s_cal0 55 (run_V (X := XX12_strokesTo) rfl clX12 yoX12_isBeside rfl tw_1910 tw_1912 tw_p102 (by decide) dX12_strokesTo_52) cmX12_isBeside (fun _ _ _ => rfl) rfl ?_
  refine s_ifne 61 58 dX12_strokesTo_55 (by decide) rfl ?_ ?_
  · exact s_pick (sBX12_strokesTo_61 hk8)
  · refine s_inc 6 1 61 (by decide) (by decide) dX12_strokesTo_58 rfl ?_
    exact s_pick (sBX12_strokesTo_61 hk8)
def BX12_strokesTo_8 (k8 : KT Int32) : KT Int32 :=
  oIld 5 (oIld 3 (oCmpge (oIld 4 (oIretP)) (oAld 0 (oGet 12 34 (oConst (.int 12) (oIld 1 (oimul (oIld 5 (oiadd (oIa (oIst 6 (oIld 6 (oConst (.int (-2)) (oCmpne (oAld 0 (oAld 0 (oGet 12 35 (oIld 5 (oIa (oAld 0 (oGet 12 35 (oIld 2 (oIa (oPick [0, 1, 2, 3, 4, 5, 6] (BX12_strokesTo_52 k8))))))))))) (oInc 5 1 (oPick [0, 1, 2, 3, 4, 5] k8))))))))))))))))
set_option maxRecDepth 20000 in
theorem sBX12_strokesTo_8 {k8 : KT Int32} (hk8 : Snd XX12_strokesTo fI 8 k8 0 0) : Snd XX12_strokesTo fI 8 (BX12_strokesTo_8 k8) (0) (0) := by
  unfold BX12_strokesTo_8
  refine s_Ild 5 10 dX12_strokesTo_8 rfl ?_
  refine s_Ildn 3 rfl 11 dX12_strokesTo_10 rfl ?_
  refine s_cmpge 83 14 dX12_strokesTo_11 (by decide) rfl ?_ ?_
  · refine s_Ild 4 85 dX12_strokesTo_83 rfl ?_
    exact s_iretP rfl dX12_strokesTo_85
  · refine s_Aldn 0 rfl 15 dX12_strokesTo_14 rfl ?_
    refine s_get 12 34 18 clX12 (by decide) tw_1322 dX12_strokesTo_15 rfl ?_
    refine s_bipush 20 12 (by decide) dX12_strokesTo_18 rfl ?_
    refine s_Ildn 1 rfl 21 dX12_strokesTo_20 rfl ?_
    refine s_imul 22 dX12_strokesTo_21 rfl ?_
    refine s_Ild 5 24 dX12_strokesTo_22 rfl ?_
    refine s_iadd 25 dX12_strokesTo_24 rfl ?_
    refine s_Ia 26 dX12_strokesTo_25 rfl ?_
    refine s_Ist 6 28 (by decide) dX12_strokesTo_26 rfl ?_
    refine s_Ild 6 30 dX12_strokesTo_28 rfl ?_
    refine s_bipush 32 (-2) (by decide) dX12_strokesTo_30 rfl ?_
    refine s_cmpne 38 35 dX12_strokesTo_32 (by decide) rfl ?_ ?_
    · refine s_Aldn 0 rfl 39 dX12_strokesTo_38 rfl ?_
      refine s_Aldn 0 rfl 40 dX12_strokesTo_39 rfl ?_
      refine s_get 12 35 43 clX12 (by decide) tw_1323 dX12_strokesTo_40 rfl ?_
      refine s_Ild 5 45 dX12_strokesTo_43 rfl ?_
      refine s_Ia 46 dX12_strokesTo_45 rfl ?_
      refine s_Aldn 0 rfl 47 dX12_strokesTo_46 rfl ?_
      refine s_get 12 35 50 clX12 (by decide) tw_1323 dX12_strokesTo_47 rfl ?_
      refine s_Ildn 2 rfl 51 dX12_strokesTo_50 rfl ?_
      refine s_Ia 52 dX12_strokesTo_51 rfl ?_
      exact s_pick (sBX12_strokesTo_52 hk8)
    · refine s_goto 77 dX12_strokesTo_35 (by decide) ?_
      refine s_inc 5 1 80 (by decide) (by decide) dX12_strokesTo_77 rfl ?_
      refine s_goto 8 dX12_strokesTo_80 (by decide) ?_
      exact s_pick hk8
def BX12_strokesTo_0 : KT Int32 :=
  oIld 3 (oConst (.int 1) (oiadd (oIst 4 (oConst (.int 0) (oIst 5 (oPick [0, 1, 2, 3, 4, 5] (lp (BX12_strokesTo_8) FU)))))))
set_option maxRecDepth 20000 in
theorem sBX12_strokesTo_0 : Snd XX12_strokesTo fI 0 (BX12_strokesTo_0) (0) (0) := by
  unfold BX12_strokesTo_0
  refine s_Ildn 3 rfl 1 dX12_strokesTo_0 rfl ?_
  refine s_iconst 2 1 (by decide) dX12_strokesTo_1 rfl ?_
  refine s_iadd 3 dX12_strokesTo_2 rfl ?_
  refine s_Ist 4 5 (by decide) dX12_strokesTo_3 rfl ?_
  refine s_iconst 6 0 (by decide) dX12_strokesTo_5 rfl ?_
  refine s_Ist 5 8 (by decide) dX12_strokesTo_6 rfl ?_
  exact s_pick (s_lp (fun k hk => sBX12_strokesTo_8  hk) FU)
def EX12_strokesTo : List Value → HP → Option Int32 := en 7 BX12_strokesTo_0
theorem cmX12_strokesTo : CM XX12_strokesTo EX12_strokesTo fI 0 0 := CM.of rfl (by decide) rfl rfl sBX12_strokesTo_0
theorem yoX12_strokesTo : YO XX12_strokesTo 3 0 0 := ⟨tw_1909, rfl, tw_12, (by decide +kernel), rfl, rfl⟩
abbrev XX12_strokesNow : MX := (yX12_strokesNow, cX12_strokesNow, 6, (Option.some .int), Cond.code yX12_strokesNow cX12_strokesNow 6 (Option.some .int) :: WS, { frames := 4, cells := 0, slots := 0, locals := 92 })
def BX12_strokesNow_114 (k55 : KT (Int32 × HP)) (k65 : KT (Int32 × HP)) : KT (Int32 × HP) :=
  oAld 0 (oGet 12 34 (oConst (.int 12) (oIld 3 (oimul (oIld 4 (oiadd (oIld 5 (oIw (oIld 3 (oConst (.int 1) (oIld 1 (oishl (oConst (.int 1) (oisub (oCmpne (oInc 4 1 (oPick [0, 1, 2, 3, 4] k65)) (oIld 5 (oIld 2 (oCmpge (oInc 4 1 (oPick [0, 1, 2, 3, 4] k65)) (oIld 5 (oIst 2 (oInc 4 1 (oPick [0, 1, 2, 3, 4] k65))))))))))))))))))))))
set_option maxRecDepth 20000 in
theorem sBX12_strokesNow_114 {k55 : KT (Int32 × HP)} (hk55 : Snd XX12_strokesNow fIH 55 k55 0 0) {k65 : KT (Int32 × HP)} (hk65 : Snd XX12_strokesNow fIH 65 k65 0 0) : Snd XX12_strokesNow fIH 114 (BX12_strokesNow_114 k55 k65) (0) (0) := by
  unfold BX12_strokesNow_114
  refine s_Aldn 0 rfl 115 dX12_strokesNow_114 rfl ?_
  refine s_get 12 34 118 clX12 (by decide) tw_1322 dX12_strokesNow_115 rfl ?_
  refine s_bipush 120 12 (by decide) dX12_strokesNow_118 rfl ?_
  refine s_Ildn 3 rfl 121 dX12_strokesNow_120 rfl ?_
  refine s_imul 122 dX12_strokesNow_121 rfl ?_
  refine s_Ild 4 124 dX12_strokesNow_122 rfl ?_
  refine s_iadd 125 dX12_strokesNow_124 rfl ?_
  refine s_Ild 5 127 dX12_strokesNow_125 rfl ?_
  refine s_Iw 128 pIH dX12_strokesNow_127 rfl ?_
  refine s_Ildn 3 rfl 129 dX12_strokesNow_128 rfl ?_
  refine s_iconst 130 1 (by decide) dX12_strokesNow_129 rfl ?_
  refine s_Ildn 1 rfl 131 dX12_strokesNow_130 rfl ?_
  refine s_ishl 132 dX12_strokesNow_131 rfl ?_
  refine s_iconst 133 1 (by decide) dX12_strokesNow_132 rfl ?_
  refine s_isub 134 dX12_strokesNow_133 rfl ?_
  refine s_cmpne 146 137 dX12_strokesNow_134 (by decide) rfl ?_ ?_
  · refine s_inc 4 1 149 (by decide) (by decide) dX12_strokesNow_146 rfl ?_
    refine s_goto 65 dX12_strokesNow_149 (by decide) ?_
    exact s_pick hk65
  · refine s_Ild 5 139 dX12_strokesNow_137 rfl ?_
    refine s_Ildn 2 rfl 140 dX12_strokesNow_139 rfl ?_
    refine s_cmpge 146 143 dX12_strokesNow_140 (by decide) rfl ?_ ?_
    · refine s_inc 4 1 149 (by decide) (by decide) dX12_strokesNow_146 rfl ?_
      refine s_goto 65 dX12_strokesNow_149 (by decide) ?_
      exact s_pick hk65
    · refine s_Ild 5 145 dX12_strokesNow_143 rfl ?_
      refine s_Istn 2 rfl 146 (by decide) dX12_strokesNow_145 rfl ?_
      refine s_inc 4 1 149 (by decide) (by decide) dX12_strokesNow_146 rfl ?_
      refine s_goto 65 dX12_strokesNow_149 (by decide) ?_
      exact s_pick hk65
def BX12_strokesNow_112 (k55 : KT (Int32 × HP)) (k65 : KT (Int32 × HP)) : KT (Int32 × HP) :=
  oIst 5 (oPick [0, 1, 2, 3, 4, 5] (BX12_strokesNow_114 k55 k65))
set_option maxRecDepth 20000 in
theorem sBX12_strokesNow_112 {k55 : KT (Int32 × HP)} (hk55 : Snd XX12_strokesNow fIH 55 k55 0 0) {k65 : KT (Int32 × HP)} (hk65 : Snd XX12_strokesNow fIH 65 k65 0 0) : Snd XX12_strokesNow fIH 112 (BX12_strokesNow_112 k55 k65) (0) (0) := by
  unfold BX12_strokesNow_112
  refine s_Ist 5 114 (by decide) dX12_strokesNow_112 rfl ?_
  exact s_pick (sBX12_strokesNow_114 hk55 hk65)
def BX12_strokesNow_109 (k55 : KT (Int32 × HP)) (k65 : KT (Int32 × HP)) : KT (Int32 × HP) :=
  oCal 4 (some 12) EX12_strokesTo fI (oPick [0, 1, 2, 3, 4] (BX12_strokesNow_112 k55 k65))
set_option maxRecDepth 20000 in
theorem sBX12_strokesNow_109 {k55 : KT (Int32 × HP)} (hk55 : Snd XX12_strokesNow fIH 55 k55 0 0) {k65 : KT (Int32 × HP)} (hk65 : Snd XX12_strokesNow fIH 65 k65 0 0) : Snd XX12_strokesNow fIH 109 (BX12_strokesNow_109 k55 k65) (0) (0) := by
  unfold BX12_strokesNow_109
  refine s_cal0 112 (run_V (X := XX12_strokesNow) rfl clX12 yoX12_strokesTo rfl tw_1906 tw_1908 tw_p101 (by decide) dX12_strokesNow_109) cmX12_strokesTo (fun _ _ _ => rfl) rfl ?_
  exact s_pick (sBX12_strokesNow_112 hk55 hk65)
def BX12_strokesNow_65 (k55 : KT (Int32 × HP)) (k65 : KT (Int32 × HP)) : KT (Int32 × HP) :=
  oIld 4 (oIld 1 (oCmpge (oInc 3 1 (oPick [0, 1, 2, 3] k55)) (oConst (.int (-2)) (oIst 5 (oIld 3 (oIld 4 (oishr (oConst (.int 1) (oiand (oConst (.int 1) (oCmpne (oPick [0, 1, 2, 3, 4, 5] (BX12_strokesNow_114 k55 k65)) (oIld 3 (oConst (.int 1) (oIld 4 (oishl (oCmpne (oAld 0 (oIld 3 (oConst (.int 1) (oIld 4 (oishl (oConst (.int (-1)) (oixor (oiand (oIld 4 (oIld 1 (oPick [0, 1, 2, 3, 4] (BX12_strokesNow_109 k55 k65)))))))))))) (oConst (.int 1) (oPick [0, 1, 2, 3, 4] (BX12_strokesNow_112 k55 k65)))))))))))))))))))
set_option maxRecDepth 20000 in
theorem sBX12_strokesNow_65 {k55 : KT (Int32 × HP)} (hk55 : Snd XX12_strokesNow fIH 55 k55 0 0) {k65 : KT (Int32 × HP)} (hk65 : Snd XX12_strokesNow fIH 65 k65 0 0) : Snd XX12_strokesNow fIH 65 (BX12_strokesNow_65 k55 k65) (0) (0) := by
  unfold BX12_strokesNow_65
  refine s_Ild 4 67 dX12_strokesNow_65 rfl ?_
  refine s_Ildn 1 rfl 68 dX12_strokesNow_67 rfl ?_
  refine s_cmpge 152 71 dX12_strokesNow_68 (by decide) rfl ?_ ?_
  · refine s_inc 3 1 155 (by decide) (by decide) dX12_strokesNow_152 rfl ?_
    refine s_goto 55 dX12_strokesNow_155 (by decide) ?_
    exact s_pick hk55
  · refine s_bipush 73 (-2) (by decide) dX12_strokesNow_71 rfl ?_
    refine s_Ist 5 75 (by decide) dX12_strokesNow_73 rfl ?_
    refine s_Ildn 3 rfl 76 dX12_strokesNow_75 rfl ?_
    refine s_Ild 4 78 dX12_strokesNow_76 rfl ?_
    refine s_ishr 79 dX12_strokesNow_78 rfl ?_
    refine s_iconst 80 1 (by decide) dX12_strokesNow_79 rfl ?_
    refine s_iand 81 dX12_strokesNow_80 rfl ?_
    refine s_iconst 82 1 (by decide) dX12_strokesNow_81 rfl ?_
    refine s_cmpne 114 85 dX12_strokesNow_82 (by decide) rfl ?_ ?_
    · exact s_pick (sBX12_strokesNow_114 hk55 hk65)
    · refine s_Ildn 3 rfl 86 dX12_strokesNow_85 rfl ?_
      refine s_iconst 87 1 (by decide) dX12_strokesNow_86 rfl ?_
      refine s_Ild 4 89 dX12_strokesNow_87 rfl ?_
      refine s_ishl 90 dX12_strokesNow_89 rfl ?_
      refine s_cmpne 97 93 dX12_strokesNow_90 (by decide) rfl ?_ ?_
      · refine s_Aldn 0 rfl 98 dX12_strokesNow_97 rfl ?_
        refine s_Ildn 3 rfl 99 dX12_strokesNow_98 rfl ?_
        refine s_iconst 100 1 (by decide) dX12_strokesNow_99 rfl ?_
        refine s_Ild 4 102 dX12_strokesNow_100 rfl ?_
        refine s_ishl 103 dX12_strokesNow_102 rfl ?_
        refine s_iconst 104 (-1) (by decide) dX12_strokesNow_103 rfl ?_
        refine s_ixor 105 dX12_strokesNow_104 rfl ?_
        refine s_iand 106 dX12_strokesNow_105 rfl ?_
        refine s_Ild 4 108 dX12_strokesNow_106 rfl ?_
        refine s_Ildn 1 rfl 109 dX12_strokesNow_108 rfl ?_
        exact s_pick (sBX12_strokesNow_109 hk55 hk65)
      · refine s_iconst 94 1 (by decide) dX12_strokesNow_93 rfl ?_
        refine s_goto 112 dX12_strokesNow_94 (by decide) ?_
        exact s_pick (sBX12_strokesNow_112 hk55 hk65)
def BX12_strokesNow_55 (k55 : KT (Int32 × HP)) : KT (Int32 × HP) :=
  oIld 3 (oConst (.int 1) (oIld 1 (oishl (oCmpge (oIld 2 (oIretH)) (oConst (.int 0) (oIst 4 (oPick [0, 1, 2, 3, 4] (lp (BX12_strokesNow_65 k55) FU))))))))
set_option maxRecDepth 20000 in
theorem sBX12_strokesNow_55 {k55 : KT (Int32 × HP)} (hk55 : Snd XX12_strokesNow fIH 55 k55 0 0) : Snd XX12_strokesNow fIH 55 (BX12_strokesNow_55 k55) (0) (0) := by
  unfold BX12_strokesNow_55
  refine s_Ildn 3 rfl 56 dX12_strokesNow_55 rfl ?_
  refine s_iconst 57 1 (by decide) dX12_strokesNow_56 rfl ?_
  refine s_Ildn 1 rfl 58 dX12_strokesNow_57 rfl ?_
  refine s_ishl 59 dX12_strokesNow_58 rfl ?_
  refine s_cmpge 158 62 dX12_strokesNow_59 (by decide) rfl ?_ ?_
  · refine s_Ildn 2 rfl 159 dX12_strokesNow_158 rfl ?_
    exact s_iretH rfl dX12_strokesNow_159
  · refine s_iconst 63 0 (by decide) dX12_strokesNow_62 rfl ?_
    refine s_Ist 4 65 (by decide) dX12_strokesNow_63 rfl ?_
    exact s_pick (s_lp (fun k hk => sBX12_strokesNow_65 hk55 hk) FU)
def BX12_strokesNow_20 (k4 : KT (Int32 × HP)) : KT (Int32 × HP) :=
  oCal 2 none EX12_has fZ (oIfne (oAld 0 (oGet 12 35 (oIld 1 (oIld 2 (oIw (oInc 1 1 (oInc 2 1 (oPick [0, 1, 2] k4)))))))) (oInc 2 1 (oPick [0, 1, 2] k4)))
set_option maxRecDepth 20000 in
theorem sBX12_strokesNow_20 {k4 : KT (Int32 × HP)} (hk4 : Snd XX12_strokesNow fIH 4 k4 0 0) : Snd XX12_strokesNow fIH 20 (BX12_strokesNow_20 k4) (0) (0) := by
  unfold BX12_strokesNow_20
  refine s_cal0 23 (run_S (X := XX12_strokesNow) yoX12_has tw_1628 tw_1629 (by decide) dX12_strokesNow_20) cmX12_has (fun _ _ _ => rfl) rfl ?_
  refine s_ifne 29 26 dX12_strokesNow_23 (by decide) rfl ?_ ?_
  · refine s_Aldn 0 rfl 30 dX12_strokesNow_29 rfl ?_
    refine s_get 12 35 33 clX12 (by decide) tw_1323 dX12_strokesNow_30 rfl ?_
    refine s_Ildn 1 rfl 34 dX12_strokesNow_33 rfl ?_
    refine s_Ildn 2 rfl 35 dX12_strokesNow_34 rfl ?_
    refine s_Iw 36 pIH dX12_strokesNow_35 rfl ?_
    refine s_inc 1 1 39 (by decide) (by decide) dX12_strokesNow_36 rfl ?_
    refine s_inc 2 1 42 (by decide) (by decide) dX12_strokesNow_39 rfl ?_
    refine s_goto 4 dX12_strokesNow_42 (by decide) ?_
    exact s_pick hk4
  · refine s_goto 39 dX12_strokesNow_26 (by decide) ?_
    refine s_inc 2 1 42 (by decide) (by decide) dX12_strokesNow_39 rfl ?_
    refine s_goto 4 dX12_strokesNow_42 (by decide) ?_
    exact s_pick hk4
def BX12_strokesNow_4 (k4 : KT (Int32 × HP)) : KT (Int32 × HP) :=
  oIld 2 (oAld 0 (oGet 12 3 (oCal 1 (some 11) EX11_cells fI (oCmpge (oIld 1 (oIfne (oIld 1 (oIst 2 (oConst (.int 1) (oIst 3 (oPick [0, 1, 2, 3] (lp (BX12_strokesNow_55) FU)))))) (oConst (.int 0) (oIretH)))) (oAld 0 (oCal 1 (some 12) EX12_toMowNow fL (oIld 2 (oPick [0, 1, 2] (BX12_strokesNow_20 k4)))))))))
set_option maxRecDepth 20000 in
theorem sBX12_strokesNow_4 {k4 : KT (Int32 × HP)} (hk4 : Snd XX12_strokesNow fIH 4 k4 0 0) : Snd XX12_strokesNow fIH 4 (BX12_strokesNow_4 k4) (0) (0) := by
  unfold BX12_strokesNow_4
  refine s_Ildn 2 rfl 5 dX12_strokesNow_4 rfl ?_
  refine s_Aldn 0 rfl 6 dX12_strokesNow_5 rfl ?_
  refine s_get 12 3 9 clX12 (by decide) tw_1291 dX12_strokesNow_6 rfl ?_
  refine s_cal0 12 (run_V (X := XX12_strokesNow) rfl clX11 yoX11_cells rfl tw_1733 tw_1715 tw_1716 (by decide) dX12_strokesNow_9) cmX11_cells (fun _ _ _ => rfl) rfl ?_
  refine s_cmpge 45 15 dX12_strokesNow_12 (by decide) rfl ?_ ?_
  · refine s_Ildn 1 rfl 46 dX12_strokesNow_45 rfl ?_
    refine s_ifne 51 49 dX12_strokesNow_46 (by decide) rfl ?_ ?_
    · refine s_Ildn 1 rfl 52 dX12_strokesNow_51 rfl ?_
      refine s_Istn 2 rfl 53 (by decide) dX12_strokesNow_52 rfl ?_
      refine s_iconst 54 1 (by decide) dX12_strokesNow_53 rfl ?_
      refine s_Istn 3 rfl 55 (by decide) dX12_strokesNow_54 rfl ?_
      exact s_pick (s_lp (fun k hk => sBX12_strokesNow_55  hk) FU)
    · refine s_iconst 50 0 (by decide) dX12_strokesNow_49 rfl ?_
      exact s_iretH rfl dX12_strokesNow_50
  · refine s_Aldn 0 rfl 16 dX12_strokesNow_15 rfl ?_
    refine s_cal0 19 (run_V (X := XX12_strokesNow) rfl clX12 yoX12_toMowNow rfl tw_1894 tw_1896 tw_p99 (by decide) dX12_strokesNow_16) cmX12_toMowNow (fun _ _ _ => rfl) rfl ?_
    refine s_Ildn 2 rfl 20 dX12_strokesNow_19 rfl ?_
    exact s_pick (sBX12_strokesNow_20 hk4)
def BX12_strokesNow_0 : KT (Int32 × HP) :=
  oConst (.int 0) (oIst 1 (oConst (.int 0) (oIst 2 (oPick [0, 1, 2] (lp (BX12_strokesNow_4) FU)))))
set_option maxRecDepth 20000 in
theorem sBX12_strokesNow_0 : Snd XX12_strokesNow fIH 0 (BX12_strokesNow_0) (0) (0) := by
  unfold BX12_strokesNow_0
  refine s_iconst 1 0 (by decide) dX12_strokesNow_0 rfl ?_
  refine s_Istn 1 rfl 2 (by decide) dX12_strokesNow_1 rfl ?_
  refine s_iconst 3 0 (by decide) dX12_strokesNow_2 rfl ?_
  refine s_Istn 2 rfl 4 (by decide) dX12_strokesNow_3 rfl ?_
  exact s_pick (s_lp (fun k hk => sBX12_strokesNow_4  hk) FU)
def EX12_strokesNow : List Value → HP → Option (Int32 × HP) := en 6 BX12_strokesNow_0
theorem cmX12_strokesNow : CM XX12_strokesNow EX12_strokesNow fIH 0 0 := CM.of rfl (by decide) rfl rfl sBX12_strokesNow_0
theorem yoX12_strokesNow : YO XX12_strokesNow 0 0 0 := ⟨tw_1905, rfl, tw_12, (by decide +kernel), rfl, rfl⟩
abbrev XX12_strokes : MX := (yX12_strokes, cX12_strokes, 1, (Option.some .int), Cond.code yX12_strokes cX12_strokes 1 (Option.some .int) :: WS, { frames := 5, cells := 0, slots := 0, locals := 117 })
def BX12_strokes_40 : KT (Int32 × HP) :=
  oCal 1 (some 12) EX12_strokesNow fIH (oCal 2 (some 12) EX12_good fIH (oIretH))
set_option maxRecDepth 20000 in
theorem sBX12_strokes_40 : Snd XX12_strokes fIH 40 (BX12_strokes_40) (0) (0) := by
  unfold BX12_strokes_40
  refine s_cal0 43 (run_V (X := XX12_strokes) rfl clX12 yoX12_strokesNow rfl tw_1902 tw_1904 tw_p100 (by decide) dX12_strokes_40) cmX12_strokesNow (fun _ _ _ => rfl) rfl ?_
  refine s_cal0 46 (run_V (X := XX12_strokes) rfl clX12 yoX12_good rfl tw_1678 tw_1680 tw_p76 (by decide) dX12_strokes_43) cmX12_good (fun _ _ _ => rfl) rfl ?_
  exact s_iretH rfl dX12_strokes_46
def BX12_strokes_22 : KT (Int32 × HP) :=
  oCal 1 none EX12_bits fI (oConst (.int 12) (oCmple (oAld 0 (oAld 0 (oPick [] (BX12_strokes_40)))) (oAld 0 (oConst (.int 3) (oCal 2 (some 12) EX12_refused fIH (oIretH))))))
set_option maxRecDepth 20000 in
theorem sBX12_strokes_22 : Snd XX12_strokes fIH 22 (BX12_strokes_22) (0) (0) := by
  unfold BX12_strokes_22
  refine s_cal0 25 (run_S (X := XX12_strokes) yoX12_bits tw_1675 tw_1676 (by decide) dX12_strokes_22) cmX12_bits (fun _ _ _ => rfl) rfl ?_
  refine s_bipush 27 12 (by decide) dX12_strokes_25 rfl ?_
  refine s_cmple 38 30 dX12_strokes_27 (by decide) rfl ?_ ?_
  · refine s_Aldn 0 rfl 39 dX12_strokes_38 rfl ?_
    refine s_Aldn 0 rfl 40 dX12_strokes_39 rfl ?_
    exact s_pick (sBX12_strokes_40)
  · refine s_Aldn 0 rfl 31 dX12_strokes_30 rfl ?_
    refine s_iconst 32 3 (by decide) dX12_strokes_31 rfl ?_
    refine s_cal0 35 (run_V (X := XX12_strokes) rfl clX12 yoX12_refused rfl tw_1430 tw_1432 tw_p50 (by decide) dX12_strokes_32) cmX12_refused (fun _ _ _ => rfl) rfl ?_
    refine s_goto 46 dX12_strokes_35 (by decide) ?_
    exact s_iretH rfl dX12_strokes_46
def BX12_strokes_0 : KT (Int32 × HP) :=
  oAld 0 (oConst (.int 0) (oPut 12 0 .int (oAld 0 (oGet 12 3 (oNul (oAld 0 (oConst (.int 1) (oCal 2 (some 12) EX12_refused fIH (oIretH)))) (oAld 0 (oCal 1 (some 12) EX12_toMowNow fL (oPick [0] (BX12_strokes_22)))))))))
set_option maxRecDepth 20000 in
theorem sBX12_strokes_0 : Snd XX12_strokes fIH 0 (BX12_strokes_0) (0) (0) := by
  unfold BX12_strokes_0
  refine s_Aldn 0 rfl 1 dX12_strokes_0 rfl ?_
  refine s_iconst 2 0 (by decide) dX12_strokes_1 rfl ?_
  refine s_put 12 0 5 clX12 (by decide) rfl rfl pIH tw_1288 dX12_strokes_2 rfl ?_
  refine s_Aldn 0 rfl 6 dX12_strokes_5 rfl ?_
  refine s_get 12 3 9 clX12 (by decide) tw_1291 dX12_strokes_6 rfl ?_
  refine s_ifnonnull 18 12 dX12_strokes_9 (by decide) rfl ?_ ?_
  · refine s_Aldn 0 rfl 19 dX12_strokes_18 rfl ?_
    refine s_cal0 22 (run_V (X := XX12_strokes) rfl clX12 yoX12_toMowNow rfl tw_1894 tw_1896 tw_p99 (by decide) dX12_strokes_19) cmX12_toMowNow (fun _ _ _ => rfl) rfl ?_
    exact s_pick (sBX12_strokes_22)
  · refine s_Aldn 0 rfl 13 dX12_strokes_12 rfl ?_
    refine s_iconst 14 1 (by decide) dX12_strokes_13 rfl ?_
    refine s_cal0 17 (run_V (X := XX12_strokes) rfl clX12 yoX12_refused rfl tw_1430 tw_1432 tw_p50 (by decide) dX12_strokes_14) cmX12_refused (fun _ _ _ => rfl) rfl ?_
    exact s_iretH rfl dX12_strokes_17
def EX12_strokes : List Value → HP → Option (Int32 × HP) := en 1 BX12_strokes_0
theorem cmX12_strokes : CM XX12_strokes EX12_strokes fIH 0 0 := CM.of rfl (by decide) rfl rfl sBX12_strokes_0
theorem yoX12_strokes : YO XX12_strokes 0 0 0 := ⟨tw_1901, rfl, tw_12, (by decide +kernel), rfl, rfl⟩
abbrev XX12_weekOf : MX := (yX12_weekOf, cX12_weekOf, 6, (Option.some .long), Cond.code yX12_weekOf cX12_weekOf 6 (Option.some .long) :: WS, { frames := 3, cells := 0, slots := 0, locals := 70 })
def BX12_weekOf_43 (k5 : KT Int64) : KT Int64 :=
  oCal 1 none EX12_bits fI (oisub (oAld 0 (oGet 12 3 (oGet 11 4 (oCmplt (oInc 5 1 (oPick [0, 1, 3, 5] k5)) (oLld 3 (oConst (.long 1) (oIld 5 (olshl (oConst (.long (-1)) (olxor (oland (oLst 3 (oInc 5 1 (oPick [0, 1, 3, 5] k5)))))))))))))))
set_option maxRecDepth 20000 in
theorem sBX12_weekOf_43 {k5 : KT Int64} (hk5 : Snd XX12_weekOf fL 5 k5 0 0) : Snd XX12_weekOf fL 43 (BX12_weekOf_43 k5) (0) (0) := by
  unfold BX12_weekOf_43
  refine s_cal0 46 (run_S (X := XX12_weekOf) yoX12_bits tw_1675 tw_1676 (by decide) dX12_weekOf_43) cmX12_bits (fun _ _ _ => rfl) rfl ?_
  refine s_isub 47 dX12_weekOf_46 rfl ?_
  refine s_Aldn 0 rfl 48 dX12_weekOf_47 rfl ?_
  refine s_get 12 3 51 clX12 (by decide) tw_1291 dX12_weekOf_48 rfl ?_
  refine s_getN 11 4 54 clX11 (by decide) nw_46 dX12_weekOf_51 rfl ?_
  refine s_cmplt 68 57 dX12_weekOf_54 (by decide) rfl ?_ ?_
  · refine s_inc 5 1 71 (by decide) (by decide) dX12_weekOf_68 rfl ?_
    refine s_goto 5 dX12_weekOf_71 (by decide) ?_
    exact s_pick hk5
  · refine s_Lldn 3 rfl 58 dX12_weekOf_57 rfl ?_
    refine s_lconst 59 1 (by decide) dX12_weekOf_58 rfl ?_
    refine s_Ild 5 61 dX12_weekOf_59 rfl ?_
    refine s_lshl 62 dX12_weekOf_61 rfl ?_
    refine s_ldc2 65 (-1) tw_1734 dX12_weekOf_62 rfl ?_
    refine s_lxor 66 dX12_weekOf_65 rfl ?_
    refine s_land 67 dX12_weekOf_66 rfl ?_
    refine s_Lstn 3 rfl 68 (by decide) dX12_weekOf_67 rfl ?_
    refine s_inc 5 1 71 (by decide) (by decide) dX12_weekOf_68 rfl ?_
    refine s_goto 5 dX12_weekOf_71 (by decide) ?_
    exact s_pick hk5
def BX12_weekOf_40 (k5 : KT Int64) : KT Int64 :=
  oCal 3 (some 12) EX12_besideOf fL (oPick [0, 1, 3, 5] (BX12_weekOf_43 k5))
set_option maxRecDepth 20000 in
theorem sBX12_weekOf_40 {k5 : KT Int64} (hk5 : Snd XX12_weekOf fL 5 k5 0 0) : Snd XX12_weekOf fL 40 (BX12_weekOf_40 k5) (0) (0) := by
  unfold BX12_weekOf_40
  refine s_cal0 43 (run_V (X := XX12_weekOf) rfl clX12 yoX12_besideOf rfl tw_1706 tw_1708 tw_p79 (by decide) dX12_weekOf_40) cmX12_besideOf (fun _ _ _ => rfl) rfl ?_
  exact s_pick (sBX12_weekOf_43 hk5)
def BX12_weekOf_29 (k5 : KT Int64) : KT Int64 :=
  oCal 2 (some 12) EX12_isGate fZ (oIfne (oInc 5 1 (oPick [0, 1, 3, 5] k5)) (oConst (.int 4) (oAld 0 (oLld 1 (oIld 5 (oPick [0, 1, 3, 5] (BX12_weekOf_40 k5)))))))
set_option maxRecDepth 20000 in
theorem sBX12_weekOf_29 {k5 : KT Int64} (hk5 : Snd XX12_weekOf fL 5 k5 0 0) : Snd XX12_weekOf fL 29 (BX12_weekOf_29 k5) (0) (0) := by
  unfold BX12_weekOf_29
  refine s_cal0 32 (run_V (X := XX12_weekOf) rfl clX12 yoX12_isGate rfl tw_1810 tw_1812 tw_p93 (by decide) dX12_weekOf_29) cmX12_isGate (fun _ _ _ => rfl) rfl ?_
  refine s_ifne 68 35 dX12_weekOf_32 (by decide) rfl ?_ ?_
  · refine s_inc 5 1 71 (by decide) (by decide) dX12_weekOf_68 rfl ?_
    refine s_goto 5 dX12_weekOf_71 (by decide) ?_
    exact s_pick hk5
  · refine s_iconst 36 4 (by decide) dX12_weekOf_35 rfl ?_
    refine s_Aldn 0 rfl 37 dX12_weekOf_36 rfl ?_
    refine s_Lldn 1 rfl 38 dX12_weekOf_37 rfl ?_
    refine s_Ild 5 40 dX12_weekOf_38 rfl ?_
    exact s_pick (sBX12_weekOf_40 hk5)
def BX12_weekOf_20 (k5 : KT Int64) : KT Int64 :=
  oCal 2 none EX12_has fZ (oIfeq (oInc 5 1 (oPick [0, 1, 3, 5] k5)) (oAld 0 (oIld 5 (oPick [0, 1, 3, 5] (BX12_weekOf_29 k5)))))
set_option maxRecDepth 20000 in
theorem sBX12_weekOf_20 {k5 : KT Int64} (hk5 : Snd XX12_weekOf fL 5 k5 0 0) : Snd XX12_weekOf fL 20 (BX12_weekOf_20 k5) (0) (0) := by
  unfold BX12_weekOf_20
  refine s_cal0 23 (run_S (X := XX12_weekOf) yoX12_has tw_1628 tw_1629 (by decide) dX12_weekOf_20) cmX12_has (fun _ _ _ => rfl) rfl ?_
  refine s_ifeq 68 26 dX12_weekOf_23 (by decide) rfl ?_ ?_
  · refine s_inc 5 1 71 (by decide) (by decide) dX12_weekOf_68 rfl ?_
    refine s_goto 5 dX12_weekOf_71 (by decide) ?_
    exact s_pick hk5
  · refine s_Aldn 0 rfl 27 dX12_weekOf_26 rfl ?_
    refine s_Ild 5 29 dX12_weekOf_27 rfl ?_
    exact s_pick (sBX12_weekOf_29 hk5)
def BX12_weekOf_5 (k5 : KT Int64) : KT Int64 :=
  oIld 5 (oAld 0 (oGet 12 3 (oCal 1 (some 11) EX11_cells fI (oCmpge (oLld 3 (oLretP)) (oLld 1 (oIld 5 (oPick [0, 1, 3, 5] (BX12_weekOf_20 k5))))))))
set_option maxRecDepth 20000 in
theorem sBX12_weekOf_5 {k5 : KT Int64} (hk5 : Snd XX12_weekOf fL 5 k5 0 0) : Snd XX12_weekOf fL 5 (BX12_weekOf_5 k5) (0) (0) := by
  unfold BX12_weekOf_5
  refine s_Ild 5 7 dX12_weekOf_5 rfl ?_
  refine s_Aldn 0 rfl 8 dX12_weekOf_7 rfl ?_
  refine s_get 12 3 11 clX12 (by decide) tw_1291 dX12_weekOf_8 rfl ?_
  refine s_cal0 14 (run_V (X := XX12_weekOf) rfl clX11 yoX11_cells rfl tw_1733 tw_1715 tw_1716 (by decide) dX12_weekOf_11) cmX11_cells (fun _ _ _ => rfl) rfl ?_
  refine s_cmpge 74 17 dX12_weekOf_14 (by decide) rfl ?_ ?_
  · refine s_Lldn 3 rfl 75 dX12_weekOf_74 rfl ?_
    exact s_lretP rfl dX12_weekOf_75
  · refine s_Lldn 1 rfl 18 dX12_weekOf_17 rfl ?_
    refine s_Ild 5 20 dX12_weekOf_18 rfl ?_
    exact s_pick (sBX12_weekOf_20 hk5)
def BX12_weekOf_0 : KT Int64 :=
  oLld 1 (oLst 3 (oConst (.int 0) (oIst 5 (oPick [0, 1, 3, 5] (lp (BX12_weekOf_5) FU)))))
set_option maxRecDepth 20000 in
theorem sBX12_weekOf_0 : Snd XX12_weekOf fL 0 (BX12_weekOf_0) (0) (0) := by
  unfold BX12_weekOf_0
  refine s_Lldn 1 rfl 1 dX12_weekOf_0 rfl ?_
  refine s_Lstn 3 rfl 2 (by decide) dX12_weekOf_1 rfl ?_
  refine s_iconst 3 0 (by decide) dX12_weekOf_2 rfl ?_
  refine s_Ist 5 5 (by decide) dX12_weekOf_3 rfl ?_
  exact s_pick (s_lp (fun k hk => sBX12_weekOf_5  hk) FU)
def EX12_weekOf : List Value → HP → Option Int64 := en 6 BX12_weekOf_0
theorem cmX12_weekOf : CM XX12_weekOf EX12_weekOf fL 0 0 := CM.of rfl (by decide) rfl rfl sBX12_weekOf_0
theorem yoX12_weekOf : YO XX12_weekOf 1 0 0 := ⟨tw_1921, rfl, tw_12, (by decide +kernel), rfl, rfl⟩
abbrev XX12_shut : MX := (yX12_shut, cX12_shut, 6, (Option.some .int), Cond.code yX12_shut cX12_shut 6 (Option.some .int) :: WS, { frames := 4, cells := 0, slots := 0, locals := 95 })
def BX12_shut_70 (k50 : KT (Int32 × HP)) : KT (Int32 × HP) :=
  oCal 2 none EX12_has fZ (oIfne (oInc 5 1 (oPick [0, 1, 2, 3, 5] k50)) (oAld 0 (oIld 5 (oCal 2 (some 12) EX12_good fIH (oIretH)))))
set_option maxRecDepth 20000 in
theorem sBX12_shut_70 {k50 : KT (Int32 × HP)} (hk50 : Snd XX12_shut fIH 50 k50 0 0) : Snd XX12_shut fIH 70 (BX12_shut_70 k50) (0) (0) := by
  unfold BX12_shut_70
  refine s_cal0 73 (run_S (X := XX12_shut) yoX12_has tw_1628 tw_1629 (by decide) dX12_shut_70) cmX12_has (fun _ _ _ => rfl) rfl ?_
  refine s_ifne 83 76 dX12_shut_73 (by decide) rfl ?_ ?_
  · refine s_inc 5 1 86 (by decide) (by decide) dX12_shut_83 rfl ?_
    refine s_goto 50 dX12_shut_86 (by decide) ?_
    exact s_pick hk50
  · refine s_Aldn 0 rfl 77 dX12_shut_76 rfl ?_
    refine s_Ild 5 79 dX12_shut_77 rfl ?_
    refine s_cal0 82 (run_V (X := XX12_shut) rfl clX12 yoX12_good rfl tw_1678 tw_1680 tw_p76 (by decide) dX12_shut_79) cmX12_good (fun _ _ _ => rfl) rfl ?_
    exact s_iretH rfl dX12_shut_82
def BX12_shut_59 (k50 : KT (Int32 × HP)) : KT (Int32 × HP) :=
  oCal 2 (some 12) EX12_weekOf fL (oLst 3 (oLld 3 (oAld 0 (oIld 1 (oIld 2 (oCal 3 (some 12) EX12_cellOf fI (oPick [0, 1, 2, 3, 5] (BX12_shut_70 k50))))))))
set_option maxRecDepth 20000 in
theorem sBX12_shut_59 {k50 : KT (Int32 × HP)} (hk50 : Snd XX12_shut fIH 50 k50 0 0) : Snd XX12_shut fIH 59 (BX12_shut_59 k50) (0) (0) := by
  unfold BX12_shut_59
  refine s_cal0 62 (run_V (X := XX12_shut) rfl clX12 yoX12_weekOf rfl tw_1918 tw_1920 tw_p103 (by decide) dX12_shut_59) cmX12_weekOf (fun _ _ _ => rfl) rfl ?_
  refine s_Lstn 3 rfl 63 (by decide) dX12_shut_62 rfl ?_
  refine s_Lldn 3 rfl 64 dX12_shut_63 rfl ?_
  refine s_Aldn 0 rfl 65 dX12_shut_64 rfl ?_
  refine s_Ildn 1 rfl 66 dX12_shut_65 rfl ?_
  refine s_Ildn 2 rfl 67 dX12_shut_66 rfl ?_
  refine s_cal0 70 (run_V (X := XX12_shut) rfl clX12 yoX12_cellOf rfl tw_1698 tw_1700 tw_p78 (by decide) dX12_shut_67) cmX12_cellOf (fun _ _ _ => rfl) rfl ?_
  exact s_pick (sBX12_shut_70 hk50)
def BX12_shut_50 (k50 : KT (Int32 × HP)) : KT (Int32 × HP) :=
  oIld 5 (oConst (.int 60) (oCmpgt (oAld 0 (oConst (.int (-2)) (oCal 2 (some 12) EX12_good fIH (oIretH)))) (oAld 0 (oLld 3 (oPick [0, 1, 2, 5] (BX12_shut_59 k50))))))
set_option maxRecDepth 20000 in
theorem sBX12_shut_50 {k50 : KT (Int32 × HP)} (hk50 : Snd XX12_shut fIH 50 k50 0 0) : Snd XX12_shut fIH 50 (BX12_shut_50 k50) (0) (0) := by
  unfold BX12_shut_50
  refine s_Ild 5 52 dX12_shut_50 rfl ?_
  refine s_bipush 54 60 (by decide) dX12_shut_52 rfl ?_
  refine s_cmpgt 89 57 dX12_shut_54 (by decide) rfl ?_ ?_
  · refine s_Aldn 0 rfl 90 dX12_shut_89 rfl ?_
    refine s_bipush 92 (-2) (by decide) dX12_shut_90 rfl ?_
    refine s_cal0 95 (run_V (X := XX12_shut) rfl clX12 yoX12_good rfl tw_1678 tw_1680 tw_p76 (by decide) dX12_shut_92) cmX12_good (fun _ _ _ => rfl) rfl ?_
    exact s_iretH rfl dX12_shut_95
  · refine s_Aldn 0 rfl 58 dX12_shut_57 rfl ?_
    refine s_Lldn 3 rfl 59 dX12_shut_58 rfl ?_
    exact s_pick (sBX12_shut_59 hk50)
def BX12_shut_30 : KT (Int32 × HP) :=
  oCal 2 none EX12_has fZ (oIfne (oAld 0 (oGet 12 20 (oLst 3 (oConst (.int 1) (oIst 5 (oPick [0, 1, 2, 3, 5] (lp (BX12_shut_50) FU))))))) (oAld 0 (oConst (.int 5) (oCal 2 (some 12) EX12_refused fIH (oIretH)))))
set_option maxRecDepth 20000 in
theorem sBX12_shut_30 : Snd XX12_shut fIH 30 (BX12_shut_30) (0) (0) := by
  unfold BX12_shut_30
  refine s_cal0 33 (run_S (X := XX12_shut) yoX12_has tw_1628 tw_1629 (by decide) dX12_shut_30) cmX12_has (fun _ _ _ => rfl) rfl ?_
  refine s_ifne 42 36 dX12_shut_33 (by decide) rfl ?_ ?_
  · refine s_Aldn 0 rfl 43 dX12_shut_42 rfl ?_
    refine s_get 12 20 46 clX12 (by decide) tw_1308 dX12_shut_43 rfl ?_
    refine s_Lstn 3 rfl 47 (by decide) dX12_shut_46 rfl ?_
    refine s_iconst 48 1 (by decide) dX12_shut_47 rfl ?_
    refine s_Ist 5 50 (by decide) dX12_shut_48 rfl ?_
    exact s_pick (s_lp (fun k hk => sBX12_shut_50  hk) FU)
  · refine s_Aldn 0 rfl 37 dX12_shut_36 rfl ?_
    refine s_iconst 38 5 (by decide) dX12_shut_37 rfl ?_
    refine s_cal0 41 (run_V (X := XX12_shut) rfl clX12 yoX12_refused rfl tw_1430 tw_1432 tw_p50 (by decide) dX12_shut_38) cmX12_refused (fun _ _ _ => rfl) rfl ?_
    exact s_iretH rfl dX12_shut_41
def BX12_shut_8 : KT (Int32 × HP) :=
  oCal 3 (some 12) EX12_isCell fZ (oIfne (oAld 0 (oGet 12 20 (oAld 0 (oIld 1 (oIld 2 (oCal 3 (some 12) EX12_cellOf fI (oPick [0, 1, 2] (BX12_shut_30)))))))) (oAld 0 (oConst (.int 1) (oCal 2 (some 12) EX12_refused fIH (oIretH)))))
set_option maxRecDepth 20000 in
theorem sBX12_shut_8 : Snd XX12_shut fIH 8 (BX12_shut_8) (0) (0) := by
  unfold BX12_shut_8
  refine s_cal0 11 (run_V (X := XX12_shut) rfl clX12 yoX12_isCell rfl tw_1694 tw_1696 tw_p77 (by decide) dX12_shut_8) cmX12_isCell (fun _ _ _ => rfl) rfl ?_
  refine s_ifne 20 14 dX12_shut_11 (by decide) rfl ?_ ?_
  · refine s_Aldn 0 rfl 21 dX12_shut_20 rfl ?_
    refine s_get 12 20 24 clX12 (by decide) tw_1308 dX12_shut_21 rfl ?_
    refine s_Aldn 0 rfl 25 dX12_shut_24 rfl ?_
    refine s_Ildn 1 rfl 26 dX12_shut_25 rfl ?_
    refine s_Ildn 2 rfl 27 dX12_shut_26 rfl ?_
    refine s_cal0 30 (run_V (X := XX12_shut) rfl clX12 yoX12_cellOf rfl tw_1698 tw_1700 tw_p78 (by decide) dX12_shut_27) cmX12_cellOf (fun _ _ _ => rfl) rfl ?_
    exact s_pick (sBX12_shut_30)
  · refine s_Aldn 0 rfl 15 dX12_shut_14 rfl ?_
    refine s_iconst 16 1 (by decide) dX12_shut_15 rfl ?_
    refine s_cal0 19 (run_V (X := XX12_shut) rfl clX12 yoX12_refused rfl tw_1430 tw_1432 tw_p50 (by decide) dX12_shut_16) cmX12_refused (fun _ _ _ => rfl) rfl ?_
    exact s_iretH rfl dX12_shut_19
def BX12_shut_0 : KT (Int32 × HP) :=
  oAld 0 (oConst (.int 0) (oPut 12 0 .int (oAld 0 (oIld 1 (oIld 2 (oPick [0, 1, 2] (BX12_shut_8)))))))
set_option maxRecDepth 20000 in
theorem sBX12_shut_0 : Snd XX12_shut fIH 0 (BX12_shut_0) (0) (0) := by
  unfold BX12_shut_0
  refine s_Aldn 0 rfl 1 dX12_shut_0 rfl ?_
  refine s_iconst 2 0 (by decide) dX12_shut_1 rfl ?_
  refine s_put 12 0 5 clX12 (by decide) rfl rfl pIH tw_1288 dX12_shut_2 rfl ?_
  refine s_Aldn 0 rfl 6 dX12_shut_5 rfl ?_
  refine s_Ildn 1 rfl 7 dX12_shut_6 rfl ?_
  refine s_Ildn 2 rfl 8 dX12_shut_7 rfl ?_
  exact s_pick (sBX12_shut_8)
def EX12_shut : List Value → HP → Option (Int32 × HP) := en 6 BX12_shut_0
theorem cmX12_shut : CM XX12_shut EX12_shut fIH 0 0 := CM.of rfl (by decide) rfl rfl sBX12_shut_0
theorem yoX12_shut : YO XX12_shut 2 0 0 := ⟨tw_1917, rfl, tw_12, (by decide +kernel), rfl, rfl⟩
abbrev XX12_hasWay : MX := (yX12_hasWay, cX12_hasWay, 5, (Option.some .boolean), Cond.code yX12_hasWay cX12_hasWay 5 (Option.some .boolean) :: WS, { frames := 3, cells := 0, slots := 0, locals := 70 })
def BX12_hasWay_30 (k2 : KT (Bool × HP)) (k30 : KT (Bool × HP)) : KT (Bool × HP) :=
  oIld 4 (oAld 0 (oGet 12 3 (oGet 11 8 (oCmpge (oInc 3 1 (oPick [0, 1, 3] k2)) (oAld 0 (oGet 12 22 (oAld 0 (oGet 12 3 (oGet 11 18 (oIld 4 (oIa (oIa (oConst (.int (-2)) (oCmpeq (oInc 4 1 (oPick [0, 1, 3, 4] k30)) (oConst (.int 1) (oZretH))))))))))))))))
set_option maxRecDepth 20000 in
theorem sBX12_hasWay_30 {k2 : KT (Bool × HP)} (hk2 : Snd XX12_hasWay fZH 2 k2 0 0) {k30 : KT (Bool × HP)} (hk30 : Snd XX12_hasWay fZH 30 k30 0 0) : Snd XX12_hasWay fZH 30 (BX12_hasWay_30 k2 k30) (0) (0) := by
  unfold BX12_hasWay_30
  refine s_Ild 4 32 dX12_hasWay_30 rfl ?_
  refine s_Aldn 0 rfl 33 dX12_hasWay_32 rfl ?_
  refine s_get 12 3 36 clX12 (by decide) tw_1291 dX12_hasWay_33 rfl ?_
  refine s_getN 11 8 39 clX11 (by decide) nw_50 dX12_hasWay_36 rfl ?_
  refine s_cmpge 70 42 dX12_hasWay_39 (by decide) rfl ?_ ?_
  · refine s_inc 3 1 73 (by decide) (by decide) dX12_hasWay_70 rfl ?_
    refine s_goto 2 dX12_hasWay_73 (by decide) ?_
    exact s_pick hk2
  · refine s_Aldn 0 rfl 43 dX12_hasWay_42 rfl ?_
    refine s_get 12 22 46 clX12 (by decide) tw_1310 dX12_hasWay_43 rfl ?_
    refine s_Aldn 0 rfl 47 dX12_hasWay_46 rfl ?_
    refine s_get 12 3 50 clX12 (by decide) tw_1291 dX12_hasWay_47 rfl ?_
    refine s_getN 11 18 53 clX11 (by decide) nw_60 dX12_hasWay_50 rfl ?_
    refine s_Ild 4 55 dX12_hasWay_53 rfl ?_
    refine s_Ia 56 dX12_hasWay_55 rfl ?_
    refine s_Ia 57 dX12_hasWay_56 rfl ?_
    refine s_bipush 59 (-2) (by decide) dX12_hasWay_57 rfl ?_
    refine s_cmpeq 64 62 dX12_hasWay_59 (by decide) rfl ?_ ?_
    · refine s_inc 4 1 67 (by decide) (by decide) dX12_hasWay_64 rfl ?_
      refine s_goto 30 dX12_hasWay_67 (by decide) ?_
      exact s_pick hk30
    · refine s_iconst 63 1 (by decide) dX12_hasWay_62 rfl ?_
      exact s_zretH rfl dX12_hasWay_63
def BX12_hasWay_24 (k2 : KT (Bool × HP)) : KT (Bool × HP) :=
  oCal 3 (some 12) EX12_laysFar fVH (oConst (.int 0) (oIst 4 (oPick [0, 1, 3, 4] (lp (BX12_hasWay_30 k2) FU))))
set_option maxRecDepth 20000 in
theorem sBX12_hasWay_24 {k2 : KT (Bool × HP)} (hk2 : Snd XX12_hasWay fZH 2 k2 0 0) : Snd XX12_hasWay fZH 24 (BX12_hasWay_24 k2) (0) (0) := by
  unfold BX12_hasWay_24
  refine s_cal0 27 (run_V (X := XX12_hasWay) rfl clX12 yoX12_laysFar rfl tw_1729 tw_1731 tw_p81 (by decide) dX12_hasWay_24) cmX12_laysFar (fun _ _ _ => rfl) rfl ?_
  refine s_iconst 28 0 (by decide) dX12_hasWay_27 rfl ?_
  refine s_Ist 4 30 (by decide) dX12_hasWay_28 rfl ?_
  exact s_pick (s_lp (fun k hk => sBX12_hasWay_30 hk2 hk) FU)
def BX12_hasWay_2 (k2 : KT (Bool × HP)) : KT (Bool × HP) :=
  oIld 3 (oAld 0 (oGet 12 3 (oGet 11 10 (oCmpge (oConst (.int 0) (oZretH)) (oAld 0 (oLld 1 (oAld 0 (oGet 12 3 (oGet 11 22 (oIld 3 (oIa (oPick [0, 1, 3] (BX12_hasWay_24 k2)))))))))))))
set_option maxRecDepth 20000 in
theorem sBX12_hasWay_2 {k2 : KT (Bool × HP)} (hk2 : Snd XX12_hasWay fZH 2 k2 0 0) : Snd XX12_hasWay fZH 2 (BX12_hasWay_2 k2) (0) (0) := by
  unfold BX12_hasWay_2
  refine s_Ildn 3 rfl 3 dX12_hasWay_2 rfl ?_
  refine s_Aldn 0 rfl 4 dX12_hasWay_3 rfl ?_
  refine s_get 12 3 7 clX12 (by decide) tw_1291 dX12_hasWay_4 rfl ?_
  refine s_getN 11 10 10 clX11 (by decide) nw_52 dX12_hasWay_7 rfl ?_
  refine s_cmpge 76 13 dX12_hasWay_10 (by decide) rfl ?_ ?_
  · refine s_iconst 77 0 (by decide) dX12_hasWay_76 rfl ?_
    exact s_zretH rfl dX12_hasWay_77
  · refine s_Aldn 0 rfl 14 dX12_hasWay_13 rfl ?_
    refine s_Lldn 1 rfl 15 dX12_hasWay_14 rfl ?_
    refine s_Aldn 0 rfl 16 dX12_hasWay_15 rfl ?_
    refine s_get 12 3 19 clX12 (by decide) tw_1291 dX12_hasWay_16 rfl ?_
    refine s_getN 11 22 22 clX11 (by decide) nw_64 dX12_hasWay_19 rfl ?_
    refine s_Ildn 3 rfl 23 dX12_hasWay_22 rfl ?_
    refine s_Ia 24 dX12_hasWay_23 rfl ?_
    exact s_pick (sBX12_hasWay_24 hk2)
def BX12_hasWay_0 : KT (Bool × HP) :=
  oConst (.int 0) (oIst 3 (oPick [0, 1, 3] (lp (BX12_hasWay_2) FU)))
set_option maxRecDepth 20000 in
theorem sBX12_hasWay_0 : Snd XX12_hasWay fZH 0 (BX12_hasWay_0) (0) (0) := by
  unfold BX12_hasWay_0
  refine s_iconst 1 0 (by decide) dX12_hasWay_0 rfl ?_
  refine s_Istn 3 rfl 2 (by decide) dX12_hasWay_1 rfl ?_
  exact s_pick (s_lp (fun k hk => sBX12_hasWay_2  hk) FU)
def EX12_hasWay : List Value → HP → Option (Bool × HP) := en 5 BX12_hasWay_0
theorem cmX12_hasWay : CM XX12_hasWay EX12_hasWay fZH 0 0 := CM.of rfl (by decide) rfl rfl sBX12_hasWay_0
theorem yoX12_hasWay : YO XX12_hasWay 1 0 0 := ⟨tw_1929, rfl, tw_12, (by decide +kernel), rfl, rfl⟩
abbrev XX12_shutWays : MX := (yX12_shutWays, cX12_shutWays, 4, (Option.some .int), Cond.code yX12_shutWays cX12_shutWays 4 (Option.some .int) :: WS, { frames := 4, cells := 0, slots := 0, locals := 95 })
def BX12_shutWays_64 (k42 : KT (Int32 × HP)) : KT (Int32 × HP) :=
  oCal 2 (some 12) EX12_weekOf fL (oLst 1 (oInc 3 1 (oPick [0, 1, 3] k42)))
set_option maxRecDepth 20000 in
theorem sBX12_shutWays_64 {k42 : KT (Int32 × HP)} (hk42 : Snd XX12_shutWays fIH 42 k42 0 0) : Snd XX12_shutWays fIH 64 (BX12_shutWays_64 k42) (0) (0) := by
  unfold BX12_shutWays_64
  refine s_cal0 67 (run_V (X := XX12_shutWays) rfl clX12 yoX12_weekOf rfl tw_1918 tw_1920 tw_p103 (by decide) dX12_shutWays_64) cmX12_weekOf (fun _ _ _ => rfl) rfl ?_
  refine s_Lstn 1 rfl 68 (by decide) dX12_shutWays_67 rfl ?_
  refine s_inc 3 1 71 (by decide) (by decide) dX12_shutWays_68 rfl ?_
  refine s_goto 42 dX12_shutWays_71 (by decide) ?_
  exact s_pick hk42
def BX12_shutWays_50 (k42 : KT (Int32 × HP)) : KT (Int32 × HP) :=
  oCal 2 (some 12) EX12_hasWay fZH (oIfne (oAld 0 (oLld 1 (oPick [0, 3] (BX12_shutWays_64 k42)))) (oAld 0 (oIld 3 (oCal 2 (some 12) EX12_good fIH (oIretH)))))
set_option maxRecDepth 20000 in
theorem sBX12_shutWays_50 {k42 : KT (Int32 × HP)} (hk42 : Snd XX12_shutWays fIH 42 k42 0 0) : Snd XX12_shutWays fIH 50 (BX12_shutWays_50 k42) (0) (0) := by
  unfold BX12_shutWays_50
  refine s_cal0 53 (run_V (X := XX12_shutWays) rfl clX12 yoX12_hasWay rfl tw_1926 tw_1928 tw_p104 (by decide) dX12_shutWays_50) cmX12_hasWay (fun _ _ _ => rfl) rfl ?_
  refine s_ifne 62 56 dX12_shutWays_53 (by decide) rfl ?_ ?_
  · refine s_Aldn 0 rfl 63 dX12_shutWays_62 rfl ?_
    refine s_Lldn 1 rfl 64 dX12_shutWays_63 rfl ?_
    exact s_pick (sBX12_shutWays_64 hk42)
  · refine s_Aldn 0 rfl 57 dX12_shutWays_56 rfl ?_
    refine s_Ildn 3 rfl 58 dX12_shutWays_57 rfl ?_
    refine s_cal0 61 (run_V (X := XX12_shutWays) rfl clX12 yoX12_good rfl tw_1678 tw_1680 tw_p76 (by decide) dX12_shutWays_58) cmX12_good (fun _ _ _ => rfl) rfl ?_
    exact s_iretH rfl dX12_shutWays_61
def BX12_shutWays_42 (k42 : KT (Int32 × HP)) : KT (Int32 × HP) :=
  oIld 3 (oConst (.int 60) (oCmpgt (oAld 0 (oConst (.int (-2)) (oCal 2 (some 12) EX12_good fIH (oIretH)))) (oAld 0 (oLld 1 (oPick [0, 1, 3] (BX12_shutWays_50 k42))))))
set_option maxRecDepth 20000 in
theorem sBX12_shutWays_42 {k42 : KT (Int32 × HP)} (hk42 : Snd XX12_shutWays fIH 42 k42 0 0) : Snd XX12_shutWays fIH 42 (BX12_shutWays_42 k42) (0) (0) := by
  unfold BX12_shutWays_42
  refine s_Ildn 3 rfl 43 dX12_shutWays_42 rfl ?_
  refine s_bipush 45 60 (by decide) dX12_shutWays_43 rfl ?_
  refine s_cmpgt 74 48 dX12_shutWays_45 (by decide) rfl ?_ ?_
  · refine s_Aldn 0 rfl 75 dX12_shutWays_74 rfl ?_
    refine s_bipush 77 (-2) (by decide) dX12_shutWays_75 rfl ?_
    refine s_cal0 80 (run_V (X := XX12_shutWays) rfl clX12 yoX12_good rfl tw_1678 tw_1680 tw_p76 (by decide) dX12_shutWays_77) cmX12_good (fun _ _ _ => rfl) rfl ?_
    exact s_iretH rfl dX12_shutWays_80
  · refine s_Aldn 0 rfl 49 dX12_shutWays_48 rfl ?_
    refine s_Lldn 1 rfl 50 dX12_shutWays_49 rfl ?_
    exact s_pick (sBX12_shutWays_50 hk42)
def BX12_shutWays_0 : KT (Int32 × HP) :=
  oAld 0 (oConst (.int 0) (oPut 12 0 .int (oAld 0 (oGet 12 3 (oNul (oAld 0 (oConst (.int 1) (oCal 2 (some 12) EX12_refused fIH (oIretH)))) (oAld 0 (oGet 12 3 (oGet 11 10 (oIfne (oAld 0 (oGet 12 20 (oLst 1 (oConst (.int 0) (oIst 3 (oPick [0, 1, 3] (lp (BX12_shutWays_42) FU))))))) (oAld 0 (oConst (.int 6) (oCal 2 (some 12) EX12_refused fIH (oIretH)))))))))))))
set_option maxRecDepth 20000 in
theorem sBX12_shutWays_0 : Snd XX12_shutWays fIH 0 (BX12_shutWays_0) (0) (0) := by
  unfold BX12_shutWays_0
  refine s_Aldn 0 rfl 1 dX12_shutWays_0 rfl ?_
  refine s_iconst 2 0 (by decide) dX12_shutWays_1 rfl ?_
  refine s_put 12 0 5 clX12 (by decide) rfl rfl pIH tw_1288 dX12_shutWays_2 rfl ?_
  refine s_Aldn 0 rfl 6 dX12_shutWays_5 rfl ?_
  refine s_get 12 3 9 clX12 (by decide) tw_1291 dX12_shutWays_6 rfl ?_
  refine s_ifnonnull 18 12 dX12_shutWays_9 (by decide) rfl ?_ ?_
  · refine s_Aldn 0 rfl 19 dX12_shutWays_18 rfl ?_
    refine s_get 12 3 22 clX12 (by decide) tw_1291 dX12_shutWays_19 rfl ?_
    refine s_getN 11 10 25 clX11 (by decide) nw_52 dX12_shutWays_22 rfl ?_
    refine s_ifne 35 28 dX12_shutWays_25 (by decide) rfl ?_ ?_
    · refine s_Aldn 0 rfl 36 dX12_shutWays_35 rfl ?_
      refine s_get 12 20 39 clX12 (by decide) tw_1308 dX12_shutWays_36 rfl ?_
      refine s_Lstn 1 rfl 40 (by decide) dX12_shutWays_39 rfl ?_
      refine s_iconst 41 0 (by decide) dX12_shutWays_40 rfl ?_
      refine s_Istn 3 rfl 42 (by decide) dX12_shutWays_41 rfl ?_
      exact s_pick (s_lp (fun k hk => sBX12_shutWays_42  hk) FU)
    · refine s_Aldn 0 rfl 29 dX12_shutWays_28 rfl ?_
      refine s_bipush 31 6 (by decide) dX12_shutWays_29 rfl ?_
      refine s_cal0 34 (run_V (X := XX12_shutWays) rfl clX12 yoX12_refused rfl tw_1430 tw_1432 tw_p50 (by decide) dX12_shutWays_31) cmX12_refused (fun _ _ _ => rfl) rfl ?_
      exact s_iretH rfl dX12_shutWays_34
  · refine s_Aldn 0 rfl 13 dX12_shutWays_12 rfl ?_
    refine s_iconst 14 1 (by decide) dX12_shutWays_13 rfl ?_
    refine s_cal0 17 (run_V (X := XX12_shutWays) rfl clX12 yoX12_refused rfl tw_1430 tw_1432 tw_p50 (by decide) dX12_shutWays_14) cmX12_refused (fun _ _ _ => rfl) rfl ?_
    exact s_iretH rfl dX12_shutWays_17
def EX12_shutWays : List Value → HP → Option (Int32 × HP) := en 4 BX12_shutWays_0
theorem cmX12_shutWays : CM XX12_shutWays EX12_shutWays fIH 0 0 := CM.of rfl (by decide) rfl rfl sBX12_shutWays_0
theorem yoX12_shutWays : YO XX12_shutWays 0 0 0 := ⟨tw_1925, rfl, tw_12, (by decide +kernel), rfl, rfl⟩
abbrev XX12_isFree : MX := (yX12_isFree, cX12_isFree, 5, (Option.some .boolean), Cond.code yX12_isFree cX12_isFree 5 (Option.some .boolean) :: WS, { frames := 1, cells := 0, slots := 0, locals := 22 })
def BX12_isFree_58 (k25 : KT Bool) : KT Bool :=
  oCal 2 none EX12_has fZ (oIfne (oIld 3 (oIld 2 (oiadd (oIst 3 (oInc 4 (-1) (oPick [0, 2, 3, 4] k25)))))) (oConst (.int 0) (oZretP)))
set_option maxRecDepth 20000 in
theorem sBX12_isFree_58 {k25 : KT Bool} (hk25 : Snd XX12_isFree fZ 25 k25 0 0) : Snd XX12_isFree fZ 58 (BX12_isFree_58 k25) (0) (0) := by
  unfold BX12_isFree_58
  refine s_cal0 61 (run_S (X := XX12_isFree) yoX12_has tw_1628 tw_1629 (by decide) dX12_isFree_58) cmX12_has (fun _ _ _ => rfl) rfl ?_
  refine s_ifne 66 64 dX12_isFree_61 (by decide) rfl ?_ ?_
  · refine s_Ildn 3 rfl 67 dX12_isFree_66 rfl ?_
    refine s_Ildn 2 rfl 68 dX12_isFree_67 rfl ?_
    refine s_iadd 69 dX12_isFree_68 rfl ?_
    refine s_Istn 3 rfl 70 (by decide) dX12_isFree_69 rfl ?_
    refine s_inc 4 (-1) 73 (by decide) (by decide) dX12_isFree_70 rfl ?_
    refine s_goto 25 dX12_isFree_73 (by decide) ?_
    exact s_pick hk25
  · refine s_iconst 65 0 (by decide) dX12_isFree_64 rfl ?_
    exact s_zretP rfl dX12_isFree_65
def BX12_isFree_41 (k25 : KT Bool) : KT Bool :=
  oCal 3 none EX12_in fZ (oIfeq (oConst (.int 1) (oZretP)) (oAld 0 (oGet 12 20 (oAld 0 (oIld 3 (oIld 4 (oCal 3 (some 12) EX12_cellOf fI (oPick [0, 2, 3, 4] (BX12_isFree_58 k25)))))))))
set_option maxRecDepth 20000 in
theorem sBX12_isFree_41 {k25 : KT Bool} (hk25 : Snd XX12_isFree fZ 25 k25 0 0) : Snd XX12_isFree fZ 41 (BX12_isFree_41 k25) (0) (0) := by
  unfold BX12_isFree_41
  refine s_cal0 44 (run_S (X := XX12_isFree) yoX12_in tw_1589 tw_1590 (by decide) dX12_isFree_41) cmX12_in (fun _ _ _ => rfl) rfl ?_
  refine s_ifeq 76 47 dX12_isFree_44 (by decide) rfl ?_ ?_
  · refine s_iconst 77 1 (by decide) dX12_isFree_76 rfl ?_
    exact s_zretP rfl dX12_isFree_77
  · refine s_Aldn 0 rfl 48 dX12_isFree_47 rfl ?_
    refine s_get 12 20 51 clX12 (by decide) tw_1308 dX12_isFree_48 rfl ?_
    refine s_Aldn 0 rfl 52 dX12_isFree_51 rfl ?_
    refine s_Ildn 3 rfl 53 dX12_isFree_52 rfl ?_
    refine s_Ild 4 55 dX12_isFree_53 rfl ?_
    refine s_cal0 58 (run_V (X := XX12_isFree) rfl clX12 yoX12_cellOf rfl tw_1698 tw_1700 tw_p78 (by decide) dX12_isFree_55) cmX12_cellOf (fun _ _ _ => rfl) rfl ?_
    exact s_pick (sBX12_isFree_58 hk25)
def BX12_isFree_25 (k25 : KT Bool) : KT Bool :=
  oIld 4 (oIflt (oConst (.int 1) (oZretP)) (oIld 3 (oConst (.int 0) (oAld 0 (oGet 12 3 (oGet 11 0 (oConst (.int 1) (oisub (oPick [0, 2, 3, 4] (BX12_isFree_41 k25))))))))))
set_option maxRecDepth 20000 in
theorem sBX12_isFree_25 {k25 : KT Bool} (hk25 : Snd XX12_isFree fZ 25 k25 0 0) : Snd XX12_isFree fZ 25 (BX12_isFree_25 k25) (0) (0) := by
  unfold BX12_isFree_25
  refine s_Ild 4 27 dX12_isFree_25 rfl ?_
  refine s_iflt 76 30 dX12_isFree_27 (by decide) rfl ?_ ?_
  · refine s_iconst 77 1 (by decide) dX12_isFree_76 rfl ?_
    exact s_zretP rfl dX12_isFree_77
  · refine s_Ildn 3 rfl 31 dX12_isFree_30 rfl ?_
    refine s_iconst 32 0 (by decide) dX12_isFree_31 rfl ?_
    refine s_Aldn 0 rfl 33 dX12_isFree_32 rfl ?_
    refine s_get 12 3 36 clX12 (by decide) tw_1291 dX12_isFree_33 rfl ?_
    refine s_getN 11 0 39 clX11 (by decide) nw_42 dX12_isFree_36 rfl ?_
    refine s_iconst 40 1 (by decide) dX12_isFree_39 rfl ?_
    refine s_isub 41 dX12_isFree_40 rfl ?_
    exact s_pick (sBX12_isFree_41 hk25)
def BX12_isFree_0 : KT Bool :=
  oIld 1 (oAld 0 (oGet 12 3 (oGet 11 0 (oirem (oIld 2 (oiadd (oIst 3 (oIld 1 (oAld 0 (oGet 12 3 (oGet 11 0 (oidiv (oConst (.int 1) (oisub (oIst 4 (oPick [0, 2, 3, 4] (lp (BX12_isFree_25) FU)))))))))))))))))
set_option maxRecDepth 20000 in
theorem sBX12_isFree_0 : Snd XX12_isFree fZ 0 (BX12_isFree_0) (0) (0) := by
  unfold BX12_isFree_0
  refine s_Ildn 1 rfl 1 dX12_isFree_0 rfl ?_
  refine s_Aldn 0 rfl 2 dX12_isFree_1 rfl ?_
  refine s_get 12 3 5 clX12 (by decide) tw_1291 dX12_isFree_2 rfl ?_
  refine s_getN 11 0 8 clX11 (by decide) nw_42 dX12_isFree_5 rfl ?_
  refine s_irem 9 dX12_isFree_8 rfl ?_
  refine s_Ildn 2 rfl 10 dX12_isFree_9 rfl ?_
  refine s_iadd 11 dX12_isFree_10 rfl ?_
  refine s_Istn 3 rfl 12 (by decide) dX12_isFree_11 rfl ?_
  refine s_Ildn 1 rfl 13 dX12_isFree_12 rfl ?_
  refine s_Aldn 0 rfl 14 dX12_isFree_13 rfl ?_
  refine s_get 12 3 17 clX12 (by decide) tw_1291 dX12_isFree_14 rfl ?_
  refine s_getN 11 0 20 clX11 (by decide) nw_42 dX12_isFree_17 rfl ?_
  refine s_idiv 21 dX12_isFree_20 rfl ?_
  refine s_iconst 22 1 (by decide) dX12_isFree_21 rfl ?_
  refine s_isub 23 dX12_isFree_22 rfl ?_
  refine s_Ist 4 25 (by decide) dX12_isFree_23 rfl ?_
  exact s_pick (s_lp (fun k hk => sBX12_isFree_25  hk) FU)
def EX12_isFree : List Value → HP → Option Bool := en 5 BX12_isFree_0
theorem cmX12_isFree : CM XX12_isFree EX12_isFree fZ 0 0 := CM.of rfl (by decide) rfl rfl sBX12_isFree_0
theorem yoX12_isFree : YO XX12_isFree 2 0 0 := ⟨tw_1941, rfl, tw_12, (by decide +kernel), rfl, rfl⟩
abbrev XX12_seenNow : MX := (yX12_seenNow, cX12_seenNow, 2, (Option.some .int), Cond.code yX12_seenNow cX12_seenNow 2 (Option.some .int) :: WS, { frames := 2, cells := 0, slots := 0, locals := 46 })
def BX12_seenNow_32 : KT Int32 :=
  oCal 3 (some 12) EX12_isFree fZ (oIfeq (oConst (.int 0) (oior (oIretP))) (oConst (.int 4) (oior (oIretP))))
set_option maxRecDepth 20000 in
theorem sBX12_seenNow_32 : Snd XX12_seenNow fI 32 (BX12_seenNow_32) (0) (0) := by
  unfold BX12_seenNow_32
  refine s_cal0 35 (run_V (X := XX12_seenNow) rfl clX12 yoX12_isFree rfl tw_1938 tw_1940 tw_p106 (by decide) dX12_seenNow_32) cmX12_isFree (fun _ _ _ => rfl) rfl ?_
  refine s_ifeq 42 38 dX12_seenNow_35 (by decide) rfl ?_ ?_
  · refine s_iconst 43 0 (by decide) dX12_seenNow_42 rfl ?_
    refine s_ior 44 dX12_seenNow_43 rfl ?_
    exact s_iretP rfl dX12_seenNow_44
  · refine s_iconst 39 4 (by decide) dX12_seenNow_38 rfl ?_
    refine s_goto 43 dX12_seenNow_39 (by decide) ?_
    refine s_ior 44 dX12_seenNow_43 rfl ?_
    exact s_iretP rfl dX12_seenNow_44
def BX12_seenNow_28 : KT Int32 :=
  oior (oAld 0 (oIld 1 (oConst (.int 1) (oPick [] (BX12_seenNow_32)))))
set_option maxRecDepth 20000 in
theorem sBX12_seenNow_28 : Snd XX12_seenNow fI 28 (BX12_seenNow_28) (0) (0) := by
  unfold BX12_seenNow_28
  refine s_ior 29 dX12_seenNow_28 rfl ?_
  refine s_Aldn 0 rfl 30 dX12_seenNow_29 rfl ?_
  refine s_Ildn 1 rfl 31 dX12_seenNow_30 rfl ?_
  refine s_iconst 32 1 (by decide) dX12_seenNow_31 rfl ?_
  exact s_pick (sBX12_seenNow_32)
def BX12_seenNow_17 : KT Int32 :=
  oCal 3 (some 12) EX12_isFree fZ (oIfeq (oConst (.int 0) (oPick [0, 1] (BX12_seenNow_28))) (oConst (.int 2) (oPick [0, 1] (BX12_seenNow_28))))
set_option maxRecDepth 20000 in
theorem sBX12_seenNow_17 : Snd XX12_seenNow fI 17 (BX12_seenNow_17) (0) (0) := by
  unfold BX12_seenNow_17
  refine s_cal0 20 (run_V (X := XX12_seenNow) rfl clX12 yoX12_isFree rfl tw_1938 tw_1940 tw_p106 (by decide) dX12_seenNow_17) cmX12_isFree (fun _ _ _ => rfl) rfl ?_
  refine s_ifeq 27 23 dX12_seenNow_20 (by decide) rfl ?_ ?_
  · refine s_iconst 28 0 (by decide) dX12_seenNow_27 rfl ?_
    exact s_pick (sBX12_seenNow_28)
  · refine s_iconst 24 2 (by decide) dX12_seenNow_23 rfl ?_
    refine s_goto 28 dX12_seenNow_24 (by decide) ?_
    exact s_pick (sBX12_seenNow_28)
def BX12_seenNow_14 : KT Int32 :=
  oAld 0 (oIld 1 (oConst (.int (-1)) (oPick [0, 1] (BX12_seenNow_17))))
set_option maxRecDepth 20000 in
theorem sBX12_seenNow_14 : Snd XX12_seenNow fI 14 (BX12_seenNow_14) (0) (0) := by
  unfold BX12_seenNow_14
  refine s_Aldn 0 rfl 15 dX12_seenNow_14 rfl ?_
  refine s_Ildn 1 rfl 16 dX12_seenNow_15 rfl ?_
  refine s_iconst 17 (-1) (by decide) dX12_seenNow_16 rfl ?_
  exact s_pick (sBX12_seenNow_17)
def BX12_seenNow_3 : KT Int32 :=
  oCal 3 (some 12) EX12_isFree fZ (oIfeq (oConst (.int 0) (oPick [0, 1] (BX12_seenNow_14))) (oConst (.int 1) (oPick [0, 1] (BX12_seenNow_14))))
set_option maxRecDepth 20000 in
theorem sBX12_seenNow_3 : Snd XX12_seenNow fI 3 (BX12_seenNow_3) (0) (0) := by
  unfold BX12_seenNow_3
  refine s_cal0 6 (run_V (X := XX12_seenNow) rfl clX12 yoX12_isFree rfl tw_1938 tw_1940 tw_p106 (by decide) dX12_seenNow_3) cmX12_isFree (fun _ _ _ => rfl) rfl ?_
  refine s_ifeq 13 9 dX12_seenNow_6 (by decide) rfl ?_ ?_
  · refine s_iconst 14 0 (by decide) dX12_seenNow_13 rfl ?_
    exact s_pick (sBX12_seenNow_14)
  · refine s_iconst 10 1 (by decide) dX12_seenNow_9 rfl ?_
    refine s_goto 14 dX12_seenNow_10 (by decide) ?_
    exact s_pick (sBX12_seenNow_14)
def BX12_seenNow_0 : KT Int32 :=
  oAld 0 (oIld 1 (oConst (.int 0) (oPick [0, 1] (BX12_seenNow_3))))
set_option maxRecDepth 20000 in
theorem sBX12_seenNow_0 : Snd XX12_seenNow fI 0 (BX12_seenNow_0) (0) (0) := by
  unfold BX12_seenNow_0
  refine s_Aldn 0 rfl 1 dX12_seenNow_0 rfl ?_
  refine s_Ildn 1 rfl 2 dX12_seenNow_1 rfl ?_
  refine s_iconst 3 0 (by decide) dX12_seenNow_2 rfl ?_
  exact s_pick (sBX12_seenNow_3)
def EX12_seenNow : List Value → HP → Option Int32 := en 2 BX12_seenNow_0
theorem cmX12_seenNow : CM XX12_seenNow EX12_seenNow fI 0 0 := CM.of rfl (by decide) rfl rfl sBX12_seenNow_0
theorem yoX12_seenNow : YO XX12_seenNow 1 0 0 := ⟨tw_1937, rfl, tw_12, (by decide +kernel), rfl, rfl⟩
abbrev XX12_seen : MX := (yX12_seen, cX12_seen, 3, (Option.some .int), Cond.code yX12_seen cX12_seen 3 (Option.some .int) :: WS, { frames := 3, cells := 0, slots := 0, locals := 67 })
def BX12_seen_22 : KT (Int32 × HP) :=
  oCal 2 (some 12) EX12_seenNow fI (oCal 2 (some 12) EX12_good fIH (oIretH))
set_option maxRecDepth 20000 in
theorem sBX12_seen_22 : Snd XX12_seen fIH 22 (BX12_seen_22) (0) (0) := by
  unfold BX12_seen_22
  refine s_cal0 25 (run_V (X := XX12_seen) rfl clX12 yoX12_seenNow rfl tw_1934 tw_1936 tw_p105 (by decide) dX12_seen_22) cmX12_seenNow (fun _ _ _ => rfl) rfl ?_
  refine s_cal0 28 (run_V (X := XX12_seen) rfl clX12 yoX12_good rfl tw_1678 tw_1680 tw_p76 (by decide) dX12_seen_25) cmX12_good (fun _ _ _ => rfl) rfl ?_
  refine s_goto 36 dX12_seen_28 (by decide) ?_
  exact s_iretH rfl dX12_seen_36
def BX12_seen_8 : KT (Int32 × HP) :=
  oCal 3 (some 12) EX12_isCell fZ (oIfeq (oAld 0 (oConst (.int 1) (oCal 2 (some 12) EX12_refused fIH (oIretH)))) (oAld 0 (oAld 0 (oAld 0 (oIld 1 (oIld 2 (oCal 3 (some 12) EX12_cellOf fI (oPick [] (BX12_seen_22)))))))))
set_option maxRecDepth 20000 in
theorem sBX12_seen_8 : Snd XX12_seen fIH 8 (BX12_seen_8) (0) (0) := by
  unfold BX12_seen_8
  refine s_cal0 11 (run_V (X := XX12_seen) rfl clX12 yoX12_isCell rfl tw_1694 tw_1696 tw_p77 (by decide) dX12_seen_8) cmX12_isCell (fun _ _ _ => rfl) rfl ?_
  refine s_ifeq 31 14 dX12_seen_11 (by decide) rfl ?_ ?_
  · refine s_Aldn 0 rfl 32 dX12_seen_31 rfl ?_
    refine s_iconst 33 1 (by decide) dX12_seen_32 rfl ?_
    refine s_cal0 36 (run_V (X := XX12_seen) rfl clX12 yoX12_refused rfl tw_1430 tw_1432 tw_p50 (by decide) dX12_seen_33) cmX12_refused (fun _ _ _ => rfl) rfl ?_
    exact s_iretH rfl dX12_seen_36
  · refine s_Aldn 0 rfl 15 dX12_seen_14 rfl ?_
    refine s_Aldn 0 rfl 16 dX12_seen_15 rfl ?_
    refine s_Aldn 0 rfl 17 dX12_seen_16 rfl ?_
    refine s_Ildn 1 rfl 18 dX12_seen_17 rfl ?_
    refine s_Ildn 2 rfl 19 dX12_seen_18 rfl ?_
    refine s_cal0 22 (run_V (X := XX12_seen) rfl clX12 yoX12_cellOf rfl tw_1698 tw_1700 tw_p78 (by decide) dX12_seen_19) cmX12_cellOf (fun _ _ _ => rfl) rfl ?_
    exact s_pick (sBX12_seen_22)
def BX12_seen_0 : KT (Int32 × HP) :=
  oAld 0 (oConst (.int 0) (oPut 12 0 .int (oAld 0 (oIld 1 (oIld 2 (oPick [0, 1, 2] (BX12_seen_8)))))))
set_option maxRecDepth 20000 in
theorem sBX12_seen_0 : Snd XX12_seen fIH 0 (BX12_seen_0) (0) (0) := by
  unfold BX12_seen_0
  refine s_Aldn 0 rfl 1 dX12_seen_0 rfl ?_
  refine s_iconst 2 0 (by decide) dX12_seen_1 rfl ?_
  refine s_put 12 0 5 clX12 (by decide) rfl rfl pIH tw_1288 dX12_seen_2 rfl ?_
  refine s_Aldn 0 rfl 6 dX12_seen_5 rfl ?_
  refine s_Ildn 1 rfl 7 dX12_seen_6 rfl ?_
  refine s_Ildn 2 rfl 8 dX12_seen_7 rfl ?_
  exact s_pick (sBX12_seen_8)
def EX12_seen : List Value → HP → Option (Int32 × HP) := en 3 BX12_seen_0
theorem cmX12_seen : CM XX12_seen EX12_seen fIH 0 0 := CM.of rfl (by decide) rfl rfl sBX12_seen_0
theorem yoX12_seen : YO XX12_seen 2 0 0 := ⟨tw_1933, rfl, tw_12, (by decide +kernel), rfl, rfl⟩
abbrev XX12_gatesSeen : MX := (yX12_gatesSeen, cX12_gatesSeen, 3, (Option.some .int), Cond.code yX12_gatesSeen cX12_gatesSeen 3 (Option.some .int) :: WS, { frames := 3, cells := 0, slots := 0, locals := 67 })
def BX12_gatesSeen_44 (k22 : KT (Int32 × HP)) : KT (Int32 × HP) :=
  oCal 2 (some 12) EX12_seenNow fI (oIfeq (oConst (.int 0) (oior (oIst 1 (oInc 2 1 (oPick [0, 1, 2] k22))))) (oConst (.int 1) (oIld 2 (oishl (oior (oIst 1 (oInc 2 1 (oPick [0, 1, 2] k22))))))))
set_option maxRecDepth 20000 in
theorem sBX12_gatesSeen_44 {k22 : KT (Int32 × HP)} (hk22 : Snd XX12_gatesSeen fIH 22 k22 0 0) : Snd XX12_gatesSeen fIH 44 (BX12_gatesSeen_44 k22) (0) (0) := by
  unfold BX12_gatesSeen_44
  refine s_cal0 47 (run_V (X := XX12_gatesSeen) rfl clX12 yoX12_seenNow rfl tw_1934 tw_1936 tw_p105 (by decide) dX12_gatesSeen_44) cmX12_seenNow (fun _ _ _ => rfl) rfl ?_
  refine s_ifeq 56 50 dX12_gatesSeen_47 (by decide) rfl ?_ ?_
  · refine s_iconst 57 0 (by decide) dX12_gatesSeen_56 rfl ?_
    refine s_ior 58 dX12_gatesSeen_57 rfl ?_
    refine s_Istn 1 rfl 59 (by decide) dX12_gatesSeen_58 rfl ?_
    refine s_inc 2 1 62 (by decide) (by decide) dX12_gatesSeen_59 rfl ?_
    refine s_goto 22 dX12_gatesSeen_62 (by decide) ?_
    exact s_pick hk22
  · refine s_iconst 51 1 (by decide) dX12_gatesSeen_50 rfl ?_
    refine s_Ildn 2 rfl 52 dX12_gatesSeen_51 rfl ?_
    refine s_ishl 53 dX12_gatesSeen_52 rfl ?_
    refine s_goto 57 dX12_gatesSeen_53 (by decide) ?_
    refine s_ior 58 dX12_gatesSeen_57 rfl ?_
    refine s_Istn 1 rfl 59 (by decide) dX12_gatesSeen_58 rfl ?_
    refine s_inc 2 1 62 (by decide) (by decide) dX12_gatesSeen_59 rfl ?_
    refine s_goto 22 dX12_gatesSeen_62 (by decide) ?_
    exact s_pick hk22
def BX12_gatesSeen_22 (k22 : KT (Int32 × HP)) : KT (Int32 × HP) :=
  oIld 2 (oAld 0 (oGet 12 3 (oGet 11 8 (oCmpge (oAld 0 (oIld 1 (oCal 2 (some 12) EX12_good fIH (oIretH)))) (oIld 1 (oAld 0 (oAld 0 (oGet 12 3 (oGet 11 18 (oIld 2 (oIa (oPick [0, 2] (BX12_gatesSeen_44 k22)))))))))))))
set_option maxRecDepth 20000 in
theorem sBX12_gatesSeen_22 {k22 : KT (Int32 × HP)} (hk22 : Snd XX12_gatesSeen fIH 22 k22 0 0) : Snd XX12_gatesSeen fIH 22 (BX12_gatesSeen_22 k22) (0) (0) := by
  unfold BX12_gatesSeen_22
  refine s_Ildn 2 rfl 23 dX12_gatesSeen_22 rfl ?_
  refine s_Aldn 0 rfl 24 dX12_gatesSeen_23 rfl ?_
  refine s_get 12 3 27 clX12 (by decide) tw_1291 dX12_gatesSeen_24 rfl ?_
  refine s_getN 11 8 30 clX11 (by decide) nw_50 dX12_gatesSeen_27 rfl ?_
  refine s_cmpge 65 33 dX12_gatesSeen_30 (by decide) rfl ?_ ?_
  · refine s_Aldn 0 rfl 66 dX12_gatesSeen_65 rfl ?_
    refine s_Ildn 1 rfl 67 dX12_gatesSeen_66 rfl ?_
    refine s_cal0 70 (run_V (X := XX12_gatesSeen) rfl clX12 yoX12_good rfl tw_1678 tw_1680 tw_p76 (by decide) dX12_gatesSeen_67) cmX12_good (fun _ _ _ => rfl) rfl ?_
    exact s_iretH rfl dX12_gatesSeen_70
  · refine s_Ildn 1 rfl 34 dX12_gatesSeen_33 rfl ?_
    refine s_Aldn 0 rfl 35 dX12_gatesSeen_34 rfl ?_
    refine s_Aldn 0 rfl 36 dX12_gatesSeen_35 rfl ?_
    refine s_get 12 3 39 clX12 (by decide) tw_1291 dX12_gatesSeen_36 rfl ?_
    refine s_getN 11 18 42 clX11 (by decide) nw_60 dX12_gatesSeen_39 rfl ?_
    refine s_Ildn 2 rfl 43 dX12_gatesSeen_42 rfl ?_
    refine s_Ia 44 dX12_gatesSeen_43 rfl ?_
    exact s_pick (sBX12_gatesSeen_44 hk22)
def BX12_gatesSeen_0 : KT (Int32 × HP) :=
  oAld 0 (oConst (.int 0) (oPut 12 0 .int (oAld 0 (oGet 12 3 (oNul (oAld 0 (oConst (.int 1) (oCal 2 (some 12) EX12_refused fIH (oIretH)))) (oConst (.int 0) (oIst 1 (oConst (.int 0) (oIst 2 (oPick [0, 1, 2] (lp (BX12_gatesSeen_22) FU)))))))))))
set_option maxRecDepth 20000 in
theorem sBX12_gatesSeen_0 : Snd XX12_gatesSeen fIH 0 (BX12_gatesSeen_0) (0) (0) := by
  unfold BX12_gatesSeen_0
  refine s_Aldn 0 rfl 1 dX12_gatesSeen_0 rfl ?_
  refine s_iconst 2 0 (by decide) dX12_gatesSeen_1 rfl ?_
  refine s_put 12 0 5 clX12 (by decide) rfl rfl pIH tw_1288 dX12_gatesSeen_2 rfl ?_
  refine s_Aldn 0 rfl 6 dX12_gatesSeen_5 rfl ?_
  refine s_get 12 3 9 clX12 (by decide) tw_1291 dX12_gatesSeen_6 rfl ?_
  refine s_ifnonnull 18 12 dX12_gatesSeen_9 (by decide) rfl ?_ ?_
  · refine s_iconst 19 0 (by decide) dX12_gatesSeen_18 rfl ?_
    refine s_Istn 1 rfl 20 (by decide) dX12_gatesSeen_19 rfl ?_
    refine s_iconst 21 0 (by decide) dX12_gatesSeen_20 rfl ?_
    refine s_Istn 2 rfl 22 (by decide) dX12_gatesSeen_21 rfl ?_
    exact s_pick (s_lp (fun k hk => sBX12_gatesSeen_22  hk) FU)
  · refine s_Aldn 0 rfl 13 dX12_gatesSeen_12 rfl ?_
    refine s_iconst 14 1 (by decide) dX12_gatesSeen_13 rfl ?_
    refine s_cal0 17 (run_V (X := XX12_gatesSeen) rfl clX12 yoX12_refused rfl tw_1430 tw_1432 tw_p50 (by decide) dX12_gatesSeen_14) cmX12_refused (fun _ _ _ => rfl) rfl ?_
    exact s_iretH rfl dX12_gatesSeen_17
def EX12_gatesSeen : List Value → HP → Option (Int32 × HP) := en 3 BX12_gatesSeen_0
theorem cmX12_gatesSeen : CM XX12_gatesSeen EX12_gatesSeen fIH 0 0 := CM.of rfl (by decide) rfl rfl sBX12_gatesSeen_0
theorem yoX12_gatesSeen : YO XX12_gatesSeen 0 0 0 := ⟨tw_1945, rfl, tw_12, (by decide +kernel), rfl, rfl⟩
abbrev XX12_placesNow : MX := (yX12_placesNow, cX12_placesNow, 5, (Option.some .long), Cond.code yX12_placesNow cX12_placesNow 5 (Option.some .long) :: WS, { frames := 3, cells := 0, slots := 0, locals := 70 })
def BX12_placesNow_38 (k7 : KT (Int64 × HP)) (k38 : KT (Int64 × HP)) : KT (Int64 × HP) :=
  oIld 4 (oAld 0 (oGet 12 3 (oCal 1 (some 11) EX11_cells fI (oCmpge (oInc 3 1 (oPick [0, 1, 3] k7)) (oAld 0 (oGet 12 22 (oIld 4 (oIa (oAld 0 (oGet 12 3 (oGet 11 19 (oIld 3 (oIa (oCmpeq (oInc 4 1 (oPick [0, 1, 3, 4] k38)) (oLld 1 (oConst (.long 1) (oIld 4 (olshl (oConst (.long (-1)) (olxor (oland (oLst 1 (oInc 4 1 (oPick [0, 1, 3, 4] k38))))))))))))))))))))))))
set_option maxRecDepth 20000 in
theorem sBX12_placesNow_38 {k7 : KT (Int64 × HP)} (hk7 : Snd XX12_placesNow fLH 7 k7 0 0) {k38 : KT (Int64 × HP)} (hk38 : Snd XX12_placesNow fLH 38 k38 0 0) : Snd XX12_placesNow fLH 38 (BX12_placesNow_38 k7 k38) (0) (0) := by
  unfold BX12_placesNow_38
  refine s_Ild 4 40 dX12_placesNow_38 rfl ?_
  refine s_Aldn 0 rfl 41 dX12_placesNow_40 rfl ?_
  refine s_get 12 3 44 clX12 (by decide) tw_1291 dX12_placesNow_41 rfl ?_
  refine s_cal0 47 (run_V (X := XX12_placesNow) rfl clX11 yoX11_cells rfl tw_1733 tw_1715 tw_1716 (by decide) dX12_placesNow_44) cmX11_cells (fun _ _ _ => rfl) rfl ?_
  refine s_cmpge 86 50 dX12_placesNow_47 (by decide) rfl ?_ ?_
  · refine s_inc 3 1 89 (by decide) (by decide) dX12_placesNow_86 rfl ?_
    refine s_goto 7 dX12_placesNow_89 (by decide) ?_
    exact s_pick hk7
  · refine s_Aldn 0 rfl 51 dX12_placesNow_50 rfl ?_
    refine s_get 12 22 54 clX12 (by decide) tw_1310 dX12_placesNow_51 rfl ?_
    refine s_Ild 4 56 dX12_placesNow_54 rfl ?_
    refine s_Ia 57 dX12_placesNow_56 rfl ?_
    refine s_Aldn 0 rfl 58 dX12_placesNow_57 rfl ?_
    refine s_get 12 3 61 clX12 (by decide) tw_1291 dX12_placesNow_58 rfl ?_
    refine s_getN 11 19 64 clX11 (by decide) nw_61 dX12_placesNow_61 rfl ?_
    refine s_Ildn 3 rfl 65 dX12_placesNow_64 rfl ?_
    refine s_Ia 66 dX12_placesNow_65 rfl ?_
    refine s_cmpeq 80 69 dX12_placesNow_66 (by decide) rfl ?_ ?_
    · refine s_inc 4 1 83 (by decide) (by decide) dX12_placesNow_80 rfl ?_
      refine s_goto 38 dX12_placesNow_83 (by decide) ?_
      exact s_pick hk38
    · refine s_Lldn 1 rfl 70 dX12_placesNow_69 rfl ?_
      refine s_lconst 71 1 (by decide) dX12_placesNow_70 rfl ?_
      refine s_Ild 4 73 dX12_placesNow_71 rfl ?_
      refine s_lshl 74 dX12_placesNow_73 rfl ?_
      refine s_ldc2 77 (-1) tw_1734 dX12_placesNow_74 rfl ?_
      refine s_lxor 78 dX12_placesNow_77 rfl ?_
      refine s_land 79 dX12_placesNow_78 rfl ?_
      refine s_Lstn 1 rfl 80 (by decide) dX12_placesNow_79 rfl ?_
      refine s_inc 4 1 83 (by decide) (by decide) dX12_placesNow_80 rfl ?_
      refine s_goto 38 dX12_placesNow_83 (by decide) ?_
      exact s_pick hk38
def BX12_placesNow_32 (k7 : KT (Int64 × HP)) : KT (Int64 × HP) :=
  oCal 3 (some 12) EX12_laysFar fVH (oConst (.int 0) (oIst 4 (oPick [0, 1, 3, 4] (lp (BX12_placesNow_38 k7) FU))))
set_option maxRecDepth 20000 in
theorem sBX12_placesNow_32 {k7 : KT (Int64 × HP)} (hk7 : Snd XX12_placesNow fLH 7 k7 0 0) : Snd XX12_placesNow fLH 32 (BX12_placesNow_32 k7) (0) (0) := by
  unfold BX12_placesNow_32
  refine s_cal0 35 (run_V (X := XX12_placesNow) rfl clX12 yoX12_laysFar rfl tw_1729 tw_1731 tw_p81 (by decide) dX12_placesNow_32) cmX12_laysFar (fun _ _ _ => rfl) rfl ?_
  refine s_iconst 36 0 (by decide) dX12_placesNow_35 rfl ?_
  refine s_Ist 4 38 (by decide) dX12_placesNow_36 rfl ?_
  exact s_pick (s_lp (fun k hk => sBX12_placesNow_38 hk7 hk) FU)
def BX12_placesNow_7 (k7 : KT (Int64 × HP)) : KT (Int64 × HP) :=
  oIld 3 (oAld 0 (oGet 12 3 (oGet 11 9 (oCmpge (oLld 1 (oLretH)) (oAld 0 (oAld 0 (oGet 12 20 (oAld 0 (oGet 12 3 (oGet 11 20 (oIld 3 (oIa (oPick [0, 1, 3] (BX12_placesNow_32 k7))))))))))))))
set_option maxRecDepth 20000 in
theorem sBX12_placesNow_7 {k7 : KT (Int64 × HP)} (hk7 : Snd XX12_placesNow fLH 7 k7 0 0) : Snd XX12_placesNow fLH 7 (BX12_placesNow_7 k7) (0) (0) := by
  unfold BX12_placesNow_7
  refine s_Ildn 3 rfl 8 dX12_placesNow_7 rfl ?_
  refine s_Aldn 0 rfl 9 dX12_placesNow_8 rfl ?_
  refine s_get 12 3 12 clX12 (by decide) tw_1291 dX12_placesNow_9 rfl ?_
  refine s_getN 11 9 15 clX11 (by decide) nw_51 dX12_placesNow_12 rfl ?_
  refine s_cmpge 92 18 dX12_placesNow_15 (by decide) rfl ?_ ?_
  · refine s_Lldn 1 rfl 93 dX12_placesNow_92 rfl ?_
    exact s_lretH rfl dX12_placesNow_93
  · refine s_Aldn 0 rfl 19 dX12_placesNow_18 rfl ?_
    refine s_Aldn 0 rfl 20 dX12_placesNow_19 rfl ?_
    refine s_get 12 20 23 clX12 (by decide) tw_1308 dX12_placesNow_20 rfl ?_
    refine s_Aldn 0 rfl 24 dX12_placesNow_23 rfl ?_
    refine s_get 12 3 27 clX12 (by decide) tw_1291 dX12_placesNow_24 rfl ?_
    refine s_getN 11 20 30 clX11 (by decide) nw_62 dX12_placesNow_27 rfl ?_
    refine s_Ildn 3 rfl 31 dX12_placesNow_30 rfl ?_
    refine s_Ia 32 dX12_placesNow_31 rfl ?_
    exact s_pick (sBX12_placesNow_32 hk7)
def BX12_placesNow_0 : KT (Int64 × HP) :=
  oAld 0 (oGet 12 20 (oLst 1 (oConst (.int 0) (oIst 3 (oPick [0, 1, 3] (lp (BX12_placesNow_7) FU))))))
set_option maxRecDepth 20000 in
theorem sBX12_placesNow_0 : Snd XX12_placesNow fLH 0 (BX12_placesNow_0) (0) (0) := by
  unfold BX12_placesNow_0
  refine s_Aldn 0 rfl 1 dX12_placesNow_0 rfl ?_
  refine s_get 12 20 4 clX12 (by decide) tw_1308 dX12_placesNow_1 rfl ?_
  refine s_Lstn 1 rfl 5 (by decide) dX12_placesNow_4 rfl ?_
  refine s_iconst 6 0 (by decide) dX12_placesNow_5 rfl ?_
  refine s_Istn 3 rfl 7 (by decide) dX12_placesNow_6 rfl ?_
  exact s_pick (s_lp (fun k hk => sBX12_placesNow_7  hk) FU)
def EX12_placesNow : List Value → HP → Option (Int64 × HP) := en 5 BX12_placesNow_0
theorem cmX12_placesNow : CM XX12_placesNow EX12_placesNow fLH 0 0 := CM.of rfl (by decide) rfl rfl sBX12_placesNow_0
theorem yoX12_placesNow : YO XX12_placesNow 0 0 0 := ⟨tw_1953, rfl, tw_12, (by decide +kernel), rfl, rfl⟩
abbrev XX12_places : MX := (yX12_places, cX12_places, 1, (Option.some .int), Cond.code yX12_places cX12_places 1 (Option.some .int) :: WS, { frames := 4, cells := 0, slots := 0, locals := 94 })
def BX12_places_25 : KT (Int32 × HP) :=
  oCal 1 none EX12_bits fI (oCal 2 (some 12) EX12_good fIH (oIretH))
set_option maxRecDepth 20000 in
theorem sBX12_places_25 : Snd XX12_places fIH 25 (BX12_places_25) (0) (0) := by
  unfold BX12_places_25
  refine s_cal0 28 (run_S (X := XX12_places) yoX12_bits tw_1675 tw_1676 (by decide) dX12_places_25) cmX12_bits (fun _ _ _ => rfl) rfl ?_
  refine s_cal0 31 (run_V (X := XX12_places) rfl clX12 yoX12_good rfl tw_1678 tw_1680 tw_p76 (by decide) dX12_places_28) cmX12_good (fun _ _ _ => rfl) rfl ?_
  exact s_iretH rfl dX12_places_31
def BX12_places_22 : KT (Int32 × HP) :=
  oCal 1 (some 12) EX12_placesNow fLH (oPick [] (BX12_places_25))
set_option maxRecDepth 20000 in
theorem sBX12_places_22 : Snd XX12_places fIH 22 (BX12_places_22) (0) (0) := by
  unfold BX12_places_22
  refine s_cal0 25 (run_V (X := XX12_places) rfl clX12 yoX12_placesNow rfl tw_1950 tw_1952 tw_p107 (by decide) dX12_places_22) cmX12_placesNow (fun _ _ _ => rfl) rfl ?_
  exact s_pick (sBX12_places_25)
def BX12_places_0 : KT (Int32 × HP) :=
  oAld 0 (oConst (.int 0) (oPut 12 0 .int (oAld 0 (oGet 12 3 (oNul (oAld 0 (oConst (.int 1) (oCal 2 (some 12) EX12_refused fIH (oIretH)))) (oAld 0 (oAld 0 (oPick [] (BX12_places_22)))))))))
set_option maxRecDepth 20000 in
theorem sBX12_places_0 : Snd XX12_places fIH 0 (BX12_places_0) (0) (0) := by
  unfold BX12_places_0
  refine s_Aldn 0 rfl 1 dX12_places_0 rfl ?_
  refine s_iconst 2 0 (by decide) dX12_places_1 rfl ?_
  refine s_put 12 0 5 clX12 (by decide) rfl rfl pIH tw_1288 dX12_places_2 rfl ?_
  refine s_Aldn 0 rfl 6 dX12_places_5 rfl ?_
  refine s_get 12 3 9 clX12 (by decide) tw_1291 dX12_places_6 rfl ?_
  refine s_ifnonnull 20 12 dX12_places_9 (by decide) rfl ?_ ?_
  · refine s_Aldn 0 rfl 21 dX12_places_20 rfl ?_
    refine s_Aldn 0 rfl 22 dX12_places_21 rfl ?_
    exact s_pick (sBX12_places_22)
  · refine s_Aldn 0 rfl 13 dX12_places_12 rfl ?_
    refine s_iconst 14 1 (by decide) dX12_places_13 rfl ?_
    refine s_cal0 17 (run_V (X := XX12_places) rfl clX12 yoX12_refused rfl tw_1430 tw_1432 tw_p50 (by decide) dX12_places_14) cmX12_refused (fun _ _ _ => rfl) rfl ?_
    refine s_goto 31 dX12_places_17 (by decide) ?_
    exact s_iretH rfl dX12_places_31
def EX12_places : List Value → HP → Option (Int32 × HP) := en 1 BX12_places_0
theorem cmX12_places : CM XX12_places EX12_places fIH 0 0 := CM.of rfl (by decide) rfl rfl sBX12_places_0
theorem yoX12_places : YO XX12_places 0 0 0 := ⟨tw_1949, rfl, tw_12, (by decide +kernel), rfl, rfl⟩
abbrev XX12_place : MX := (yX12_place, cX12_place, 5, (Option.some .int), Cond.code yX12_place cX12_place 5 (Option.some .int) :: WS, { frames := 4, cells := 0, slots := 0, locals := 94 })
def BX12_place_64 : KT (Int32 × HP) :=
  oCal 1 none EX12_first fI (oCal 2 (some 12) EX12_good fIH (oIretH))
set_option maxRecDepth 20000 in
theorem sBX12_place_64 : Snd XX12_place fIH 64 (BX12_place_64) (0) (0) := by
  unfold BX12_place_64
  refine s_cal0 67 (run_S (X := XX12_place) yoX12_first tw_1726 tw_1727 (by decide) dX12_place_64) cmX12_first (fun _ _ _ => rfl) rfl ?_
  refine s_cal0 70 (run_V (X := XX12_place) rfl clX12 yoX12_good rfl tw_1678 tw_1680 tw_p76 (by decide) dX12_place_67) cmX12_good (fun _ _ _ => rfl) rfl ?_
  exact s_iretH rfl dX12_place_70
def BX12_place_44 (k44 : KT (Int32 × HP)) : KT (Int32 × HP) :=
  oIld 4 (oIld 1 (oCmpge (oAld 0 (oLld 2 (oPick [] (BX12_place_64)))) (oLld 2 (oLld 2 (oConst (.long 1) (olsub (oland (oLst 2 (oInc 4 1 (oPick [0, 1, 2, 4] k44))))))))))
set_option maxRecDepth 20000 in
theorem sBX12_place_44 {k44 : KT (Int32 × HP)} (hk44 : Snd XX12_place fIH 44 k44 0 0) : Snd XX12_place fIH 44 (BX12_place_44 k44) (0) (0) := by
  unfold BX12_place_44
  refine s_Ild 4 46 dX12_place_44 rfl ?_
  refine s_Ildn 1 rfl 47 dX12_place_46 rfl ?_
  refine s_cmpge 62 50 dX12_place_47 (by decide) rfl ?_ ?_
  · refine s_Aldn 0 rfl 63 dX12_place_62 rfl ?_
    refine s_Lldn 2 rfl 64 dX12_place_63 rfl ?_
    exact s_pick (sBX12_place_64)
  · refine s_Lldn 2 rfl 51 dX12_place_50 rfl ?_
    refine s_Lldn 2 rfl 52 dX12_place_51 rfl ?_
    refine s_lconst 53 1 (by decide) dX12_place_52 rfl ?_
    refine s_lsub 54 dX12_place_53 rfl ?_
    refine s_land 55 dX12_place_54 rfl ?_
    refine s_Lstn 2 rfl 56 (by decide) dX12_place_55 rfl ?_
    refine s_inc 4 1 59 (by decide) (by decide) dX12_place_56 rfl ?_
    refine s_goto 44 dX12_place_59 (by decide) ?_
    exact s_pick hk44
def BX12_place_29 : KT (Int32 × HP) :=
  oCal 1 none EX12_bits fI (oCmplt (oConst (.int 0) (oIst 4 (oPick [0, 1, 2, 4] (lp (BX12_place_44) FU)))) (oAld 0 (oConst (.int 1) (oCal 2 (some 12) EX12_refused fIH (oIretH)))))
set_option maxRecDepth 20000 in
theorem sBX12_place_29 : Snd XX12_place fIH 29 (BX12_place_29) (0) (0) := by
  unfold BX12_place_29
  refine s_cal0 32 (run_S (X := XX12_place) yoX12_bits tw_1675 tw_1676 (by decide) dX12_place_29) cmX12_bits (fun _ _ _ => rfl) rfl ?_
  refine s_cmplt 41 35 dX12_place_32 (by decide) rfl ?_ ?_
  · refine s_iconst 42 0 (by decide) dX12_place_41 rfl ?_
    refine s_Ist 4 44 (by decide) dX12_place_42 rfl ?_
    exact s_pick (s_lp (fun k hk => sBX12_place_44  hk) FU)
  · refine s_Aldn 0 rfl 36 dX12_place_35 rfl ?_
    refine s_iconst 37 1 (by decide) dX12_place_36 rfl ?_
    refine s_cal0 40 (run_V (X := XX12_place) rfl clX12 yoX12_refused rfl tw_1430 tw_1432 tw_p50 (by decide) dX12_place_37) cmX12_refused (fun _ _ _ => rfl) rfl ?_
    exact s_iretH rfl dX12_place_40
def BX12_place_19 : KT (Int32 × HP) :=
  oCal 1 (some 12) EX12_placesNow fLH (oLst 2 (oIld 1 (oIflt (oAld 0 (oConst (.int 1) (oCal 2 (some 12) EX12_refused fIH (oIretH)))) (oIld 1 (oLld 2 (oPick [0, 1, 2] (BX12_place_29)))))))
set_option maxRecDepth 20000 in
theorem sBX12_place_19 : Snd XX12_place fIH 19 (BX12_place_19) (0) (0) := by
  unfold BX12_place_19
  refine s_cal0 22 (run_V (X := XX12_place) rfl clX12 yoX12_placesNow rfl tw_1950 tw_1952 tw_p107 (by decide) dX12_place_19) cmX12_placesNow (fun _ _ _ => rfl) rfl ?_
  refine s_Lstn 2 rfl 23 (by decide) dX12_place_22 rfl ?_
  refine s_Ildn 1 rfl 24 dX12_place_23 rfl ?_
  refine s_iflt 35 27 dX12_place_24 (by decide) rfl ?_ ?_
  · refine s_Aldn 0 rfl 36 dX12_place_35 rfl ?_
    refine s_iconst 37 1 (by decide) dX12_place_36 rfl ?_
    refine s_cal0 40 (run_V (X := XX12_place) rfl clX12 yoX12_refused rfl tw_1430 tw_1432 tw_p50 (by decide) dX12_place_37) cmX12_refused (fun _ _ _ => rfl) rfl ?_
    exact s_iretH rfl dX12_place_40
  · refine s_Ildn 1 rfl 28 dX12_place_27 rfl ?_
    refine s_Lldn 2 rfl 29 dX12_place_28 rfl ?_
    exact s_pick (sBX12_place_29)
def BX12_place_0 : KT (Int32 × HP) :=
  oAld 0 (oConst (.int 0) (oPut 12 0 .int (oAld 0 (oGet 12 3 (oNul (oAld 0 (oConst (.int 1) (oCal 2 (some 12) EX12_refused fIH (oIretH)))) (oAld 0 (oPick [0, 1] (BX12_place_19))))))))
set_option maxRecDepth 20000 in
theorem sBX12_place_0 : Snd XX12_place fIH 0 (BX12_place_0) (0) (0) := by
  unfold BX12_place_0
  refine s_Aldn 0 rfl 1 dX12_place_0 rfl ?_
  refine s_iconst 2 0 (by decide) dX12_place_1 rfl ?_
  refine s_put 12 0 5 clX12 (by decide) rfl rfl pIH tw_1288 dX12_place_2 rfl ?_
  refine s_Aldn 0 rfl 6 dX12_place_5 rfl ?_
  refine s_get 12 3 9 clX12 (by decide) tw_1291 dX12_place_6 rfl ?_
  refine s_ifnonnull 18 12 dX12_place_9 (by decide) rfl ?_ ?_
  · refine s_Aldn 0 rfl 19 dX12_place_18 rfl ?_
    exact s_pick (sBX12_place_19)
  · refine s_Aldn 0 rfl 13 dX12_place_12 rfl ?_
    refine s_iconst 14 1 (by decide) dX12_place_13 rfl ?_
    refine s_cal0 17 (run_V (X := XX12_place) rfl clX12 yoX12_refused rfl tw_1430 tw_1432 tw_p50 (by decide) dX12_place_14) cmX12_refused (fun _ _ _ => rfl) rfl ?_
    exact s_iretH rfl dX12_place_17
def EX12_place : List Value → HP → Option (Int32 × HP) := en 5 BX12_place_0
theorem cmX12_place : CM XX12_place EX12_place fIH 0 0 := CM.of rfl (by decide) rfl rfl sBX12_place_0
theorem yoX12_place : YO XX12_place 1 0 0 := ⟨tw_1957, rfl, tw_12, (by decide +kernel), rfl, rfl⟩
abbrev XX12_bestNow : MX := (yX12_bestNow, cX12_bestNow, 4, (Option.some .int), Cond.code yX12_bestNow cX12_bestNow 4 (Option.some .int) :: WS, { frames := 7, cells := 0, slots := 0, locals := 160 })
def BX12_bestNow_51 (k5 : KT (Int32 × HP)) : KT (Int32 × HP) :=
  oCal 1 (some 12) EX12_paidNow fIH (oIst 3 (oAld 0 (odup (oGet 12 20 (oConst (.long 1) (oIld 2 (olshl (olxor (oPut 12 20 .long (oAld 0 (oGet 12 33 (oIfne (oInc 2 1 (oPick [0, 1, 2] k5)) (oIld 1 (oConst (.int (-2)) (oCmpeq (oIld 2 (oIst 1 (oAld 0 (oIld 3 (oPut 12 36 .int (oInc 2 1 (oPick [0, 1, 2] k5))))))) (oIld 3 (oAld 0 (oGet 12 36 (oCmpgt (oIld 2 (oIst 1 (oAld 0 (oIld 3 (oPut 12 36 .int (oInc 2 1 (oPick [0, 1, 2] k5))))))) (oInc 2 1 (oPick [0, 1, 2] k5)))))))))))))))))))))
set_option maxRecDepth 20000 in
theorem sBX12_bestNow_51 {k5 : KT (Int32 × HP)} (hk5 : Snd XX12_bestNow fIH 5 k5 0 0) : Snd XX12_bestNow fIH 51 (BX12_bestNow_51 k5) (0) (0) := by
  unfold BX12_bestNow_51
  refine s_cal0 54 (run_V (X := XX12_bestNow) rfl clX12 yoX12_paidNow rfl tw_1854 tw_1856 tw_p96 (by decide) dX12_bestNow_51) cmX12_paidNow (fun _ _ _ => rfl) rfl ?_
  refine s_Istn 3 rfl 55 (by decide) dX12_bestNow_54 rfl ?_
  refine s_Aldn 0 rfl 56 dX12_bestNow_55 rfl ?_
  refine s_dup 57 dX12_bestNow_56 rfl ?_
  refine s_get 12 20 60 clX12 (by decide) tw_1308 dX12_bestNow_57 rfl ?_
  refine s_lconst 61 1 (by decide) dX12_bestNow_60 rfl ?_
  refine s_Ildn 2 rfl 62 dX12_bestNow_61 rfl ?_
  refine s_lshl 63 dX12_bestNow_62 rfl ?_
  refine s_lxor 64 dX12_bestNow_63 rfl ?_
  refine s_put 12 20 67 clX12 (by decide) rfl rfl pIH tw_1308 dX12_bestNow_64 rfl ?_
  refine s_Aldn 0 rfl 68 dX12_bestNow_67 rfl ?_
  refine s_get 12 33 71 clX12 (by decide) tw_1321 dX12_bestNow_68 rfl ?_
  refine s_ifne 98 74 dX12_bestNow_71 (by decide) rfl ?_ ?_
  · refine s_inc 2 1 101 (by decide) (by decide) dX12_bestNow_98 rfl ?_
    refine s_goto 5 dX12_bestNow_101 (by decide) ?_
    exact s_pick hk5
  · refine s_Ildn 1 rfl 75 dX12_bestNow_74 rfl ?_
    refine s_bipush 77 (-2) (by decide) dX12_bestNow_75 rfl ?_
    refine s_cmpeq 91 80 dX12_bestNow_77 (by decide) rfl ?_ ?_
    · refine s_Ildn 2 rfl 92 dX12_bestNow_91 rfl ?_
      refine s_Istn 1 rfl 93 (by decide) dX12_bestNow_92 rfl ?_
      refine s_Aldn 0 rfl 94 dX12_bestNow_93 rfl ?_
      refine s_Ildn 3 rfl 95 dX12_bestNow_94 rfl ?_
      refine s_put 12 36 98 clX12 (by decide) rfl rfl pIH tw_1324 dX12_bestNow_95 rfl ?_
      refine s_inc 2 1 101 (by decide) (by decide) dX12_bestNow_98 rfl ?_
      refine s_goto 5 dX12_bestNow_101 (by decide) ?_
      exact s_pick hk5
    · refine s_Ildn 3 rfl 81 dX12_bestNow_80 rfl ?_
      refine s_Aldn 0 rfl 82 dX12_bestNow_81 rfl ?_
      refine s_get 12 36 85 clX12 (by decide) tw_1324 dX12_bestNow_82 rfl ?_
      refine s_cmpgt 91 88 dX12_bestNow_85 (by decide) rfl ?_ ?_
      · refine s_Ildn 2 rfl 92 dX12_bestNow_91 rfl ?_
        refine s_Istn 1 rfl 93 (by decide) dX12_bestNow_92 rfl ?_
        refine s_Aldn 0 rfl 94 dX12_bestNow_93 rfl ?_
        refine s_Ildn 3 rfl 95 dX12_bestNow_94 rfl ?_
        refine s_put 12 36 98 clX12 (by decide) rfl rfl pIH tw_1324 dX12_bestNow_95 rfl ?_
        refine s_inc 2 1 101 (by decide) (by decide) dX12_bestNow_98 rfl ?_
        refine s_goto 5 dX12_bestNow_101 (by decide) ?_
        exact s_pick hk5
      · refine s_goto 98 dX12_bestNow_88 (by decide) ?_
        refine s_inc 2 1 101 (by decide) (by decide) dX12_bestNow_98 rfl ?_
        refine s_goto 5 dX12_bestNow_101 (by decide) ?_
        exact s_pick hk5
def BX12_bestNow_29 (k5 : KT (Int32 × HP)) : KT (Int32 × HP) :=
  oCal 2 (some 11) EX11_isStart fZ (oIfeq (oAld 0 (odup (oGet 12 20 (oConst (.long 1) (oIld 2 (olshl (olxor (oPut 12 20 .long (oAld 0 (oPick [0, 1, 2] (BX12_bestNow_51 k5))))))))))) (oInc 2 1 (oPick [0, 1, 2] k5)))
set_option maxRecDepth 20000 in
theorem sBX12_bestNow_29 {k5 : KT (Int32 × HP)} (hk5 : Snd XX12_bestNow fIH 5 k5 0 0) : Snd XX12_bestNow fIH 29 (BX12_bestNow_29 k5) (0) (0) := by
  unfold BX12_bestNow_29
  refine s_cal0 32 (run_V (X := XX12_bestNow) rfl clX11 yoX11_isStart rfl tw_1966 tw_1967 tw_1968 (by decide) dX12_bestNow_29) cmX11_isStart (fun _ _ _ => rfl) rfl ?_
  refine s_ifeq 38 35 dX12_bestNow_32 (by decide) rfl ?_ ?_
  · refine s_Aldn 0 rfl 39 dX12_bestNow_38 rfl ?_
    refine s_dup 40 dX12_bestNow_39 rfl ?_
    refine s_get 12 20 43 clX12 (by decide) tw_1308 dX12_bestNow_40 rfl ?_
    refine s_lconst 44 1 (by decide) dX12_bestNow_43 rfl ?_
    refine s_Ildn 2 rfl 45 dX12_bestNow_44 rfl ?_
    refine s_lshl 46 dX12_bestNow_45 rfl ?_
    refine s_lxor 47 dX12_bestNow_46 rfl ?_
    refine s_put 12 20 50 clX12 (by decide) rfl rfl pIH tw_1308 dX12_bestNow_47 rfl ?_
    refine s_Aldn 0 rfl 51 dX12_bestNow_50 rfl ?_
    exact s_pick (sBX12_bestNow_51 hk5)
  · refine s_goto 98 dX12_bestNow_35 (by decide) ?_
    refine s_inc 2 1 101 (by decide) (by decide) dX12_bestNow_98 rfl ?_
    refine s_goto 5 dX12_bestNow_101 (by decide) ?_
    exact s_pick hk5
def BX12_bestNow_18 (k5 : KT (Int32 × HP)) : KT (Int32 × HP) :=
  oCal 2 (some 12) EX12_isGate fZ (oIfne (oInc 2 1 (oPick [0, 1, 2] k5)) (oAld 0 (oGet 12 3 (oIld 2 (oPick [0, 1, 2] (BX12_bestNow_29 k5))))))
set_option maxRecDepth 20000 in
theorem sBX12_bestNow_18 {k5 : KT (Int32 × HP)} (hk5 : Snd XX12_bestNow fIH 5 k5 0 0) : Snd XX12_bestNow fIH 18 (BX12_bestNow_18 k5) (0) (0) := by
  unfold BX12_bestNow_18
  refine s_cal0 21 (run_V (X := XX12_bestNow) rfl clX12 yoX12_isGate rfl tw_1810 tw_1812 tw_p93 (by decide) dX12_bestNow_18) cmX12_isGate (fun _ _ _ => rfl) rfl ?_
  refine s_ifne 98 24 dX12_bestNow_21 (by decide) rfl ?_ ?_
  · refine s_inc 2 1 101 (by decide) (by decide) dX12_bestNow_98 rfl ?_
    refine s_goto 5 dX12_bestNow_101 (by decide) ?_
    exact s_pick hk5
  · refine s_Aldn 0 rfl 25 dX12_bestNow_24 rfl ?_
    refine s_get 12 3 28 clX12 (by decide) tw_1291 dX12_bestNow_25 rfl ?_
    refine s_Ildn 2 rfl 29 dX12_bestNow_28 rfl ?_
    exact s_pick (sBX12_bestNow_29 hk5)
def BX12_bestNow_5 (k5 : KT (Int32 × HP)) : KT (Int32 × HP) :=
  oIld 2 (oAld 0 (oGet 12 3 (oCal 1 (some 11) EX11_cells fI (oCmpge (oIld 1 (oIretH)) (oAld 0 (oIld 2 (oPick [0, 1, 2] (BX12_bestNow_18 k5))))))))
set_option maxRecDepth 20000 in
theorem sBX12_bestNow_5 {k5 : KT (Int32 × HP)} (hk5 : Snd XX12_bestNow fIH 5 k5 0 0) : Snd XX12_bestNow fIH 5 (BX12_bestNow_5 k5) (0) (0) := by
  unfold BX12_bestNow_5
  refine s_Ildn 2 rfl 6 dX12_bestNow_5 rfl ?_
  refine s_Aldn 0 rfl 7 dX12_bestNow_6 rfl ?_
  refine s_get 12 3 10 clX12 (by decide) tw_1291 dX12_bestNow_7 rfl ?_
  refine s_cal0 13 (run_V (X := XX12_bestNow) rfl clX11 yoX11_cells rfl tw_1733 tw_1715 tw_1716 (by decide) dX12_bestNow_10) cmX11_cells (fun _ _ _ => rfl) rfl ?_
  refine s_cmpge 104 16 dX12_bestNow_13 (by decide) rfl ?_ ?_
  · refine s_Ildn 1 rfl 105 dX12_bestNow_104 rfl ?_
    exact s_iretH rfl dX12_bestNow_105
  · refine s_Aldn 0 rfl 17 dX12_bestNow_16 rfl ?_
    refine s_Ildn 2 rfl 18 dX12_bestNow_17 rfl ?_
    exact s_pick (sBX12_bestNow_18 hk5)
def BX12_bestNow_0 : KT (Int32 × HP) :=
  oConst (.int (-2)) (oIst 1 (oConst (.int 0) (oIst 2 (oPick [0, 1, 2] (lp (BX12_bestNow_5) FU)))))
set_option maxRecDepth 20000 in
theorem sBX12_bestNow_0 : Snd XX12_bestNow fIH 0 (BX12_bestNow_0) (0) (0) := by
  unfold BX12_bestNow_0
  refine s_bipush 2 (-2) (by decide) dX12_bestNow_0 rfl ?_
  refine s_Istn 1 rfl 3 (by decide) dX12_bestNow_2 rfl ?_
  refine s_iconst 4 0 (by decide) dX12_bestNow_3 rfl ?_
  refine s_Istn 2 rfl 5 (by decide) dX12_bestNow_4 rfl ?_
  exact s_pick (s_lp (fun k hk => sBX12_bestNow_5  hk) FU)
def EX12_bestNow : List Value → HP → Option (Int32 × HP) := en 4 BX12_bestNow_0
theorem cmX12_bestNow : CM XX12_bestNow EX12_bestNow fIH 0 0 := CM.of rfl (by decide) rfl rfl sBX12_bestNow_0
theorem yoX12_bestNow : YO XX12_bestNow 0 0 0 := ⟨tw_1965, rfl, tw_12, (by decide +kernel), rfl, rfl⟩
abbrev XX12_best : MX := (yX12_best, cX12_best, 1, (Option.some .int), Cond.code yX12_best cX12_best 1 (Option.some .int) :: WS, { frames := 8, cells := 0, slots := 0, locals := 183 })
def BX12_best_22 : KT (Int32 × HP) :=
  oCal 1 (some 12) EX12_bestNow fIH (oCal 2 (some 12) EX12_good fIH (oIretH))
set_option maxRecDepth 20000 in
theorem sBX12_best_22 : Snd XX12_best fIH 22 (BX12_best_22) (0) (0) := by
  unfold BX12_best_22
  refine s_cal0 25 (run_V (X := XX12_best) rfl clX12 yoX12_bestNow rfl tw_1962 tw_1964 tw_p108 (by decide) dX12_best_22) cmX12_bestNow (fun _ _ _ => rfl) rfl ?_
  refine s_cal0 28 (run_V (X := XX12_best) rfl clX12 yoX12_good rfl tw_1678 tw_1680 tw_p76 (by decide) dX12_best_25) cmX12_good (fun _ _ _ => rfl) rfl ?_
  exact s_iretH rfl dX12_best_28
def BX12_best_0 : KT (Int32 × HP) :=
  oAld 0 (oConst (.int 0) (oPut 12 0 .int (oAld 0 (oGet 12 3 (oNul (oAld 0 (oConst (.int 1) (oCal 2 (some 12) EX12_refused fIH (oIretH)))) (oAld 0 (oAld 0 (oPick [] (BX12_best_22)))))))))
set_option maxRecDepth 20000 in
theorem sBX12_best_0 : Snd XX12_best fIH 0 (BX12_best_0) (0) (0) := by
  unfold BX12_best_0
  refine s_Aldn 0 rfl 1 dX12_best_0 rfl ?_
  refine s_iconst 2 0 (by decide) dX12_best_1 rfl ?_
  refine s_put 12 0 5 clX12 (by decide) rfl rfl pIH tw_1288 dX12_best_2 rfl ?_
  refine s_Aldn 0 rfl 6 dX12_best_5 rfl ?_
  refine s_get 12 3 9 clX12 (by decide) tw_1291 dX12_best_6 rfl ?_
  refine s_ifnonnull 20 12 dX12_best_9 (by decide) rfl ?_ ?_
  · refine s_Aldn 0 rfl 21 dX12_best_20 rfl ?_
    refine s_Aldn 0 rfl 22 dX12_best_21 rfl ?_
    exact s_pick (sBX12_best_22)
  · refine s_Aldn 0 rfl 13 dX12_best_12 rfl ?_
    refine s_iconst 14 1 (by decide) dX12_best_13 rfl ?_
    refine s_cal0 17 (run_V (X := XX12_best) rfl clX12 yoX12_refused rfl tw_1430 tw_1432 tw_p50 (by decide) dX12_best_14) cmX12_refused (fun _ _ _ => rfl) rfl ?_
    refine s_goto 28 dX12_best_17 (by decide) ?_
    exact s_iretH rfl dX12_best_28
def EX12_best : List Value → HP → Option (Int32 × HP) := en 1 BX12_best_0
theorem cmX12_best : CM XX12_best EX12_best fIH 0 0 := CM.of rfl (by decide) rfl rfl sBX12_best_0
theorem yoX12_best : YO XX12_best 0 0 0 := ⟨tw_1961, rfl, tw_12, (by decide +kernel), rfl, rfl⟩
abbrev XX12_bestPaid : MX := (yX12_bestPaid, cX12_bestPaid, 1, (Option.some .int), Cond.code yX12_bestPaid cX12_bestPaid 1 (Option.some .int) :: WS, { frames := 8, cells := 0, slots := 0, locals := 183 })
def BX12_bestPaid_19 : KT (Int32 × HP) :=
  oCal 1 (some 12) EX12_bestNow fIH (oConst (.int (-2)) (oCmpne (oAld 0 (oAld 0 (oGet 12 36 (oCal 2 (some 12) EX12_good fIH (oIretH))))) (oAld 0 (oConst (.int 6) (oCal 2 (some 12) EX12_refused fIH (oIretH))))))
set_option maxRecDepth 20000 in
theorem sBX12_bestPaid_19 : Snd XX12_bestPaid fIH 19 (BX12_bestPaid_19) (0) (0) := by
  unfold BX12_bestPaid_19
  refine s_cal0 22 (run_V (X := XX12_bestPaid) rfl clX12 yoX12_bestNow rfl tw_1962 tw_1964 tw_p108 (by decide) dX12_bestPaid_19) cmX12_bestNow (fun _ _ _ => rfl) rfl ?_
  refine s_bipush 24 (-2) (by decide) dX12_bestPaid_22 rfl ?_
  refine s_cmpne 36 27 dX12_bestPaid_24 (by decide) rfl ?_ ?_
  · refine s_Aldn 0 rfl 37 dX12_bestPaid_36 rfl ?_
    refine s_Aldn 0 rfl 38 dX12_bestPaid_37 rfl ?_
    refine s_get 12 36 41 clX12 (by decide) tw_1324 dX12_bestPaid_38 rfl ?_
    refine s_cal0 44 (run_V (X := XX12_bestPaid) rfl clX12 yoX12_good rfl tw_1678 tw_1680 tw_p76 (by decide) dX12_bestPaid_41) cmX12_good (fun _ _ _ => rfl) rfl ?_
    exact s_iretH rfl dX12_bestPaid_44
  · refine s_Aldn 0 rfl 28 dX12_bestPaid_27 rfl ?_
    refine s_bipush 30 6 (by decide) dX12_bestPaid_28 rfl ?_
    refine s_cal0 33 (run_V (X := XX12_bestPaid) rfl clX12 yoX12_refused rfl tw_1430 tw_1432 tw_p50 (by decide) dX12_bestPaid_30) cmX12_refused (fun _ _ _ => rfl) rfl ?_
    refine s_goto 44 dX12_bestPaid_33 (by decide) ?_
    exact s_iretH rfl dX12_bestPaid_44
def BX12_bestPaid_0 : KT (Int32 × HP) :=
  oAld 0 (oConst (.int 0) (oPut 12 0 .int (oAld 0 (oGet 12 3 (oNul (oAld 0 (oConst (.int 1) (oCal 2 (some 12) EX12_refused fIH (oIretH)))) (oAld 0 (oPick [0] (BX12_bestPaid_19))))))))
set_option maxRecDepth 20000 in
theorem sBX12_bestPaid_0 : Snd XX12_bestPaid fIH 0 (BX12_bestPaid_0) (0) (0) := by
  unfold BX12_bestPaid_0
  refine s_Aldn 0 rfl 1 dX12_bestPaid_0 rfl ?_
  refine s_iconst 2 0 (by decide) dX12_bestPaid_1 rfl ?_
  refine s_put 12 0 5 clX12 (by decide) rfl rfl pIH tw_1288 dX12_bestPaid_2 rfl ?_
  refine s_Aldn 0 rfl 6 dX12_bestPaid_5 rfl ?_
  refine s_get 12 3 9 clX12 (by decide) tw_1291 dX12_bestPaid_6 rfl ?_
  refine s_ifnonnull 18 12 dX12_bestPaid_9 (by decide) rfl ?_ ?_
  · refine s_Aldn 0 rfl 19 dX12_bestPaid_18 rfl ?_
    exact s_pick (sBX12_bestPaid_19)
  · refine s_Aldn 0 rfl 13 dX12_bestPaid_12 rfl ?_
    refine s_iconst 14 1 (by decide) dX12_bestPaid_13 rfl ?_
    refine s_cal0 17 (run_V (X := XX12_bestPaid) rfl clX12 yoX12_refused rfl tw_1430 tw_1432 tw_p50 (by decide) dX12_bestPaid_14) cmX12_refused (fun _ _ _ => rfl) rfl ?_
    exact s_iretH rfl dX12_bestPaid_17
def EX12_bestPaid : List Value → HP → Option (Int32 × HP) := en 1 BX12_bestPaid_0
theorem cmX12_bestPaid : CM XX12_bestPaid EX12_bestPaid fIH 0 0 := CM.of rfl (by decide) rfl rfl sBX12_bestPaid_0
theorem yoX12_bestPaid : YO XX12_bestPaid 0 0 0 := ⟨tw_1973, rfl, tw_12, (by decide +kernel), rfl, rfl⟩
abbrev XX12_keeps : MX := (yX12_keeps, cX12_keeps, 2, none, Cond.code yX12_keeps cX12_keeps 2 none :: WS, { frames := 0, cells := 0, slots := 0, locals := 0 })
def BX12_keeps_63 : KT HP :=
  oAld 0 (oGet 12 37 (oAld 0 (oGet 12 41 (oAld 0 (oGet 12 20 (oJw (oAld 0 (oGet 12 39 (oAld 0 (oGet 12 41 (oAld 0 (oGet 12 21 (oIw (oAld 0 (odup (oGet 12 41 (oConst (.int 1) (oiadd (oPut 12 41 .int (oVretH))))))))))))))))))))
set_option maxRecDepth 20000 in
theorem sBX12_keeps_63 : Snd XX12_keeps fVH 63 (BX12_keeps_63) (0) (0) := by
  unfold BX12_keeps_63
  refine s_Aldn 0 rfl 64 dX12_keeps_63 rfl ?_
  refine s_get 12 37 67 clX12 (by decide) tw_1325 dX12_keeps_64 rfl ?_
  refine s_Aldn 0 rfl 68 dX12_keeps_67 rfl ?_
  refine s_get 12 41 71 clX12 (by decide) tw_1329 dX12_keeps_68 rfl ?_
  refine s_Aldn 0 rfl 72 dX12_keeps_71 rfl ?_
  refine s_get 12 20 75 clX12 (by decide) tw_1308 dX12_keeps_72 rfl ?_
  refine s_Jw 76 pVH dX12_keeps_75 rfl ?_
  refine s_Aldn 0 rfl 77 dX12_keeps_76 rfl ?_
  refine s_get 12 39 80 clX12 (by decide) tw_1327 dX12_keeps_77 rfl ?_
  refine s_Aldn 0 rfl 81 dX12_keeps_80 rfl ?_
  refine s_get 12 41 84 clX12 (by decide) tw_1329 dX12_keeps_81 rfl ?_
  refine s_Aldn 0 rfl 85 dX12_keeps_84 rfl ?_
  refine s_get 12 21 88 clX12 (by decide) tw_1309 dX12_keeps_85 rfl ?_
  refine s_Iw 89 pVH dX12_keeps_88 rfl ?_
  refine s_Aldn 0 rfl 90 dX12_keeps_89 rfl ?_
  refine s_dup 91 dX12_keeps_90 rfl ?_
  refine s_get 12 41 94 clX12 (by decide) tw_1329 dX12_keeps_91 rfl ?_
  refine s_iconst 95 1 (by decide) dX12_keeps_94 rfl ?_
  refine s_iadd 96 dX12_keeps_95 rfl ?_
  refine s_put 12 41 99 clX12 (by decide) rfl rfl pVH tw_1329 dX12_keeps_96 rfl ?_
  exact s_vretH rfl dX12_keeps_99
def BX12_keeps_11 (k11 : KT HP) : KT HP :=
  oIld 1 (oConst (.int 1) (oiadd (oConst (.int 20) (oCmpge (oAld 0 (odup (oGet 12 41 (oConst (.int 1) (oisub (oPut 12 41 .int (oPick [0] (BX12_keeps_63)))))))) (oAld 0 (oGet 12 37 (oIld 1 (oAld 0 (oGet 12 37 (oIld 1 (oConst (.int 1) (oiadd (oJa (oJw (oAld 0 (oGet 12 39 (oIld 1 (oAld 0 (oGet 12 39 (oIld 1 (oConst (.int 1) (oiadd (oIa (oIw (oInc 1 1 (oPick [0, 1] k11))))))))))))))))))))))))))
set_option maxRecDepth 20000 in
theorem sBX12_keeps_11 {k11 : KT HP} (hk11 : Snd XX12_keeps fVH 11 k11 0 0) : Snd XX12_keeps fVH 11 (BX12_keeps_11 k11) (0) (0) := by
  unfold BX12_keeps_11
  refine s_Ildn 1 rfl 12 dX12_keeps_11 rfl ?_
  refine s_iconst 13 1 (by decide) dX12_keeps_12 rfl ?_
  refine s_iadd 14 dX12_keeps_13 rfl ?_
  refine s_bipush 16 20 (by decide) dX12_keeps_14 rfl ?_
  refine s_cmpge 53 19 dX12_keeps_16 (by decide) rfl ?_ ?_
  · refine s_Aldn 0 rfl 54 dX12_keeps_53 rfl ?_
    refine s_dup 55 dX12_keeps_54 rfl ?_
    refine s_get 12 41 58 clX12 (by decide) tw_1329 dX12_keeps_55 rfl ?_
    refine s_iconst 59 1 (by decide) dX12_keeps_58 rfl ?_
    refine s_isub 60 dX12_keeps_59 rfl ?_
    refine s_put 12 41 63 clX12 (by decide) rfl rfl pVH tw_1329 dX12_keeps_60 rfl ?_
    exact s_pick (sBX12_keeps_63)
  · refine s_Aldn 0 rfl 20 dX12_keeps_19 rfl ?_
    refine s_get 12 37 23 clX12 (by decide) tw_1325 dX12_keeps_20 rfl ?_
    refine s_Ildn 1 rfl 24 dX12_keeps_23 rfl ?_
    refine s_Aldn 0 rfl 25 dX12_keeps_24 rfl ?_
    refine s_get 12 37 28 clX12 (by decide) tw_1325 dX12_keeps_25 rfl ?_
    refine s_Ildn 1 rfl 29 dX12_keeps_28 rfl ?_
    refine s_iconst 30 1 (by decide) dX12_keeps_29 rfl ?_
    refine s_iadd 31 dX12_keeps_30 rfl ?_
    refine s_Ja 32 dX12_keeps_31 rfl ?_
    refine s_Jw 33 pVH dX12_keeps_32 rfl ?_
    refine s_Aldn 0 rfl 34 dX12_keeps_33 rfl ?_
    refine s_get 12 39 37 clX12 (by decide) tw_1327 dX12_keeps_34 rfl ?_
    refine s_Ildn 1 rfl 38 dX12_keeps_37 rfl ?_
    refine s_Aldn 0 rfl 39 dX12_keeps_38 rfl ?_
    refine s_get 12 39 42 clX12 (by decide) tw_1327 dX12_keeps_39 rfl ?_
    refine s_Ildn 1 rfl 43 dX12_keeps_42 rfl ?_
    refine s_iconst 44 1 (by decide) dX12_keeps_43 rfl ?_
    refine s_iadd 45 dX12_keeps_44 rfl ?_
    refine s_Ia 46 dX12_keeps_45 rfl ?_
    refine s_Iw 47 pVH dX12_keeps_46 rfl ?_
    refine s_inc 1 1 50 (by decide) (by decide) dX12_keeps_47 rfl ?_
    refine s_goto 11 dX12_keeps_50 (by decide) ?_
    exact s_pick hk11
def BX12_keeps_0 : KT HP :=
  oAld 0 (oGet 12 41 (oConst (.int 20) (oCmpne (oPick [0] (BX12_keeps_63)) (oConst (.int 0) (oIst 1 (oPick [0, 1] (lp (BX12_keeps_11) FU)))))))
set_option maxRecDepth 20000 in
theorem sBX12_keeps_0 : Snd XX12_keeps fVH 0 (BX12_keeps_0) (0) (0) := by
  unfold BX12_keeps_0
  refine s_Aldn 0 rfl 1 dX12_keeps_0 rfl ?_
  refine s_get 12 41 4 clX12 (by decide) tw_1329 dX12_keeps_1 rfl ?_
  refine s_bipush 6 20 (by decide) dX12_keeps_4 rfl ?_
  refine s_cmpne 63 9 dX12_keeps_6 (by decide) rfl ?_ ?_
  · exact s_pick (sBX12_keeps_63)
  · refine s_iconst 10 0 (by decide) dX12_keeps_9 rfl ?_
    refine s_Istn 1 rfl 11 (by decide) dX12_keeps_10 rfl ?_
    exact s_pick (s_lp (fun k hk => sBX12_keeps_11  hk) FU)
def EX12_keeps : List Value → HP → Option HP := en 2 BX12_keeps_0
theorem cmX12_keeps : CM XX12_keeps EX12_keeps fVH 0 0 := CM.of rfl (by decide) rfl rfl sBX12_keeps_0
theorem yoX12_keeps : YO XX12_keeps 0 0 0 := ⟨tw_1989, rfl, tw_12, (by decide +kernel), rfl, rfl⟩
abbrev XX12_changesTo : MX := (yX12_changesTo, cX12_changesTo, 4, (Option.some .boolean), Cond.code yX12_changesTo cX12_changesTo 4 (Option.some .boolean) :: WS, { frames := 2, cells := 0, slots := 0, locals := 44 })
def BX12_changesTo_39 : KT (Bool × HP) :=
  oCal 1 (some 12) EX12_keeps fVH (oAld 0 (odup (oGet 12 20 (oConst (.long 1) (oAld 0 (oIld 1 (oIld 2 (oCal 3 (some 12) EX12_cellOf fI (olshl (olxor (oPut 12 20 .long (oAld 0 (oCal 1 (some 12) EX12_granted fZH (oZretH))))))))))))))
set_option maxRecDepth 20000 in
theorem sBX12_changesTo_39 : Snd XX12_changesTo fZH 39 (BX12_changesTo_39) (0) (0) := by
  unfold BX12_changesTo_39
  refine s_cal0 42 (run_V (X := XX12_changesTo) rfl clX12 yoX12_keeps rfl tw_1986 tw_1988 tw_p111 (by decide) dX12_changesTo_39) cmX12_keeps (fun _ _ _ => rfl) rfl ?_
  refine s_Aldn 0 rfl 43 dX12_changesTo_42 rfl ?_
  refine s_dup 44 dX12_changesTo_43 rfl ?_
  refine s_get 12 20 47 clX12 (by decide) tw_1308 dX12_changesTo_44 rfl ?_
  refine s_lconst 48 1 (by decide) dX12_changesTo_47 rfl ?_
  refine s_Aldn 0 rfl 49 dX12_changesTo_48 rfl ?_
  refine s_Ildn 1 rfl 50 dX12_changesTo_49 rfl ?_
  refine s_Ildn 2 rfl 51 dX12_changesTo_50 rfl ?_
  refine s_cal0 54 (run_V (X := XX12_changesTo) rfl clX12 yoX12_cellOf rfl tw_1698 tw_1700 tw_p78 (by decide) dX12_changesTo_51) cmX12_cellOf (fun _ _ _ => rfl) rfl ?_
  refine s_lshl 55 dX12_changesTo_54 rfl ?_
  refine s_lxor 56 dX12_changesTo_55 rfl ?_
  refine s_put 12 20 59 clX12 (by decide) rfl rfl pZH tw_1308 dX12_changesTo_56 rfl ?_
  refine s_Aldn 0 rfl 60 dX12_changesTo_59 rfl ?_
  refine s_cal0 63 (run_V (X := XX12_changesTo) rfl clX12 yoX12_granted rfl tw_1990 tw_1992 tw_p112 (by decide) dX12_changesTo_60) cmX12_granted (fun _ _ _ => rfl) rfl ?_
  exact s_zretH rfl dX12_changesTo_63
def BX12_changesTo_25 : KT (Bool × HP) :=
  oCal 2 none EX12_has fZ (oIld 3 (oCmpne (oAld 0 (oPick [0, 1, 2] (BX12_changesTo_39))) (oAld 0 (oConst (.int 5) (oCal 2 (some 12) EX12_denied fZH (oZretH))))))
set_option maxRecDepth 20000 in
theorem sBX12_changesTo_25 : Snd XX12_changesTo fZH 25 (BX12_changesTo_25) (0) (0) := by
  unfold BX12_changesTo_25
  refine s_cal0 28 (run_S (X := XX12_changesTo) yoX12_has tw_1628 tw_1629 (by decide) dX12_changesTo_25) cmX12_has (fun _ _ _ => rfl) rfl ?_
  refine s_Ildn 3 rfl 29 dX12_changesTo_28 rfl ?_
  refine s_cmpne 38 32 dX12_changesTo_29 (by decide) rfl ?_ ?_
  · refine s_Aldn 0 rfl 39 dX12_changesTo_38 rfl ?_
    exact s_pick (sBX12_changesTo_39)
  · refine s_Aldn 0 rfl 33 dX12_changesTo_32 rfl ?_
    refine s_iconst 34 5 (by decide) dX12_changesTo_33 rfl ?_
    refine s_cal0 37 (run_V (X := XX12_changesTo) rfl clX12 yoX12_denied rfl tw_1982 tw_1984 tw_p110 (by decide) dX12_changesTo_34) cmX12_denied (fun _ _ _ => rfl) rfl ?_
    exact s_zretH rfl dX12_changesTo_37
def BX12_changesTo_3 : KT (Bool × HP) :=
  oCal 3 (some 12) EX12_isCell fZ (oIfne (oAld 0 (oGet 12 20 (oAld 0 (oIld 1 (oIld 2 (oCal 3 (some 12) EX12_cellOf fI (oPick [0, 1, 2, 3] (BX12_changesTo_25)))))))) (oAld 0 (oConst (.int 1) (oCal 2 (some 12) EX12_denied fZH (oZretH)))))
set_option maxRecDepth 20000 in
theorem sBX12_changesTo_3 : Snd XX12_changesTo fZH 3 (BX12_changesTo_3) (0) (0) := by
  unfold BX12_changesTo_3
  refine s_cal0 6 (run_V (X := XX12_changesTo) rfl clX12 yoX12_isCell rfl tw_1694 tw_1696 tw_p77 (by decide) dX12_changesTo_3) cmX12_isCell (fun _ _ _ => rfl) rfl ?_
  refine s_ifne 15 9 dX12_changesTo_6 (by decide) rfl ?_ ?_
  · refine s_Aldn 0 rfl 16 dX12_changesTo_15 rfl ?_
    refine s_get 12 20 19 clX12 (by decide) tw_1308 dX12_changesTo_16 rfl ?_
    refine s_Aldn 0 rfl 20 dX12_changesTo_19 rfl ?_
    refine s_Ildn 1 rfl 21 dX12_changesTo_20 rfl ?_
    refine s_Ildn 2 rfl 22 dX12_changesTo_21 rfl ?_
    refine s_cal0 25 (run_V (X := XX12_changesTo) rfl clX12 yoX12_cellOf rfl tw_1698 tw_1700 tw_p78 (by decide) dX12_changesTo_22) cmX12_cellOf (fun _ _ _ => rfl) rfl ?_
    exact s_pick (sBX12_changesTo_25)
  · refine s_Aldn 0 rfl 10 dX12_changesTo_9 rfl ?_
    refine s_iconst 11 1 (by decide) dX12_changesTo_10 rfl ?_
    refine s_cal0 14 (run_V (X := XX12_changesTo) rfl clX12 yoX12_denied rfl tw_1982 tw_1984 tw_p110 (by decide) dX12_changesTo_11) cmX12_denied (fun _ _ _ => rfl) rfl ?_
    exact s_zretH rfl dX12_changesTo_14
def BX12_changesTo_0 : KT (Bool × HP) :=
  oAld 0 (oIld 1 (oIld 2 (oPick [0, 1, 2, 3] (BX12_changesTo_3))))
set_option maxRecDepth 20000 in
theorem sBX12_changesTo_0 : Snd XX12_changesTo fZH 0 (BX12_changesTo_0) (0) (0) := by
  unfold BX12_changesTo_0
  refine s_Aldn 0 rfl 1 dX12_changesTo_0 rfl ?_
  refine s_Ildn 1 rfl 2 dX12_changesTo_1 rfl ?_
  refine s_Ildn 2 rfl 3 dX12_changesTo_2 rfl ?_
  exact s_pick (sBX12_changesTo_3)
def EX12_changesTo : List Value → HP → Option (Bool × HP) := en 4 BX12_changesTo_0
theorem cmX12_changesTo : CM XX12_changesTo EX12_changesTo fZH 0 0 := CM.of rfl (by decide) rfl rfl sBX12_changesTo_0
theorem yoX12_changesTo : YO XX12_changesTo 3 0 0 := ⟨tw_1981, rfl, tw_12, (by decide +kernel), rfl, rfl⟩
abbrev XX12_mow : MX := (yX12_mow, cX12_mow, 3, (Option.some .boolean), Cond.code yX12_mow cX12_mow 3 (Option.some .boolean) :: WS, { frames := 3, cells := 0, slots := 0, locals := 67 })
def BX12_mow_9 : KT (Bool × HP) :=
  oCal 4 (some 12) EX12_changesTo fZH (oZretH)
set_option maxRecDepth 20000 in
theorem sBX12_mow_9 : Snd XX12_mow fZH 9 (BX12_mow_9) (0) (0) := by
  unfold BX12_mow_9
  refine s_cal0 12 (run_V (X := XX12_mow) rfl clX12 yoX12_changesTo rfl tw_1978 tw_1980 tw_p109 (by decide) dX12_mow_9) cmX12_changesTo (fun _ _ _ => rfl) rfl ?_
  exact s_zretH rfl dX12_mow_12
def BX12_mow_0 : KT (Bool × HP) :=
  oAld 0 (oConst (.int 0) (oPut 12 0 .int (oAld 0 (oIld 1 (oIld 2 (oConst (.int 1) (oPick [] (BX12_mow_9))))))))
set_option maxRecDepth 20000 in
theorem sBX12_mow_0 : Snd XX12_mow fZH 0 (BX12_mow_0) (0) (0) := by
  unfold BX12_mow_0
  refine s_Aldn 0 rfl 1 dX12_mow_0 rfl ?_
  refine s_iconst 2 0 (by decide) dX12_mow_1 rfl ?_
  refine s_put 12 0 5 clX12 (by decide) rfl rfl pZH tw_1288 dX12_mow_2 rfl ?_
  refine s_Aldn 0 rfl 6 dX12_mow_5 rfl ?_
  refine s_Ildn 1 rfl 7 dX12_mow_6 rfl ?_
  refine s_Ildn 2 rfl 8 dX12_mow_7 rfl ?_
  refine s_iconst 9 1 (by decide) dX12_mow_8 rfl ?_
  exact s_pick (sBX12_mow_9)
def EX12_mow : List Value → HP → Option (Bool × HP) := en 3 BX12_mow_0
theorem cmX12_mow : CM XX12_mow EX12_mow fZH 0 0 := CM.of rfl (by decide) rfl rfl sBX12_mow_0
theorem yoX12_mow : YO XX12_mow 2 0 0 := ⟨tw_1977, rfl, tw_12, (by decide +kernel), rfl, rfl⟩
abbrev XX12_stand : MX := (yX12_stand, cX12_stand, 3, (Option.some .boolean), Cond.code yX12_stand cX12_stand 3 (Option.some .boolean) :: WS, { frames := 3, cells := 0, slots := 0, locals := 67 })
def BX12_stand_9 : KT (Bool × HP) :=
  oCal 4 (some 12) EX12_changesTo fZH (oZretH)
set_option maxRecDepth 20000 in
theorem sBX12_stand_9 : Snd XX12_stand fZH 9 (BX12_stand_9) (0) (0) := by
  unfold BX12_stand_9
  refine s_cal0 12 (run_V (X := XX12_stand) rfl clX12 yoX12_changesTo rfl tw_1978 tw_1980 tw_p109 (by decide) dX12_stand_9) cmX12_changesTo (fun _ _ _ => rfl) rfl ?_
  exact s_zretH rfl dX12_stand_12
def BX12_stand_0 : KT (Bool × HP) :=
  oAld 0 (oConst (.int 0) (oPut 12 0 .int (oAld 0 (oIld 1 (oIld 2 (oConst (.int 0) (oPick [] (BX12_stand_9))))))))
set_option maxRecDepth 20000 in
theorem sBX12_stand_0 : Snd XX12_stand fZH 0 (BX12_stand_0) (0) (0) := by
  unfold BX12_stand_0
  refine s_Aldn 0 rfl 1 dX12_stand_0 rfl ?_
  refine s_iconst 2 0 (by decide) dX12_stand_1 rfl ?_
  refine s_put 12 0 5 clX12 (by decide) rfl rfl pZH tw_1288 dX12_stand_2 rfl ?_
  refine s_Aldn 0 rfl 6 dX12_stand_5 rfl ?_
  refine s_Ildn 1 rfl 7 dX12_stand_6 rfl ?_
  refine s_Ildn 2 rfl 8 dX12_stand_7 rfl ?_
  refine s_iconst 9 0 (by decide) dX12_stand_8 rfl ?_
  exact s_pick (sBX12_stand_9)
def EX12_stand : List Value → HP → Option (Bool × HP) := en 3 BX12_stand_0
theorem cmX12_stand : CM XX12_stand EX12_stand fZH 0 0 := CM.of rfl (by decide) rfl rfl sBX12_stand_0
theorem yoX12_stand : YO XX12_stand 2 0 0 := ⟨tw_1997, rfl, tw_12, (by decide +kernel), rfl, rfl⟩
abbrev XX12_week : MX := (yX12_week, cX12_week, 2, (Option.some .int), Cond.code yX12_week cX12_week 2 (Option.some .int) :: WS, { frames := 4, cells := 0, slots := 0, locals := 95 })
def BX12_week_48 : KT (Int32 × HP) :=
  oCal 1 none EX12_bits fI (oisub (oCal 2 (some 12) EX12_good fIH (oIretH)))
set_option maxRecDepth 20000 in
theorem sBX12_week_48 : Snd XX12_week fIH 48 (BX12_week_48) (0) (0) := by
  unfold BX12_week_48
  refine s_cal0 51 (run_S (X := XX12_week) yoX12_bits tw_1675 tw_1676 (by decide) dX12_week_48) cmX12_bits (fun _ _ _ => rfl) rfl ?_
  refine s_isub 52 dX12_week_51 rfl ?_
  refine s_cal0 55 (run_V (X := XX12_week) rfl clX12 yoX12_good rfl tw_1678 tw_1680 tw_p76 (by decide) dX12_week_52) cmX12_good (fun _ _ _ => rfl) rfl ?_
  exact s_iretH rfl dX12_week_55
def BX12_week_36 : KT (Int32 × HP) :=
  oCal 2 (some 12) EX12_weekOf fL (oPut 12 20 .long (oAld 0 (oIld 1 (oAld 0 (oGet 12 20 (oPick [] (BX12_week_48)))))))
set_option maxRecDepth 20000 in
theorem sBX12_week_36 : Snd XX12_week fIH 36 (BX12_week_36) (0) (0) := by
  unfold BX12_week_36
  refine s_cal0 39 (run_V (X := XX12_week) rfl clX12 yoX12_weekOf rfl tw_1918 tw_1920 tw_p103 (by decide) dX12_week_36) cmX12_weekOf (fun _ _ _ => rfl) rfl ?_
  refine s_put 12 20 42 clX12 (by decide) rfl rfl pIH tw_1308 dX12_week_39 rfl ?_
  refine s_Aldn 0 rfl 43 dX12_week_42 rfl ?_
  refine s_Ildn 1 rfl 44 dX12_week_43 rfl ?_
  refine s_Aldn 0 rfl 45 dX12_week_44 rfl ?_
  refine s_get 12 20 48 clX12 (by decide) tw_1308 dX12_week_45 rfl ?_
  exact s_pick (sBX12_week_48)
def BX12_week_26 : KT (Int32 × HP) :=
  oCal 1 none EX12_bits fI (oIst 1 (oAld 0 (oAld 0 (oAld 0 (oGet 12 20 (oPick [0, 1] (BX12_week_36)))))))
set_option maxRecDepth 20000 in
theorem sBX12_week_26 : Snd XX12_week fIH 26 (BX12_week_26) (0) (0) := by
  unfold BX12_week_26
  refine s_cal0 29 (run_S (X := XX12_week) yoX12_bits tw_1675 tw_1676 (by decide) dX12_week_26) cmX12_bits (fun _ _ _ => rfl) rfl ?_
  refine s_Istn 1 rfl 30 (by decide) dX12_week_29 rfl ?_
  refine s_Aldn 0 rfl 31 dX12_week_30 rfl ?_
  refine s_Aldn 0 rfl 32 dX12_week_31 rfl ?_
  refine s_Aldn 0 rfl 33 dX12_week_32 rfl ?_
  refine s_get 12 20 36 clX12 (by decide) tw_1308 dX12_week_33 rfl ?_
  exact s_pick (sBX12_week_36)
def BX12_week_19 : KT (Int32 × HP) :=
  oCal 1 (some 12) EX12_keeps fVH (oAld 0 (oGet 12 20 (oPick [0] (BX12_week_26))))
set_option maxRecDepth 20000 in
theorem sBX12_week_19 : Snd XX12_week fIH 19 (BX12_week_19) (0) (0) := by
  unfold BX12_week_19
  refine s_cal0 22 (run_V (X := XX12_week) rfl clX12 yoX12_keeps rfl tw_1986 tw_1988 tw_p111 (by decide) dX12_week_19) cmX12_keeps (fun _ _ _ => rfl) rfl ?_
  refine s_Aldn 0 rfl 23 dX12_week_22 rfl ?_
  refine s_get 12 20 26 clX12 (by decide) tw_1308 dX12_week_23 rfl ?_
  exact s_pick (sBX12_week_26)
def BX12_week_0 : KT (Int32 × HP) :=
  oAld 0 (oConst (.int 0) (oPut 12 0 .int (oAld 0 (oGet 12 3 (oNul (oAld 0 (oConst (.int 1) (oCal 2 (some 12) EX12_refused fIH (oIretH)))) (oAld 0 (oPick [0] (BX12_week_19))))))))
set_option maxRecDepth 20000 in
theorem sBX12_week_0 : Snd XX12_week fIH 0 (BX12_week_0) (0) (0) := by
  unfold BX12_week_0
  refine s_Aldn 0 rfl 1 dX12_week_0 rfl ?_
  refine s_iconst 2 0 (by decide) dX12_week_1 rfl ?_
  refine s_put 12 0 5 clX12 (by decide) rfl rfl pIH tw_1288 dX12_week_2 rfl ?_
  refine s_Aldn 0 rfl 6 dX12_week_5 rfl ?_
  refine s_get 12 3 9 clX12 (by decide) tw_1291 dX12_week_6 rfl ?_
  refine s_ifnonnull 18 12 dX12_week_9 (by decide) rfl ?_ ?_
  · refine s_Aldn 0 rfl 19 dX12_week_18 rfl ?_
    exact s_pick (sBX12_week_19)
  · refine s_Aldn 0 rfl 13 dX12_week_12 rfl ?_
    refine s_iconst 14 1 (by decide) dX12_week_13 rfl ?_
    refine s_cal0 17 (run_V (X := XX12_week) rfl clX12 yoX12_refused rfl tw_1430 tw_1432 tw_p50 (by decide) dX12_week_14) cmX12_refused (fun _ _ _ => rfl) rfl ?_
    exact s_iretH rfl dX12_week_17
def EX12_week : List Value → HP → Option (Int32 × HP) := en 2 BX12_week_0
theorem cmX12_week : CM XX12_week EX12_week fIH 0 0 := CM.of rfl (by decide) rfl rfl sBX12_week_0
theorem yoX12_week : YO XX12_week 0 0 0 := ⟨tw_2001, rfl, tw_12, (by decide +kernel), rfl, rfl⟩
abbrev XX12_thin : MX := (yX12_thin, cX12_thin, 5, (Option.some .int), Cond.code yX12_thin cX12_thin 5 (Option.some .int) :: WS, { frames := 5, cells := 0, slots := 0, locals := 117 })
def BX12_thin_159 : KT (Int32 × HP) :=
  oCal 1 none EX12_first fI (oIst 4 (oAld 0 (odup (oGet 12 20 (oConst (.long 1) (oIld 4 (olshl (oConst (.long (-1)) (olxor (oland (oPut 12 20 .long (oAld 0 (oIld 4 (oCal 2 (some 12) EX12_good fIH (oIretH)))))))))))))))
set_option maxRecDepth 20000 in
theorem sBX12_thin_159 : Snd XX12_thin fIH 159 (BX12_thin_159) (0) (0) := by
  unfold BX12_thin_159
  refine s_cal0 162 (run_S (X := XX12_thin) yoX12_first tw_1726 tw_1727 (by decide) dX12_thin_159) cmX12_first (fun _ _ _ => rfl) rfl ?_
  refine s_Ist 4 164 (by decide) dX12_thin_162 rfl ?_
  refine s_Aldn 0 rfl 165 dX12_thin_164 rfl ?_
  refine s_dup 166 dX12_thin_165 rfl ?_
  refine s_get 12 20 169 clX12 (by decide) tw_1308 dX12_thin_166 rfl ?_
  refine s_lconst 170 1 (by decide) dX12_thin_169 rfl ?_
  refine s_Ild 4 172 dX12_thin_170 rfl ?_
  refine s_lshl 173 dX12_thin_172 rfl ?_
  refine s_ldc2 176 (-1) tw_1734 dX12_thin_173 rfl ?_
  refine s_lxor 177 dX12_thin_176 rfl ?_
  refine s_land 178 dX12_thin_177 rfl ?_
  refine s_put 12 20 181 clX12 (by decide) rfl rfl pIH tw_1308 dX12_thin_178 rfl ?_
  refine s_Aldn 0 rfl 182 dX12_thin_181 rfl ?_
  refine s_Ild 4 184 dX12_thin_182 rfl ?_
  refine s_cal0 187 (run_V (X := XX12_thin) rfl clX12 yoX12_good rfl tw_1678 tw_1680 tw_p76 (by decide) dX12_thin_184) cmX12_good (fun _ _ _ => rfl) rfl ?_
  exact s_iretH rfl dX12_thin_187
def BX12_thin_140 (k140 : KT (Int32 × HP)) : KT (Int32 × HP) :=
  oIld 4 (oIld 3 (oCmpge (oLld 1 (oPick [0] (BX12_thin_159))) (oLld 1 (oLld 1 (oConst (.long 1) (olsub (oland (oLst 1 (oInc 4 1 (oPick [0, 1, 3, 4] k140))))))))))
set_option maxRecDepth 20000 in
theorem sBX12_thin_140 {k140 : KT (Int32 × HP)} (hk140 : Snd XX12_thin fIH 140 k140 0 0) : Snd XX12_thin fIH 140 (BX12_thin_140 k140) (0) (0) := by
  unfold BX12_thin_140
  refine s_Ild 4 142 dX12_thin_140 rfl ?_
  refine s_Ildn 3 rfl 143 dX12_thin_142 rfl ?_
  refine s_cmpge 158 146 dX12_thin_143 (by decide) rfl ?_ ?_
  · refine s_Lldn 1 rfl 159 dX12_thin_158 rfl ?_
    exact s_pick (sBX12_thin_159)
  · refine s_Lldn 1 rfl 147 dX12_thin_146 rfl ?_
    refine s_Lldn 1 rfl 148 dX12_thin_147 rfl ?_
    refine s_lconst 149 1 (by decide) dX12_thin_148 rfl ?_
    refine s_lsub 150 dX12_thin_149 rfl ?_
    refine s_land 151 dX12_thin_150 rfl ?_
    refine s_Lstn 1 rfl 152 (by decide) dX12_thin_151 rfl ?_
    refine s_inc 4 1 155 (by decide) (by decide) dX12_thin_152 rfl ?_
    refine s_goto 140 dX12_thin_155 (by decide) ?_
    exact s_pick hk140
def BX12_thin_132 : KT (Int32 × HP) :=
  oCal 1 none EX12_bits fI (oirem (oIst 3 (oConst (.int 0) (oIst 4 (oPick [0, 1, 3, 4] (lp (BX12_thin_140) FU))))))
set_option maxRecDepth 20000 in
theorem sBX12_thin_132 : Snd XX12_thin fIH 132 (BX12_thin_132) (0) (0) := by
  unfold BX12_thin_132
  refine s_cal0 135 (run_S (X := XX12_thin) yoX12_bits tw_1675 tw_1676 (by decide) dX12_thin_132) cmX12_bits (fun _ _ _ => rfl) rfl ?_
  refine s_irem 136 dX12_thin_135 rfl ?_
  refine s_Istn 3 rfl 137 (by decide) dX12_thin_136 rfl ?_
  refine s_iconst 138 0 (by decide) dX12_thin_137 rfl ?_
  refine s_Ist 4 140 (by decide) dX12_thin_138 rfl ?_
  exact s_pick (s_lp (fun k hk => sBX12_thin_140  hk) FU)
def BX12_thin_113 : KT (Int32 × HP) :=
  oCal 1 (some 12) EX12_keeps fVH (oAld 0 (oAld 0 (oGet 12 21 (oCal 1 none EX12_drawn fI (oPut 12 21 .int (oAld 0 (oGet 12 21 (oLld 1 (oPick [0, 1] (BX12_thin_132))))))))))
set_option maxRecDepth 20000 in
theorem sBX12_thin_113 : Snd XX12_thin fIH 113 (BX12_thin_113) (0) (0) := by
  unfold BX12_thin_113
  refine s_cal0 116 (run_V (X := XX12_thin) rfl clX12 yoX12_keeps rfl tw_1986 tw_1988 tw_p111 (by decide) dX12_thin_113) cmX12_keeps (fun _ _ _ => rfl) rfl ?_
  refine s_Aldn 0 rfl 117 dX12_thin_116 rfl ?_
  refine s_Aldn 0 rfl 118 dX12_thin_117 rfl ?_
  refine s_get 12 21 121 clX12 (by decide) tw_1309 dX12_thin_118 rfl ?_
  refine s_cal0 124 (run_S (X := XX12_thin) yoX12_drawn tw_1804 tw_1805 (by decide) dX12_thin_121) cmX12_drawn (fun _ _ _ => rfl) rfl ?_
  refine s_put 12 21 127 clX12 (by decide) rfl rfl pIH tw_1309 dX12_thin_124 rfl ?_
  refine s_Aldn 0 rfl 128 dX12_thin_127 rfl ?_
  refine s_get 12 21 131 clX12 (by decide) tw_1309 dX12_thin_128 rfl ?_
  refine s_Lldn 1 rfl 132 dX12_thin_131 rfl ?_
  exact s_pick (sBX12_thin_132)
def BX12_thin_81 (k22 : KT (Int32 × HP)) : KT (Int32 × HP) :=
  oCal 2 (some 12) EX12_splitsAt fZH (oIfne (oInc 3 1 (oPick [0, 1, 3] k22)) (oLld 1 (oConst (.long 1) (oIld 3 (olshl (olor (oLst 1 (oInc 3 1 (oPick [0, 1, 3] k22)))))))))
set_option maxRecDepth 20000 in
theorem sBX12_thin_81 {k22 : KT (Int32 × HP)} (hk22 : Snd XX12_thin fIH 22 k22 0 0) : Snd XX12_thin fIH 81 (BX12_thin_81 k22) (0) (0) := by
  unfold BX12_thin_81
  refine s_cal0 84 (run_V (X := XX12_thin) rfl clX12 yoX12_splitsAt rfl tw_1759 tw_1761 tw_p83 (by decide) dX12_thin_81) cmX12_splitsAt (fun _ _ _ => rfl) rfl ?_
  refine s_ifne 93 87 dX12_thin_84 (by decide) rfl ?_ ?_
  · refine s_inc 3 1 96 (by decide) (by decide) dX12_thin_93 rfl ?_
    refine s_goto 22 dX12_thin_96 (by decide) ?_
    exact s_pick hk22
  · refine s_Lldn 1 rfl 88 dX12_thin_87 rfl ?_
    refine s_lconst 89 1 (by decide) dX12_thin_88 rfl ?_
    refine s_Ildn 3 rfl 90 dX12_thin_89 rfl ?_
    refine s_lshl 91 dX12_thin_90 rfl ?_
    refine s_lor 92 dX12_thin_91 rfl ?_
    refine s_Lstn 1 rfl 93 (by decide) dX12_thin_92 rfl ?_
    refine s_inc 3 1 96 (by decide) (by decide) dX12_thin_93 rfl ?_
    refine s_goto 22 dX12_thin_96 (by decide) ?_
    exact s_pick hk22
def BX12_thin_72 (k22 : KT (Int32 × HP)) : KT (Int32 × HP) :=
  oCal 1 none EX12_bits fI (oConst (.int 1) (oCmple (oInc 3 1 (oPick [0, 1, 3] k22)) (oAld 0 (oIld 3 (oPick [0, 1, 3] (BX12_thin_81 k22))))))
set_option maxRecDepth 20000 in
theorem sBX12_thin_72 {k22 : KT (Int32 × HP)} (hk22 : Snd XX12_thin fIH 22 k22 0 0) : Snd XX12_thin fIH 72 (BX12_thin_72 k22) (0) (0) := by
  unfold BX12_thin_72
  refine s_cal0 75 (run_S (X := XX12_thin) yoX12_bits tw_1675 tw_1676 (by decide) dX12_thin_72) cmX12_bits (fun _ _ _ => rfl) rfl ?_
  refine s_iconst 76 1 (by decide) dX12_thin_75 rfl ?_
  refine s_cmple 93 79 dX12_thin_76 (by decide) rfl ?_ ?_
  · refine s_inc 3 1 96 (by decide) (by decide) dX12_thin_93 rfl ?_
    refine s_goto 22 dX12_thin_96 (by decide) ?_
    exact s_pick hk22
  · refine s_Aldn 0 rfl 80 dX12_thin_79 rfl ?_
    refine s_Ildn 3 rfl 81 dX12_thin_80 rfl ?_
    exact s_pick (sBX12_thin_81 hk22)
def BX12_thin_69 (k22 : KT (Int32 × HP)) : KT (Int32 × HP) :=
  oCal 3 (some 12) EX12_besideOf fL (oPick [0, 1, 3] (BX12_thin_72 k22))
set_option maxRecDepth 20000 in
theorem sBX12_thin_69 {k22 : KT (Int32 × HP)} (hk22 : Snd XX12_thin fIH 22 k22 0 0) : Snd XX12_thin fIH 69 (BX12_thin_69 k22) (0) (0) := by
  unfold BX12_thin_69
  refine s_cal0 72 (run_V (X := XX12_thin) rfl clX12 yoX12_besideOf rfl tw_1706 tw_1708 tw_p79 (by decide) dX12_thin_69) cmX12_besideOf (fun _ _ _ => rfl) rfl ?_
  exact s_pick (sBX12_thin_72 hk22)
def BX12_thin_57 (k22 : KT (Int32 × HP)) : KT (Int32 × HP) :=
  oCal 2 (some 11) EX11_isStart fZ (oIfne (oInc 3 1 (oPick [0, 1, 3] k22)) (oAld 0 (oAld 0 (oGet 12 20 (oIld 3 (oPick [0, 1, 3] (BX12_thin_69 k22)))))))
set_option maxRecDepth 20000 in
theorem sBX12_thin_57 {k22 : KT (Int32 × HP)} (hk22 : Snd XX12_thin fIH 22 k22 0 0) : Snd XX12_thin fIH 57 (BX12_thin_57 k22) (0) (0) := by
  unfold BX12_thin_57
  refine s_cal0 60 (run_V (X := XX12_thin) rfl clX11 yoX11_isStart rfl tw_1966 tw_1967 tw_1968 (by decide) dX12_thin_57) cmX11_isStart (fun _ _ _ => rfl) rfl ?_
  refine s_ifne 93 63 dX12_thin_60 (by decide) rfl ?_ ?_
  · refine s_inc 3 1 96 (by decide) (by decide) dX12_thin_93 rfl ?_
    refine s_goto 22 dX12_thin_96 (by decide) ?_
    exact s_pick hk22
  · refine s_Aldn 0 rfl 64 dX12_thin_63 rfl ?_
    refine s_Aldn 0 rfl 65 dX12_thin_64 rfl ?_
    refine s_get 12 20 68 clX12 (by decide) tw_1308 dX12_thin_65 rfl ?_
    refine s_Ildn 3 rfl 69 dX12_thin_68 rfl ?_
    exact s_pick (sBX12_thin_69 hk22)
def BX12_thin_46 (k22 : KT (Int32 × HP)) : KT (Int32 × HP) :=
  oCal 2 (some 12) EX12_isGate fZ (oIfne (oInc 3 1 (oPick [0, 1, 3] k22)) (oAld 0 (oGet 12 3 (oIld 3 (oPick [0, 1, 3] (BX12_thin_57 k22))))))
set_option maxRecDepth 20000 in
theorem sBX12_thin_46 {k22 : KT (Int32 × HP)} (hk22 : Snd XX12_thin fIH 22 k22 0 0) : Snd XX12_thin fIH 46 (BX12_thin_46 k22) (0) (0) := by
  unfold BX12_thin_46
  refine s_cal0 49 (run_V (X := XX12_thin) rfl clX12 yoX12_isGate rfl tw_1810 tw_1812 tw_p93 (by decide) dX12_thin_46) cmX12_isGate (fun _ _ _ => rfl) rfl ?_
  refine s_ifne 93 52 dX12_thin_49 (by decide) rfl ?_ ?_
  · refine s_inc 3 1 96 (by decide) (by decide) dX12_thin_93 rfl ?_
    refine s_goto 22 dX12_thin_96 (by decide) ?_
    exact s_pick hk22
  · refine s_Aldn 0 rfl 53 dX12_thin_52 rfl ?_
    refine s_get 12 3 56 clX12 (by decide) tw_1291 dX12_thin_53 rfl ?_
    refine s_Ildn 3 rfl 57 dX12_thin_56 rfl ?_
    exact s_pick (sBX12_thin_57 hk22)
def BX12_thin_38 (k22 : KT (Int32 × HP)) : KT (Int32 × HP) :=
  oCal 2 none EX12_has fZ (oIfeq (oInc 3 1 (oPick [0, 1, 3] k22)) (oAld 0 (oIld 3 (oPick [0, 1, 3] (BX12_thin_46 k22)))))
set_option maxRecDepth 20000 in
theorem sBX12_thin_38 {k22 : KT (Int32 × HP)} (hk22 : Snd XX12_thin fIH 22 k22 0 0) : Snd XX12_thin fIH 38 (BX12_thin_38 k22) (0) (0) := by
  unfold BX12_thin_38
  refine s_cal0 41 (run_S (X := XX12_thin) yoX12_has tw_1628 tw_1629 (by decide) dX12_thin_38) cmX12_has (fun _ _ _ => rfl) rfl ?_
  refine s_ifeq 93 44 dX12_thin_41 (by decide) rfl ?_ ?_
  · refine s_inc 3 1 96 (by decide) (by decide) dX12_thin_93 rfl ?_
    refine s_goto 22 dX12_thin_96 (by decide) ?_
    exact s_pick hk22
  · refine s_Aldn 0 rfl 45 dX12_thin_44 rfl ?_
    refine s_Ildn 3 rfl 46 dX12_thin_45 rfl ?_
    exact s_pick (sBX12_thin_46 hk22)
def BX12_thin_22 (k22 : KT (Int32 × HP)) : KT (Int32 × HP) :=
  oIld 3 (oAld 0 (oGet 12 3 (oCal 1 (some 11) EX11_cells fI (oCmpge (oLld 1 (oConst (.long 0) (olcmp (oIfne (oAld 0 (oPick [0, 1] (BX12_thin_113))) (oAld 0 (oConst (.int 6) (oCal 2 (some 12) EX12_refused fIH (oIretH)))))))) (oAld 0 (oGet 12 20 (oIld 3 (oPick [0, 1, 3] (BX12_thin_38 k22)))))))))
set_option maxRecDepth 20000 in
theorem sBX12_thin_22 {k22 : KT (Int32 × HP)} (hk22 : Snd XX12_thin fIH 22 k22 0 0) : Snd XX12_thin fIH 22 (BX12_thin_22 k22) (0) (0) := by
  unfold BX12_thin_22
  refine s_Ildn 3 rfl 23 dX12_thin_22 rfl ?_
  refine s_Aldn 0 rfl 24 dX12_thin_23 rfl ?_
  refine s_get 12 3 27 clX12 (by decide) tw_1291 dX12_thin_24 rfl ?_
  refine s_cal0 30 (run_V (X := XX12_thin) rfl clX11 yoX11_cells rfl tw_1733 tw_1715 tw_1716 (by decide) dX12_thin_27) cmX11_cells (fun _ _ _ => rfl) rfl ?_
  refine s_cmpge 99 33 dX12_thin_30 (by decide) rfl ?_ ?_
  · refine s_Lldn 1 rfl 100 dX12_thin_99 rfl ?_
    refine s_lconst 101 0 (by decide) dX12_thin_100 rfl ?_
    refine s_lcmp 102 dX12_thin_101 rfl ?_
    refine s_ifne 112 105 dX12_thin_102 (by decide) rfl ?_ ?_
    · refine s_Aldn 0 rfl 113 dX12_thin_112 rfl ?_
      exact s_pick (sBX12_thin_113)
    · refine s_Aldn 0 rfl 106 dX12_thin_105 rfl ?_
      refine s_bipush 108 6 (by decide) dX12_thin_106 rfl ?_
      refine s_cal0 111 (run_V (X := XX12_thin) rfl clX12 yoX12_refused rfl tw_1430 tw_1432 tw_p50 (by decide) dX12_thin_108) cmX12_refused (fun _ _ _ => rfl) rfl ?_
      exact s_iretH rfl dX12_thin_111
  · refine s_Aldn 0 rfl 34 dX12_thin_33 rfl ?_
    refine s_get 12 20 37 clX12 (by decide) tw_1308 dX12_thin_34 rfl ?_
    refine s_Ildn 3 rfl 38 dX12_thin_37 rfl ?_
    exact s_pick (sBX12_thin_38 hk22)
def BX12_thin_0 : KT (Int32 × HP) :=
  oAld 0 (oConst (.int 0) (oPut 12 0 .int (oAld 0 (oGet 12 3 (oNul (oAld 0 (oConst (.int 1) (oCal 2 (some 12) EX12_refused fIH (oIretH)))) (oConst (.long 0) (oLst 1 (oConst (.int 0) (oIst 3 (oPick [0, 1, 3] (lp (BX12_thin_22) FU)))))))))))
set_option maxRecDepth 20000 in
theorem sBX12_thin_0 : Snd XX12_thin fIH 0 (BX12_thin_0) (0) (0) := by
  unfold BX12_thin_0
  refine s_Aldn 0 rfl 1 dX12_thin_0 rfl ?_
  refine s_iconst 2 0 (by decide) dX12_thin_1 rfl ?_
  refine s_put 12 0 5 clX12 (by decide) rfl rfl pIH tw_1288 dX12_thin_2 rfl ?_
  refine s_Aldn 0 rfl 6 dX12_thin_5 rfl ?_
  refine s_get 12 3 9 clX12 (by decide) tw_1291 dX12_thin_6 rfl ?_
  refine s_ifnonnull 18 12 dX12_thin_9 (by decide) rfl ?_ ?_
  · refine s_lconst 19 0 (by decide) dX12_thin_18 rfl ?_
    refine s_Lstn 1 rfl 20 (by decide) dX12_thin_19 rfl ?_
    refine s_iconst 21 0 (by decide) dX12_thin_20 rfl ?_
    refine s_Istn 3 rfl 22 (by decide) dX12_thin_21 rfl ?_
    exact s_pick (s_lp (fun k hk => sBX12_thin_22  hk) FU)
  · refine s_Aldn 0 rfl 13 dX12_thin_12 rfl ?_
    refine s_iconst 14 1 (by decide) dX12_thin_13 rfl ?_
    refine s_cal0 17 (run_V (X := XX12_thin) rfl clX12 yoX12_refused rfl tw_1430 tw_1432 tw_p50 (by decide) dX12_thin_14) cmX12_refused (fun _ _ _ => rfl) rfl ?_
    exact s_iretH rfl dX12_thin_17
def EX12_thin : List Value → HP → Option (Int32 × HP) := en 5 BX12_thin_0
theorem cmX12_thin : CM XX12_thin EX12_thin fIH 0 0 := CM.of rfl (by decide) rfl rfl sBX12_thin_0
theorem yoX12_thin : YO XX12_thin 0 0 0 := ⟨tw_2005, rfl, tw_12, (by decide +kernel), rfl, rfl⟩
abbrev XX12_seed : MX := (yX12_seed, cX12_seed, 2, (Option.some .boolean), Cond.code yX12_seed cX12_seed 2 (Option.some .boolean) :: WS, { frames := 2, cells := 0, slots := 0, locals := 42 })
def BX12_seed_23 : KT (Bool × HP) :=
  oCal 3 none EX12_in fZ (oIfne (oAld 0 (oIld 1 (oPut 12 21 .int (oAld 0 (oCal 1 (some 12) EX12_granted fZH (oZretH)))))) (oAld 0 (oConst (.int 2) (oCal 2 (some 12) EX12_denied fZH (oZretH)))))
set_option maxRecDepth 20000 in
theorem sBX12_seed_23 : Snd XX12_seed fZH 23 (BX12_seed_23) (0) (0) := by
  unfold BX12_seed_23
  refine s_cal0 26 (run_S (X := XX12_seed) yoX12_in tw_1589 tw_1590 (by decide) dX12_seed_23) cmX12_in (fun _ _ _ => rfl) rfl ?_
  refine s_ifne 35 29 dX12_seed_26 (by decide) rfl ?_ ?_
  · refine s_Aldn 0 rfl 36 dX12_seed_35 rfl ?_
    refine s_Ildn 1 rfl 37 dX12_seed_36 rfl ?_
    refine s_put 12 21 40 clX12 (by decide) rfl rfl pZH tw_1309 dX12_seed_37 rfl ?_
    refine s_Aldn 0 rfl 41 dX12_seed_40 rfl ?_
    refine s_cal0 44 (run_V (X := XX12_seed) rfl clX12 yoX12_granted rfl tw_1990 tw_1992 tw_p112 (by decide) dX12_seed_41) cmX12_granted (fun _ _ _ => rfl) rfl ?_
    exact s_zretH rfl dX12_seed_44
  · refine s_Aldn 0 rfl 30 dX12_seed_29 rfl ?_
    refine s_iconst 31 2 (by decide) dX12_seed_30 rfl ?_
    refine s_cal0 34 (run_V (X := XX12_seed) rfl clX12 yoX12_denied rfl tw_1982 tw_1984 tw_p110 (by decide) dX12_seed_31) cmX12_denied (fun _ _ _ => rfl) rfl ?_
    exact s_zretH rfl dX12_seed_34
def BX12_seed_0 : KT (Bool × HP) :=
  oAld 0 (oConst (.int 0) (oPut 12 0 .int (oAld 0 (oGet 12 3 (oNul (oAld 0 (oConst (.int 1) (oCal 2 (some 12) EX12_denied fZH (oZretH)))) (oIld 1 (oConst (.int 0) (oConst (.int 65536) (oPick [0, 1] (BX12_seed_23))))))))))
set_option maxRecDepth 20000 in
theorem sBX12_seed_0 : Snd XX12_seed fZH 0 (BX12_seed_0) (0) (0) := by
  unfold BX12_seed_0
  refine s_Aldn 0 rfl 1 dX12_seed_0 rfl ?_
  refine s_iconst 2 0 (by decide) dX12_seed_1 rfl ?_
  refine s_put 12 0 5 clX12 (by decide) rfl rfl pZH tw_1288 dX12_seed_2 rfl ?_
  refine s_Aldn 0 rfl 6 dX12_seed_5 rfl ?_
  refine s_get 12 3 9 clX12 (by decide) tw_1291 dX12_seed_6 rfl ?_
  refine s_ifnonnull 18 12 dX12_seed_9 (by decide) rfl ?_ ?_
  · refine s_Ildn 1 rfl 19 dX12_seed_18 rfl ?_
    refine s_iconst 20 0 (by decide) dX12_seed_19 rfl ?_
    refine s_ldcw 23 65536 tw_2010 dX12_seed_20 rfl ?_
    exact s_pick (sBX12_seed_23)
  · refine s_Aldn 0 rfl 13 dX12_seed_12 rfl ?_
    refine s_iconst 14 1 (by decide) dX12_seed_13 rfl ?_
    refine s_cal0 17 (run_V (X := XX12_seed) rfl clX12 yoX12_denied rfl tw_1982 tw_1984 tw_p110 (by decide) dX12_seed_14) cmX12_denied (fun _ _ _ => rfl) rfl ?_
    exact s_zretH rfl dX12_seed_17
def EX12_seed : List Value → HP → Option (Bool × HP) := en 2 BX12_seed_0
theorem cmX12_seed : CM XX12_seed EX12_seed fZH 0 0 := CM.of rfl (by decide) rfl rfl sBX12_seed_0
theorem yoX12_seed : YO XX12_seed 1 0 0 := ⟨tw_2009, rfl, tw_12, (by decide +kernel), rfl, rfl⟩
abbrev XX12_undo : MX := (yX12_undo, cX12_undo, 1, (Option.some .boolean), Cond.code yX12_undo cX12_undo 1 (Option.some .boolean) :: WS, { frames := 2, cells := 0, slots := 0, locals := 42 })
def BX12_undo_0 : KT (Bool × HP) :=
  oAld 0 (oConst (.int 0) (oPut 12 0 .int (oAld 0 (oGet 12 3 (oNul (oAld 0 (oConst (.int 6) (oCal 2 (some 12) EX12_denied fZH (oZretH)))) (oAld 0 (oGet 12 41 (oIfne (oAld 0 (odup (oGet 12 41 (oConst (.int 1) (oisub (oPut 12 41 .int (oAld 0 (oAld 0 (oGet 12 37 (oAld 0 (oGet 12 41 (oJa (oPut 12 20 .long (oAld 0 (oAld 0 (oGet 12 39 (oAld 0 (oGet 12 41 (oIa (oPut 12 21 .int (oAld 0 (oCal 1 (some 12) EX12_granted fZH (oZretH))))))))))))))))))))))) (oAld 0 (oConst (.int 6) (oCal 2 (some 12) EX12_denied fZH (oZretH))))))))))))
set_option maxRecDepth 20000 in
theorem sBX12_undo_0 : Snd XX12_undo fZH 0 (BX12_undo_0) (0) (0) := by
  unfold BX12_undo_0
  refine s_Aldn 0 rfl 1 dX12_undo_0 rfl ?_
  refine s_iconst 2 0 (by decide) dX12_undo_1 rfl ?_
  refine s_put 12 0 5 clX12 (by decide) rfl rfl pZH tw_1288 dX12_undo_2 rfl ?_
  refine s_Aldn 0 rfl 6 dX12_undo_5 rfl ?_
  refine s_get 12 3 9 clX12 (by decide) tw_1291 dX12_undo_6 rfl ?_
  refine s_ifnull 19 12 dX12_undo_9 (by decide) rfl ?_ ?_
  · refine s_Aldn 0 rfl 20 dX12_undo_19 rfl ?_
    refine s_bipush 22 6 (by decide) dX12_undo_20 rfl ?_
    refine s_cal0 25 (run_V (X := XX12_undo) rfl clX12 yoX12_denied rfl tw_1982 tw_1984 tw_p110 (by decide) dX12_undo_22) cmX12_denied (fun _ _ _ => rfl) rfl ?_
    exact s_zretH rfl dX12_undo_25
  · refine s_Aldn 0 rfl 13 dX12_undo_12 rfl ?_
    refine s_get 12 41 16 clX12 (by decide) tw_1329 dX12_undo_13 rfl ?_
    refine s_ifne 26 19 dX12_undo_16 (by decide) rfl ?_ ?_
    · refine s_Aldn 0 rfl 27 dX12_undo_26 rfl ?_
      refine s_dup 28 dX12_undo_27 rfl ?_
      refine s_get 12 41 31 clX12 (by decide) tw_1329 dX12_undo_28 rfl ?_
      refine s_iconst 32 1 (by decide) dX12_undo_31 rfl ?_
      refine s_isub 33 dX12_undo_32 rfl ?_
      refine s_put 12 41 36 clX12 (by decide) rfl rfl pZH tw_1329 dX12_undo_33 rfl ?_
      refine s_Aldn 0 rfl 37 dX12_undo_36 rfl ?_
      refine s_Aldn 0 rfl 38 dX12_undo_37 rfl ?_
      refine s_get 12 37 41 clX12 (by decide) tw_1325 dX12_undo_38 rfl ?_
      refine s_Aldn 0 rfl 42 dX12_undo_41 rfl ?_
      refine s_get 12 41 45 clX12 (by decide) tw_1329 dX12_undo_42 rfl ?_
      refine s_Ja 46 dX12_undo_45 rfl ?_
      refine s_put 12 20 49 clX12 (by decide) rfl rfl pZH tw_1308 dX12_undo_46 rfl ?_
      refine s_Aldn 0 rfl 50 dX12_undo_49 rfl ?_
      refine s_Aldn 0 rfl 51 dX12_undo_50 rfl ?_
      refine s_get 12 39 54 clX12 (by decide) tw_1327 dX12_undo_51 rfl ?_
      refine s_Aldn 0 rfl 55 dX12_undo_54 rfl ?_
      refine s_get 12 41 58 clX12 (by decide) tw_1329 dX12_undo_55 rfl ?_
      refine s_Ia 59 dX12_undo_58 rfl ?_
      refine s_put 12 21 62 clX12 (by decide) rfl rfl pZH tw_1309 dX12_undo_59 rfl ?_
      refine s_Aldn 0 rfl 63 dX12_undo_62 rfl ?_
      refine s_cal0 66 (run_V (X := XX12_undo) rfl clX12 yoX12_granted rfl tw_1990 tw_1992 tw_p112 (by decide) dX12_undo_63) cmX12_granted (fun _ _ _ => rfl) rfl ?_
      exact s_zretH rfl dX12_undo_66
    · refine s_Aldn 0 rfl 20 dX12_undo_19 rfl ?_
      refine s_bipush 22 6 (by decide) dX12_undo_20 rfl ?_
      refine s_cal0 25 (run_V (X := XX12_undo) rfl clX12 yoX12_denied rfl tw_1982 tw_1984 tw_p110 (by decide) dX12_undo_22) cmX12_denied (fun _ _ _ => rfl) rfl ?_
      exact s_zretH rfl dX12_undo_25
def EX12_undo : List Value → HP → Option (Bool × HP) := en 1 BX12_undo_0
theorem cmX12_undo : CM XX12_undo EX12_undo fZH 0 0 := CM.of rfl (by decide) rfl rfl sBX12_undo_0
theorem yoX12_undo : YO XX12_undo 0 0 0 := ⟨tw_2014, rfl, tw_12, (by decide +kernel), rfl, rfl⟩
abbrev XX12_mark : MX := (yX12_mark, cX12_mark, 1, (Option.some .int), Cond.code yX12_mark cX12_mark 1 (Option.some .int) :: WS, { frames := 1, cells := 0, slots := 0, locals := 21 })
def BX12_mark_0 : KT (Int32 × HP) :=
  oAld 0 (oConst (.int 0) (oPut 12 0 .int (oAld 0 (oGet 12 3 (oNul (oAld 0 (oConst (.int 1) (oCal 2 (some 12) EX12_refused fIH (oIretH)))) (oAld 0 (oGet 12 42 (oConst (.int 3) (oCmpne (oAld 0 (oGet 12 38 (oAld 0 (oGet 12 42 (oAld 0 (oGet 12 20 (oJw (oAld 0 (oGet 12 40 (oAld 0 (oGet 12 42 (oAld 0 (oGet 12 21 (oIw (oAld 0 (odup (oGet 12 42 (oConst (.int 1) (oiadd (oPut 12 42 .int (oAld 0 (oAld 0 (oGet 12 42 (oConst (.int 1) (oisub (oCal 2 (some 12) EX12_good fIH (oIretH))))))))))))))))))))))))))) (oAld 0 (oConst (.int 3) (oCal 2 (some 12) EX12_refused fIH (oIretH)))))))))))))
set_option maxRecDepth 20000 in
theorem sBX12_mark_0 : Snd XX12_mark fIH 0 (BX12_mark_0) (0) (0) := by
  unfold BX12_mark_0
  refine s_Aldn 0 rfl 1 dX12_mark_0 rfl ?_
  refine s_iconst 2 0 (by decide) dX12_mark_1 rfl ?_
  refine s_put 12 0 5 clX12 (by decide) rfl rfl pIH tw_1288 dX12_mark_2 rfl ?_
  refine s_Aldn 0 rfl 6 dX12_mark_5 rfl ?_
  refine s_get 12 3 9 clX12 (by decide) tw_1291 dX12_mark_6 rfl ?_
  refine s_ifnonnull 18 12 dX12_mark_9 (by decide) rfl ?_ ?_
  · refine s_Aldn 0 rfl 19 dX12_mark_18 rfl ?_
    refine s_get 12 42 22 clX12 (by decide) tw_1330 dX12_mark_19 rfl ?_
    refine s_iconst 23 3 (by decide) dX12_mark_22 rfl ?_
    refine s_cmpne 32 26 dX12_mark_23 (by decide) rfl ?_ ?_
    · refine s_Aldn 0 rfl 33 dX12_mark_32 rfl ?_
      refine s_get 12 38 36 clX12 (by decide) tw_1326 dX12_mark_33 rfl ?_
      refine s_Aldn 0 rfl 37 dX12_mark_36 rfl ?_
      refine s_get 12 42 40 clX12 (by decide) tw_1330 dX12_mark_37 rfl ?_
      refine s_Aldn 0 rfl 41 dX12_mark_40 rfl ?_
      refine s_get 12 20 44 clX12 (by decide) tw_1308 dX12_mark_41 rfl ?_
      refine s_Jw 45 pIH dX12_mark_44 rfl ?_
      refine s_Aldn 0 rfl 46 dX12_mark_45 rfl ?_
      refine s_get 12 40 49 clX12 (by decide) tw_1328 dX12_mark_46 rfl ?_
      refine s_Aldn 0 rfl 50 dX12_mark_49 rfl ?_
      refine s_get 12 42 53 clX12 (by decide) tw_1330 dX12_mark_50 rfl ?_
      refine s_Aldn 0 rfl 54 dX12_mark_53 rfl ?_
      refine s_get 12 21 57 clX12 (by decide) tw_1309 dX12_mark_54 rfl ?_
      refine s_Iw 58 pIH dX12_mark_57 rfl ?_
      refine s_Aldn 0 rfl 59 dX12_mark_58 rfl ?_
      refine s_dup 60 dX12_mark_59 rfl ?_
      refine s_get 12 42 63 clX12 (by decide) tw_1330 dX12_mark_60 rfl ?_
      refine s_iconst 64 1 (by decide) dX12_mark_63 rfl ?_
      refine s_iadd 65 dX12_mark_64 rfl ?_
      refine s_put 12 42 68 clX12 (by decide) rfl rfl pIH tw_1330 dX12_mark_65 rfl ?_
      refine s_Aldn 0 rfl 69 dX12_mark_68 rfl ?_
      refine s_Aldn 0 rfl 70 dX12_mark_69 rfl ?_
      refine s_get 12 42 73 clX12 (by decide) tw_1330 dX12_mark_70 rfl ?_
      refine s_iconst 74 1 (by decide) dX12_mark_73 rfl ?_
      refine s_isub 75 dX12_mark_74 rfl ?_
      refine s_cal0 78 (run_V (X := XX12_mark) rfl clX12 yoX12_good rfl tw_1678 tw_1680 tw_p76 (by decide) dX12_mark_75) cmX12_good (fun _ _ _ => rfl) rfl ?_
      exact s_iretH rfl dX12_mark_78
    · refine s_Aldn 0 rfl 27 dX12_mark_26 rfl ?_
      refine s_iconst 28 3 (by decide) dX12_mark_27 rfl ?_
      refine s_cal0 31 (run_V (X := XX12_mark) rfl clX12 yoX12_refused rfl tw_1430 tw_1432 tw_p50 (by decide) dX12_mark_28) cmX12_refused (fun _ _ _ => rfl) rfl ?_
      exact s_iretH rfl dX12_mark_31
  · refine s_Aldn 0 rfl 13 dX12_mark_12 rfl ?_
    refine s_iconst 14 1 (by decide) dX12_mark_13 rfl ?_
    refine s_cal0 17 (run_V (X := XX12_mark) rfl clX12 yoX12_refused rfl tw_1430 tw_1432 tw_p50 (by decide) dX12_mark_14) cmX12_refused (fun _ _ _ => rfl) rfl ?_
    exact s_iretH rfl dX12_mark_17
def EX12_mark : List Value → HP → Option (Int32 × HP) := en 1 BX12_mark_0
theorem cmX12_mark : CM XX12_mark EX12_mark fIH 0 0 := CM.of rfl (by decide) rfl rfl sBX12_mark_0
theorem yoX12_mark : YO XX12_mark 0 0 0 := ⟨tw_2018, rfl, tw_12, (by decide +kernel), rfl, rfl⟩
abbrev XX12_back : MX := (yX12_back, cX12_back, 2, (Option.some .boolean), Cond.code yX12_back cX12_back 2 (Option.some .boolean) :: WS, { frames := 2, cells := 0, slots := 0, locals := 42 })
def BX12_back_0 : KT (Bool × HP) :=
  oAld 0 (oConst (.int 0) (oPut 12 0 .int (oAld 0 (oGet 12 3 (oNul (oAld 0 (oConst (.int 1) (oCal 2 (some 12) EX12_denied fZH (oZretH)))) (oIld 1 (oIflt (oAld 0 (oConst (.int 1) (oCal 2 (some 12) EX12_denied fZH (oZretH)))) (oIld 1 (oAld 0 (oGet 12 42 (oCmplt (oAld 0 (oAld 0 (oGet 12 38 (oIld 1 (oJa (oPut 12 20 .long (oAld 0 (oAld 0 (oGet 12 40 (oIld 1 (oIa (oPut 12 21 .int (oAld 0 (oConst (.int 0) (oPut 12 41 .int (oAld 0 (oCal 1 (some 12) EX12_granted fZH (oZretH)))))))))))))))))) (oAld 0 (oConst (.int 1) (oCal 2 (some 12) EX12_denied fZH (oZretH)))))))))))))))
set_option maxRecDepth 20000 in
theorem sBX12_back_0 : Snd XX12_back fZH 0 (BX12_back_0) (0) (0) := by
  unfold BX12_back_0
  refine s_Aldn 0 rfl 1 dX12_back_0 rfl ?_
  refine s_iconst 2 0 (by decide) dX12_back_1 rfl ?_
  refine s_put 12 0 5 clX12 (by decide) rfl rfl pZH tw_1288 dX12_back_2 rfl ?_
  refine s_Aldn 0 rfl 6 dX12_back_5 rfl ?_
  refine s_get 12 3 9 clX12 (by decide) tw_1291 dX12_back_6 rfl ?_
  refine s_ifnull 24 12 dX12_back_9 (by decide) rfl ?_ ?_
  · refine s_Aldn 0 rfl 25 dX12_back_24 rfl ?_
    refine s_iconst 26 1 (by decide) dX12_back_25 rfl ?_
    refine s_cal0 29 (run_V (X := XX12_back) rfl clX12 yoX12_denied rfl tw_1982 tw_1984 tw_p110 (by decide) dX12_back_26) cmX12_denied (fun _ _ _ => rfl) rfl ?_
    exact s_zretH rfl dX12_back_29
  · refine s_Ildn 1 rfl 13 dX12_back_12 rfl ?_
    refine s_iflt 24 16 dX12_back_13 (by decide) rfl ?_ ?_
    · refine s_Aldn 0 rfl 25 dX12_back_24 rfl ?_
      refine s_iconst 26 1 (by decide) dX12_back_25 rfl ?_
      refine s_cal0 29 (run_V (X := XX12_back) rfl clX12 yoX12_denied rfl tw_1982 tw_1984 tw_p110 (by decide) dX12_back_26) cmX12_denied (fun _ _ _ => rfl) rfl ?_
      exact s_zretH rfl dX12_back_29
    · refine s_Ildn 1 rfl 17 dX12_back_16 rfl ?_
      refine s_Aldn 0 rfl 18 dX12_back_17 rfl ?_
      refine s_get 12 42 21 clX12 (by decide) tw_1330 dX12_back_18 rfl ?_
      refine s_cmplt 30 24 dX12_back_21 (by decide) rfl ?_ ?_
      · refine s_Aldn 0 rfl 31 dX12_back_30 rfl ?_
        refine s_Aldn 0 rfl 32 dX12_back_31 rfl ?_
        refine s_get 12 38 35 clX12 (by decide) tw_1326 dX12_back_32 rfl ?_
        refine s_Ildn 1 rfl 36 dX12_back_35 rfl ?_
        refine s_Ja 37 dX12_back_36 rfl ?_
        refine s_put 12 20 40 clX12 (by decide) rfl rfl pZH tw_1308 dX12_back_37 rfl ?_
        refine s_Aldn 0 rfl 41 dX12_back_40 rfl ?_
        refine s_Aldn 0 rfl 42 dX12_back_41 rfl ?_
        refine s_get 12 40 45 clX12 (by decide) tw_1328 dX12_back_42 rfl ?_
        refine s_Ildn 1 rfl 46 dX12_back_45 rfl ?_
        refine s_Ia 47 dX12_back_46 rfl ?_
        refine s_put 12 21 50 clX12 (by decide) rfl rfl pZH tw_1309 dX12_back_47 rfl ?_
        refine s_Aldn 0 rfl 51 dX12_back_50 rfl ?_
        refine s_iconst 52 0 (by decide) dX12_back_51 rfl ?_
        refine s_put 12 41 55 clX12 (by decide) rfl rfl pZH tw_1329 dX12_back_52 rfl ?_
        refine s_Aldn 0 rfl 56 dX12_back_55 rfl ?_
        refine s_cal0 59 (run_V (X := XX12_back) rfl clX12 yoX12_granted rfl tw_1990 tw_1992 tw_p112 (by decide) dX12_back_56) cmX12_granted (fun _ _ _ => rfl) rfl ?_
        exact s_zretH rfl dX12_back_59
      · refine s_Aldn 0 rfl 25 dX12_back_24 rfl ?_
        refine s_iconst 26 1 (by decide) dX12_back_25 rfl ?_
        refine s_cal0 29 (run_V (X := XX12_back) rfl clX12 yoX12_denied rfl tw_1982 tw_1984 tw_p110 (by decide) dX12_back_26) cmX12_denied (fun _ _ _ => rfl) rfl ?_
        exact s_zretH rfl dX12_back_29
def EX12_back : List Value → HP → Option (Bool × HP) := en 2 BX12_back_0
theorem cmX12_back : CM XX12_back EX12_back fZH 0 0 := CM.of rfl (by decide) rfl rfl sBX12_back_0
theorem yoX12_back : YO XX12_back 1 0 0 := ⟨tw_2022, rfl, tw_12, (by decide +kernel), rfl, rfl⟩
abbrev XX12_led : MX := (yX12_led, cX12_led, 4, (Option.some .int), Cond.code yX12_led cX12_led 4 (Option.some .int) :: WS, { frames := 3, cells := 0, slots := 0, locals := 67 })
def BX12_led_37 (k9 : KT (Int32 × HP)) : KT (Int32 × HP) :=
  oCal 2 (some 12) EX12_seenNow fI (oIfeq (oIld 2 (oIld 1 (oCmpne (oInc 2 1 (oInc 3 1 (oPick [0, 1, 2, 3] k9))) (oIld 3 (oIretH))))) (oInc 3 1 (oPick [0, 1, 2, 3] k9)))
set_option maxRecDepth 20000 in
theorem sBX12_led_37 {k9 : KT (Int32 × HP)} (hk9 : Snd XX12_led fIH 9 k9 0 0) : Snd XX12_led fIH 37 (BX12_led_37 k9) (0) (0) := by
  unfold BX12_led_37
  refine s_cal0 40 (run_V (X := XX12_led) rfl clX12 yoX12_seenNow rfl tw_1934 tw_1936 tw_p105 (by decide) dX12_led_37) cmX12_seenNow (fun _ _ _ => rfl) rfl ?_
  refine s_ifeq 46 43 dX12_led_40 (by decide) rfl ?_ ?_
  · refine s_Ildn 2 rfl 47 dX12_led_46 rfl ?_
    refine s_Ildn 1 rfl 48 dX12_led_47 rfl ?_
    refine s_cmpne 53 51 dX12_led_48 (by decide) rfl ?_ ?_
    · refine s_inc 2 1 56 (by decide) (by decide) dX12_led_53 rfl ?_
      refine s_inc 3 1 59 (by decide) (by decide) dX12_led_56 rfl ?_
      refine s_goto 9 dX12_led_59 (by decide) ?_
      exact s_pick hk9
    · refine s_Ildn 3 rfl 52 dX12_led_51 rfl ?_
      exact s_iretH rfl dX12_led_52
  · refine s_goto 56 dX12_led_43 (by decide) ?_
    refine s_inc 3 1 59 (by decide) (by decide) dX12_led_56 rfl ?_
    refine s_goto 9 dX12_led_59 (by decide) ?_
    exact s_pick hk9
def BX12_led_9 (k9 : KT (Int32 × HP)) : KT (Int32 × HP) :=
  oAld 0 (oGet 12 3 (oNul (oAld 0 (oConst (.int 1) (oPut 12 0 .int (oConst (.int 0) (oIretH))))) (oIld 3 (oAld 0 (oGet 12 3 (oGet 11 8 (oCmpge (oAld 0 (oConst (.int 1) (oPut 12 0 .int (oConst (.int 0) (oIretH))))) (oAld 0 (oAld 0 (oGet 12 3 (oGet 11 18 (oIld 3 (oIa (oPick [0, 1, 2, 3] (BX12_led_37 k9)))))))))))))))
set_option maxRecDepth 20000 in
theorem sBX12_led_9 {k9 : KT (Int32 × HP)} (hk9 : Snd XX12_led fIH 9 k9 0 0) : Snd XX12_led fIH 9 (BX12_led_9 k9) (0) (0) := by
  unfold BX12_led_9
  refine s_Aldn 0 rfl 10 dX12_led_9 rfl ?_
  refine s_get 12 3 13 clX12 (by decide) tw_1291 dX12_led_10 rfl ?_
  refine s_ifnull 62 16 dX12_led_13 (by decide) rfl ?_ ?_
  · refine s_Aldn 0 rfl 63 dX12_led_62 rfl ?_
    refine s_iconst 64 1 (by decide) dX12_led_63 rfl ?_
    refine s_put 12 0 67 clX12 (by decide) rfl rfl pIH tw_1288 dX12_led_64 rfl ?_
    refine s_iconst 68 0 (by decide) dX12_led_67 rfl ?_
    exact s_iretH rfl dX12_led_68
  · refine s_Ildn 3 rfl 17 dX12_led_16 rfl ?_
    refine s_Aldn 0 rfl 18 dX12_led_17 rfl ?_
    refine s_get 12 3 21 clX12 (by decide) tw_1291 dX12_led_18 rfl ?_
    refine s_getN 11 8 24 clX11 (by decide) nw_50 dX12_led_21 rfl ?_
    refine s_cmpge 62 27 dX12_led_24 (by decide) rfl ?_ ?_
    · refine s_Aldn 0 rfl 63 dX12_led_62 rfl ?_
      refine s_iconst 64 1 (by decide) dX12_led_63 rfl ?_
      refine s_put 12 0 67 clX12 (by decide) rfl rfl pIH tw_1288 dX12_led_64 rfl ?_
      refine s_iconst 68 0 (by decide) dX12_led_67 rfl ?_
      exact s_iretH rfl dX12_led_68
    · refine s_Aldn 0 rfl 28 dX12_led_27 rfl ?_
      refine s_Aldn 0 rfl 29 dX12_led_28 rfl ?_
      refine s_get 12 3 32 clX12 (by decide) tw_1291 dX12_led_29 rfl ?_
      refine s_getN 11 18 35 clX11 (by decide) nw_60 dX12_led_32 rfl ?_
      refine s_Ildn 3 rfl 36 dX12_led_35 rfl ?_
      refine s_Ia 37 dX12_led_36 rfl ?_
      exact s_pick (sBX12_led_37 hk9)
def BX12_led_0 : KT (Int32 × HP) :=
  oAld 0 (oConst (.int 0) (oPut 12 0 .int (oConst (.int 0) (oIst 2 (oConst (.int 0) (oIst 3 (oPick [0, 1, 2, 3] (lp (BX12_led_9) FU))))))))
set_option maxRecDepth 20000 in
theorem sBX12_led_0 : Snd XX12_led fIH 0 (BX12_led_0) (0) (0) := by
  unfold BX12_led_0
  refine s_Aldn 0 rfl 1 dX12_led_0 rfl ?_
  refine s_iconst 2 0 (by decide) dX12_led_1 rfl ?_
  refine s_put 12 0 5 clX12 (by decide) rfl rfl pIH tw_1288 dX12_led_2 rfl ?_
  refine s_iconst 6 0 (by decide) dX12_led_5 rfl ?_
  refine s_Istn 2 rfl 7 (by decide) dX12_led_6 rfl ?_
  refine s_iconst 8 0 (by decide) dX12_led_7 rfl ?_
  refine s_Istn 3 rfl 9 (by decide) dX12_led_8 rfl ?_
  exact s_pick (s_lp (fun k hk => sBX12_led_9  hk) FU)
def EX12_led : List Value → HP → Option (Int32 × HP) := en 4 BX12_led_0
theorem cmX12_led : CM XX12_led EX12_led fIH 0 0 := CM.of rfl (by decide) rfl rfl sBX12_led_0
theorem yoX12_led : YO XX12_led 1 0 0 := ⟨tw_2026, rfl, tw_12, (by decide +kernel), rfl, rfl⟩
abbrev XX12_size : MX := (yX12_size, cX12_size, 2, (Option.some .int), Cond.code yX12_size cX12_size 2 (Option.some .int) :: WS, { frames := 1, cells := 0, slots := 0, locals := 24 })
def BX12_size_164 : KT (Int32 × HP) :=
  oCal 1 none EX12_bits fI (oIretH)
set_option maxRecDepth 20000 in
theorem sBX12_size_164 : Snd XX12_size fIH 164 (BX12_size_164) (0) (0) := by
  unfold BX12_size_164
  refine s_cal0 167 (run_S (X := XX12_size) yoX12_bits tw_1675 tw_1676 (by decide) dX12_size_164) cmX12_bits (fun _ _ _ => rfl) rfl ?_
  exact s_iretH rfl dX12_size_167
def BX12_size_20 : KT (Int32 × HP) :=
  oCal 3 none EX12_in fZ (oIfne (oAld 0 (oGet 12 3 (oNul (oConst (.int 0) (oIretH)) (oIld 1 (oTab 0 [(oAld 0 (oGet 12 3 (oGet 11 0 (oIretH)))), (oAld 0 (oGet 12 3 (oGet 11 1 (oIretH)))), (oAld 0 (oGet 12 3 (oGet 11 2 (oIretH)))), (oAld 0 (oGet 12 3 (oGet 11 3 (oIretH)))), (oAld 0 (oGet 12 3 (oGet 11 8 (oIretH)))), (oAld 0 (oGet 12 3 (oGet 11 10 (oIretH)))), (oAld 0 (oGet 12 3 (oGet 11 9 (oIretH)))), (oAld 0 (oGet 12 3 (oGet 11 11 (oIretH)))), (oAld 0 (oGet 12 20 (oPick [] (BX12_size_164)))), (oAld 0 (oGet 12 21 (oIretH))), (oAld 0 (oGet 12 41 (oIretH)))] (oAld 0 (oGet 12 42 (oIretH)))))))) (oConst (.int (-1)) (oIretH)))
set_option maxRecDepth 20000 in
theorem sBX12_size_20 : Snd XX12_size fIH 20 (BX12_size_20) (0) (0) := by
  unfold BX12_size_20
  refine s_cal0 23 (run_S (X := XX12_size) yoX12_in tw_1589 tw_1590 (by decide) dX12_size_20) cmX12_in (fun _ _ _ => rfl) rfl ?_
  refine s_ifne 28 26 dX12_size_23 (by decide) rfl ?_ ?_
  · refine s_Aldn 0 rfl 29 dX12_size_28 rfl ?_
    refine s_get 12 3 32 clX12 (by decide) tw_1291 dX12_size_29 rfl ?_
    refine s_ifnonnull 37 35 dX12_size_32 (by decide) rfl ?_ ?_
    · refine s_Ildn 1 rfl 38 dX12_size_37 rfl ?_
      refine s_tab 0 10 0 [96, 104, 112, 120, 128, 136, 144, 152, 160, 168, 173] 178 dX12_size_38 rfl (by decide) (by decide) (by decide) (by decide) (by decide) ?_ ?_
      · refine s_Aldn 0 rfl 179 dX12_size_178 rfl ?_
        refine s_get 12 42 182 clX12 (by decide) tw_1330 dX12_size_179 rfl ?_
        exact s_iretH rfl dX12_size_182
      · refine Sall_cons ?_ ?_
        · refine s_Aldn 0 rfl 97 dX12_size_96 rfl ?_
          refine s_get 12 3 100 clX12 (by decide) tw_1291 dX12_size_97 rfl ?_
          refine s_getN 11 0 103 clX11 (by decide) nw_42 dX12_size_100 rfl ?_
          exact s_iretH rfl dX12_size_103
        · refine Sall_cons ?_ ?_
          · refine s_Aldn 0 rfl 105 dX12_size_104 rfl ?_
            refine s_get 12 3 108 clX12 (by decide) tw_1291 dX12_size_105 rfl ?_
            refine s_getN 11 1 111 clX11 (by decide) nw_43 dX12_size_108 rfl ?_
            exact s_iretH rfl dX12_size_111
          · refine Sall_cons ?_ ?_
            · refine s_Aldn 0 rfl 113 dX12_size_112 rfl ?_
              refine s_get 12 3 116 clX12 (by decide) tw_1291 dX12_size_113 rfl ?_
              refine s_getN 11 2 119 clX11 (by decide) nw_44 dX12_size_116 rfl ?_
              exact s_iretH rfl dX12_size_119
            · refine Sall_cons ?_ ?_
              · refine s_Aldn 0 rfl 121 dX12_size_120 rfl ?_
                refine s_get 12 3 124 clX12 (by decide) tw_1291 dX12_size_121 rfl ?_
                refine s_getN 11 3 127 clX11 (by decide) nw_45 dX12_size_124 rfl ?_
                exact s_iretH rfl dX12_size_127
              · refine Sall_cons ?_ ?_
                · refine s_Aldn 0 rfl 129 dX12_size_128 rfl ?_
                  refine s_get 12 3 132 clX12 (by decide) tw_1291 dX12_size_129 rfl ?_
                  refine s_getN 11 8 135 clX11 (by decide) nw_50 dX12_size_132 rfl ?_
                  exact s_iretH rfl dX12_size_135
                · refine Sall_cons ?_ ?_
                  · refine s_Aldn 0 rfl 137 dX12_size_136 rfl ?_
                    refine s_get 12 3 140 clX12 (by decide) tw_1291 dX12_size_137 rfl ?_
                    refine s_getN 11 10 143 clX11 (by decide) nw_52 dX12_size_140 rfl ?_
                    exact s_iretH rfl dX12_size_143
                  · refine Sall_cons ?_ ?_
                    · refine s_Aldn 0 rfl 145 dX12_size_144 rfl ?_
                      refine s_get 12 3 148 clX12 (by decide) tw_1291 dX12_size_145 rfl ?_
                      refine s_getN 11 9 151 clX11 (by decide) nw_51 dX12_size_148 rfl ?_
                      exact s_iretH rfl dX12_size_151
                    · refine Sall_cons ?_ ?_
                      · refine s_Aldn 0 rfl 153 dX12_size_152 rfl ?_
                        refine s_get 12 3 156 clX12 (by decide) tw_1291 dX12_size_153 rfl ?_
                        refine s_getN 11 11 159 clX11 (by decide) nw_53 dX12_size_156 rfl ?_
                        exact s_iretH rfl dX12_size_159
                      · refine Sall_cons ?_ ?_
                        · refine s_Aldn 0 rfl 161 dX12_size_160 rfl ?_
                          refine s_get 12 20 164 clX12 (by decide) tw_1308 dX12_size_161 rfl ?_
                          exact s_pick (sBX12_size_164)
                        · refine Sall_cons ?_ ?_
                          · refine s_Aldn 0 rfl 169 dX12_size_168 rfl ?_
                            refine s_get 12 21 172 clX12 (by decide) tw_1309 dX12_size_169 rfl ?_
                            exact s_iretH rfl dX12_size_172
                          · refine Sall_cons ?_ ?_
                            · refine s_Aldn 0 rfl 174 dX12_size_173 rfl ?_
                              refine s_get 12 41 177 clX12 (by decide) tw_1329 dX12_size_174 rfl ?_
                              exact s_iretH rfl dX12_size_177
                            · exact Sall_nil
    · refine s_iconst 36 0 (by decide) dX12_size_35 rfl ?_
      exact s_iretH rfl dX12_size_36
  · refine s_iconst 27 (-1) (by decide) dX12_size_26 rfl ?_
    exact s_iretH rfl dX12_size_27
def BX12_size_0 : KT (Int32 × HP) :=
  oAld 0 (oConst (.int 0) (oPut 12 0 .int (oIld 1 (oConst (.int 12) (oCmpne (oIld 1 (oConst (.int 0) (oConst (.int 11) (oPick [0, 1] (BX12_size_20))))) (oAld 0 (oGet 12 6 (oIretH))))))))
set_option maxRecDepth 20000 in
theorem sBX12_size_0 : Snd XX12_size fIH 0 (BX12_size_0) (0) (0) := by
  unfold BX12_size_0
  refine s_Aldn 0 rfl 1 dX12_size_0 rfl ?_
  refine s_iconst 2 0 (by decide) dX12_size_1 rfl ?_
  refine s_put 12 0 5 clX12 (by decide) rfl rfl pIH tw_1288 dX12_size_2 rfl ?_
  refine s_Ildn 1 rfl 6 dX12_size_5 rfl ?_
  refine s_bipush 8 12 (by decide) dX12_size_6 rfl ?_
  refine s_cmpne 16 11 dX12_size_8 (by decide) rfl ?_ ?_
  · refine s_Ildn 1 rfl 17 dX12_size_16 rfl ?_
    refine s_iconst 18 0 (by decide) dX12_size_17 rfl ?_
    refine s_bipush 20 11 (by decide) dX12_size_18 rfl ?_
    exact s_pick (sBX12_size_20)
  · refine s_Aldn 0 rfl 12 dX12_size_11 rfl ?_
    refine s_get 12 6 15 clX12 (by decide) tw_1294 dX12_size_12 rfl ?_
    exact s_iretH rfl dX12_size_15
def EX12_size : List Value → HP → Option (Int32 × HP) := en 2 BX12_size_0
theorem cmX12_size : CM XX12_size EX12_size fIH 0 0 := CM.of rfl (by decide) rfl rfl sBX12_size_0
theorem yoX12_size : YO XX12_size 1 0 0 := ⟨tw_2030, rfl, tw_12, (by decide +kernel), rfl, rfl⟩
abbrev XX12_trouble : MX := (yX12_trouble, cX12_trouble, 1, (Option.some .int), Cond.code yX12_trouble cX12_trouble 1 (Option.some .int) :: WS, { frames := 0, cells := 0, slots := 0, locals := 0 })
def BX12_trouble_0 : KT (Int32 × HP) :=
  oAld 0 (oConst (.int 0) (oPut 12 0 .int (oAld 0 (oGet 12 1 (oIretH)))))
set_option maxRecDepth 20000 in
theorem sBX12_trouble_0 : Snd XX12_trouble fIH 0 (BX12_trouble_0) (0) (0) := by
  unfold BX12_trouble_0
  refine s_Aldn 0 rfl 1 dX12_trouble_0 rfl ?_
  refine s_iconst 2 0 (by decide) dX12_trouble_1 rfl ?_
  refine s_put 12 0 5 clX12 (by decide) rfl rfl pIH tw_1288 dX12_trouble_2 rfl ?_
  refine s_Aldn 0 rfl 6 dX12_trouble_5 rfl ?_
  refine s_get 12 1 9 clX12 (by decide) tw_1289 dX12_trouble_6 rfl ?_
  exact s_iretH rfl dX12_trouble_9
def EX12_trouble : List Value → HP → Option (Int32 × HP) := en 1 BX12_trouble_0
theorem cmX12_trouble : CM XX12_trouble EX12_trouble fIH 0 0 := CM.of rfl (by decide) rfl rfl sBX12_trouble_0
theorem yoX12_trouble : YO XX12_trouble 0 0 0 := ⟨tw_2034, rfl, tw_12, (by decide +kernel), rfl, rfl⟩
end
