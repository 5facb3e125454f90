noncomputable section
abbrev XX0_init : MX := (yX0_init, cX0_init, 1, none, Cond.code yX0_init cX0_init 1 none :: WS, { frames := 1, cells := 1, slots := 192, locals := 20 })
def BX0_init_0 : KT HP :=
  oAld 0 (oPopA (oAld 0 (oConst (.int 192) (oNar 1 zI 192 (oPut 0 0 (.array .int) (oVretH))))))
set_option maxRecDepth 20000 in
theorem sBX0_init_0 : Snd XX0_init fVH 0 (BX0_init_0) (1) (192) := by
  unfold BX0_init_0
  refine s_Aldn 0 rfl 1 dX0_init_0 rfl ?_
  refine s_objI 4 tw_154 tw_31 tw_32 (by decide) (by decide) dX0_init_1 rfl ?_
  refine s_Aldn 0 rfl 5 dX0_init_4 rfl ?_
  refine s_sipush 8 192 (by decide) dX0_init_5 rfl ?_
  refine s_narI (mc := 0) (ms := 0) 192 10 (by decide) pVH tw_126 dX0_init_8 rfl ?_
  refine s_putF 0 0 13 clX0 (by decide) rfl rfl rfl rfl pVH tw_155 dX0_init_10 rfl ?_
  exact s_vretH rfl dX0_init_13
def EX0_init : List Value → HP → Option HP := en 1 BX0_init_0
theorem cmX0_init : CM XX0_init EX0_init fVH 1 192 := CM.of rfl (by decide) rfl rfl sBX0_init_0
theorem yoX0_init : YO XX0_init 0 1 192 := ⟨tw_153, rfl, tw_8, (by decide +kernel), rfl, rfl⟩
abbrev XX0_number : MX := (yX0_number, cX0_number, 3, (Option.some .int), Cond.code yX0_number cX0_number 3 (Option.some .int) :: WS, { frames := 0, cells := 0, slots := 0, locals := 0 })
def BX0_number_0 : KT Int32 :=
  oAld 0 (oGet 0 1 (oIld 2 (oimul (oIld 1 (oiadd (oIretP))))))
set_option maxRecDepth 20000 in
theorem sBX0_number_0 : Snd XX0_number fI 0 (BX0_number_0) (0) (0) := by
  unfold BX0_number_0
  refine s_Aldn 0 rfl 1 dX0_number_0 rfl ?_
  refine s_get 0 1 4 clX0 (by decide) tw_156 dX0_number_1 rfl ?_
  refine s_Ildn 2 rfl 5 dX0_number_4 rfl ?_
  refine s_imul 6 dX0_number_5 rfl ?_
  refine s_Ildn 1 rfl 7 dX0_number_6 rfl ?_
  refine s_iadd 8 dX0_number_7 rfl ?_
  exact s_iretP rfl dX0_number_8
def EX0_number : List Value → HP → Option Int32 := en 3 BX0_number_0
theorem cmX0_number : CM XX0_number EX0_number fI 0 0 := CM.of rfl (by decide) rfl rfl sBX0_number_0
theorem yoX0_number : YO XX0_number 2 0 0 := ⟨tw_437, rfl, tw_8, (by decide +kernel), rfl, rfl⟩
abbrev XX0_isInside : MX := (yX0_isInside, cX0_isInside, 3, (Option.some .boolean), Cond.code yX0_isInside cX0_isInside 3 (Option.some .boolean) :: WS, { frames := 0, cells := 0, slots := 0, locals := 0 })
def BX0_isInside_0 : KT Bool :=
  oIld 1 (oIflt (oConst (.int 0) (oZretP)) (oIld 1 (oAld 0 (oGet 0 1 (oCmpge (oConst (.int 0) (oZretP)) (oIld 2 (oIflt (oConst (.int 0) (oZretP)) (oIld 2 (oAld 0 (oGet 0 2 (oCmpge (oConst (.int 0) (oZretP)) (oConst (.int 1) (oZretP)))))))))))))
set_option maxRecDepth 20000 in
theorem sBX0_isInside_0 : Snd XX0_isInside fZ 0 (BX0_isInside_0) (0) (0) := by
  unfold BX0_isInside_0
  refine s_Ildn 1 rfl 1 dX0_isInside_0 rfl ?_
  refine s_iflt 28 4 dX0_isInside_1 (by decide) rfl ?_ ?_
  · refine s_iconst 29 0 (by decide) dX0_isInside_28 rfl ?_
    exact s_zretP rfl dX0_isInside_29
  · refine s_Ildn 1 rfl 5 dX0_isInside_4 rfl ?_
    refine s_Aldn 0 rfl 6 dX0_isInside_5 rfl ?_
    refine s_get 0 1 9 clX0 (by decide) tw_156 dX0_isInside_6 rfl ?_
    refine s_cmpge 28 12 dX0_isInside_9 (by decide) rfl ?_ ?_
    · refine s_iconst 29 0 (by decide) dX0_isInside_28 rfl ?_
      exact s_zretP rfl dX0_isInside_29
    · refine s_Ildn 2 rfl 13 dX0_isInside_12 rfl ?_
      refine s_iflt 28 16 dX0_isInside_13 (by decide) rfl ?_ ?_
      · refine s_iconst 29 0 (by decide) dX0_isInside_28 rfl ?_
        exact s_zretP rfl dX0_isInside_29
      · refine s_Ildn 2 rfl 17 dX0_isInside_16 rfl ?_
        refine s_Aldn 0 rfl 18 dX0_isInside_17 rfl ?_
        refine s_get 0 2 21 clX0 (by decide) tw_159 dX0_isInside_18 rfl ?_
        refine s_cmpge 28 24 dX0_isInside_21 (by decide) rfl ?_ ?_
        · refine s_iconst 29 0 (by decide) dX0_isInside_28 rfl ?_
          exact s_zretP rfl dX0_isInside_29
        · refine s_iconst 25 1 (by decide) dX0_isInside_24 rfl ?_
          refine s_goto 29 dX0_isInside_25 (by decide) ?_
          exact s_zretP rfl dX0_isInside_29
def EX0_isInside : List Value → HP → Option Bool := en 3 BX0_isInside_0
theorem cmX0_isInside : CM XX0_isInside EX0_isInside fZ 0 0 := CM.of rfl (by decide) rfl rfl sBX0_isInside_0
theorem yoX0_isInside : YO XX0_isInside 2 0 0 := ⟨tw_445, rfl, tw_8, (by decide +kernel), rfl, rfl⟩
abbrev XX0_layBeside : MX := (yX0_layBeside, cX0_layBeside, 7, none, Cond.code yX0_layBeside cX0_layBeside 7 none :: WS, { frames := 1, cells := 0, slots := 0, locals := 22 })
def BX0_layBeside_38 : KT HP :=
  oCal 3 (some 0) EX0_isInside fZ (oIfeq (oConst (.int (-1)) (oIw (oVretH))) (oAld 0 (oIld 4 (oIld 5 (oCal 3 (some 0) EX0_number fI (oIw (oVretH)))))))
set_option maxRecDepth 20000 in
theorem sBX0_layBeside_38 : Snd XX0_layBeside fVH 38 (BX0_layBeside_38) (0) (0) := by
  unfold BX0_layBeside_38
  refine s_cal0 41 (run_V (X := XX0_layBeside) rfl clX0 yoX0_isInside rfl tw_442 tw_443 tw_444 (by decide) dX0_layBeside_38) cmX0_isInside (fun _ _ _ => rfl) rfl ?_
  refine s_ifeq 55 44 dX0_layBeside_41 (by decide) rfl ?_ ?_
  · refine s_iconst 56 (-1) (by decide) dX0_layBeside_55 rfl ?_
    refine s_Iw 57 pVH dX0_layBeside_56 rfl ?_
    exact s_vretH rfl dX0_layBeside_57
  · refine s_Aldn 0 rfl 45 dX0_layBeside_44 rfl ?_
    refine s_Ild 4 47 dX0_layBeside_45 rfl ?_
    refine s_Ild 5 49 dX0_layBeside_47 rfl ?_
    refine s_cal0 52 (run_V (X := XX0_layBeside) rfl clX0 yoX0_number rfl tw_434 tw_435 tw_436 (by decide) dX0_layBeside_49) cmX0_number (fun _ _ _ => rfl) rfl ?_
    refine s_goto 56 dX0_layBeside_52 (by decide) ?_
    refine s_Iw 57 pVH dX0_layBeside_56 rfl ?_
    exact s_vretH rfl dX0_layBeside_57
def BX0_layBeside_0 : KT HP :=
  oAld 0 (oIld 1 (oIld 2 (oCal 3 (some 0) EX0_number fI (oConst (.int 4) (oimul (oIld 3 (oiadd (oIst 6 (oIld 6 (oIflt (oVretH) (oIld 6 (oAld 0 (oGet 0 0 (oLen (oCmpge (oVretH) (oAld 0 (oGet 0 0 (oIld 6 (oAld 0 (oIld 4 (oIld 5 (oPick [0, 4, 5] (BX0_layBeside_38)))))))))))))))))))))))
set_option maxRecDepth 20000 in
theorem sBX0_layBeside_0 : Snd XX0_layBeside fVH 0 (BX0_layBeside_0) (0) (0) := by
  unfold BX0_layBeside_0
  refine s_Aldn 0 rfl 1 dX0_layBeside_0 rfl ?_
  refine s_Ildn 1 rfl 2 dX0_layBeside_1 rfl ?_
  refine s_Ildn 2 rfl 3 dX0_layBeside_2 rfl ?_
  refine s_cal0 6 (run_V (X := XX0_layBeside) rfl clX0 yoX0_number rfl tw_434 tw_435 tw_436 (by decide) dX0_layBeside_3) cmX0_number (fun _ _ _ => rfl) rfl ?_
  refine s_iconst 7 4 (by decide) dX0_layBeside_6 rfl ?_
  refine s_imul 8 dX0_layBeside_7 rfl ?_
  refine s_Ildn 3 rfl 9 dX0_layBeside_8 rfl ?_
  refine s_iadd 10 dX0_layBeside_9 rfl ?_
  refine s_Ist 6 12 (by decide) dX0_layBeside_10 rfl ?_
  refine s_Ild 6 14 dX0_layBeside_12 rfl ?_
  refine s_iflt 57 17 dX0_layBeside_14 (by decide) rfl ?_ ?_
  · exact s_vretH rfl dX0_layBeside_57
  · refine s_Ild 6 19 dX0_layBeside_17 rfl ?_
    refine s_Aldn 0 rfl 20 dX0_layBeside_19 rfl ?_
    refine s_get 0 0 23 clX0 (by decide) tw_155 dX0_layBeside_20 rfl ?_
    refine s_len 24 dX0_layBeside_23 rfl ?_
    refine s_cmpge 57 27 dX0_layBeside_24 (by decide) rfl ?_ ?_
    · exact s_vretH rfl dX0_layBeside_57
    · refine s_Aldn 0 rfl 28 dX0_layBeside_27 rfl ?_
      refine s_get 0 0 31 clX0 (by decide) tw_155 dX0_layBeside_28 rfl ?_
      refine s_Ild 6 33 dX0_layBeside_31 rfl ?_
      refine s_Aldn 0 rfl 34 dX0_layBeside_33 rfl ?_
      refine s_Ild 4 36 dX0_layBeside_34 rfl ?_
      refine s_Ild 5 38 dX0_layBeside_36 rfl ?_
      exact s_pick (sBX0_layBeside_38)
def EX0_layBeside : List Value → HP → Option HP := en 7 BX0_layBeside_0
theorem cmX0_layBeside : CM XX0_layBeside EX0_layBeside fVH 0 0 := CM.of rfl (by decide) rfl rfl sBX0_layBeside_0
theorem yoX0_layBeside : YO XX0_layBeside 5 0 0 := ⟨tw_441, rfl, tw_8, (by decide +kernel), rfl, rfl⟩
abbrev XX0_lay : MX := (yX0_lay, cX0_lay, 5, none, Cond.code yX0_lay cX0_lay 5 none :: WS, { frames := 2, cells := 0, slots := 0, locals := 48 })
def BX0_lay_143 (k42 : KT HP) (k88 : KT HP) : KT HP :=
  oCal 6 (some 0) EX0_layBeside fVH (oInc 4 1 (oPick [0, 1, 2, 3, 4] k88))
set_option maxRecDepth 20000 in
theorem sBX0_lay_143 {k42 : KT HP} (hk42 : Snd XX0_lay fVH 42 k42 0 0) {k88 : KT HP} (hk88 : Snd XX0_lay fVH 88 k88 0 0) : Snd XX0_lay fVH 143 (BX0_lay_143 k42 k88) (0) (0) := by
  unfold BX0_lay_143
  refine s_cal0 146 (run_V (X := XX0_lay) rfl clX0 yoX0_layBeside rfl tw_438 tw_440 tw_p1 (by decide) dX0_lay_143) cmX0_layBeside (fun _ _ _ => rfl) rfl ?_
  refine s_inc 4 1 149 (by decide) (by decide) dX0_lay_146 rfl ?_
  refine s_goto 88 dX0_lay_149 (by decide) ?_
  exact s_pick hk88
def BX0_lay_130 (k42 : KT HP) (k88 : KT HP) : KT HP :=
  oCal 6 (some 0) EX0_layBeside fVH (oAld 0 (oIld 4 (oIld 3 (oConst (.int 3) (oIld 4 (oConst (.int 1) (oisub (oIld 3 (oPick [0, 1, 2, 3, 4] (BX0_lay_143 k42 k88))))))))))
set_option maxRecDepth 20000 in
theorem sBX0_lay_130 {k42 : KT HP} (hk42 : Snd XX0_lay fVH 42 k42 0 0) {k88 : KT HP} (hk88 : Snd XX0_lay fVH 88 k88 0 0) : Snd XX0_lay fVH 130 (BX0_lay_130 k42 k88) (0) (0) := by
  unfold BX0_lay_130
  refine s_cal0 133 (run_V (X := XX0_lay) rfl clX0 yoX0_layBeside rfl tw_438 tw_440 tw_p1 (by decide) dX0_lay_130) cmX0_layBeside (fun _ _ _ => rfl) rfl ?_
  refine s_Aldn 0 rfl 134 dX0_lay_133 rfl ?_
  refine s_Ild 4 136 dX0_lay_134 rfl ?_
  refine s_Ildn 3 rfl 137 dX0_lay_136 rfl ?_
  refine s_iconst 138 3 (by decide) dX0_lay_137 rfl ?_
  refine s_Ild 4 140 dX0_lay_138 rfl ?_
  refine s_iconst 141 1 (by decide) dX0_lay_140 rfl ?_
  refine s_isub 142 dX0_lay_141 rfl ?_
  refine s_Ildn 3 rfl 143 dX0_lay_142 rfl ?_
  exact s_pick (sBX0_lay_143 hk42 hk88)
def BX0_lay_117 (k42 : KT HP) (k88 : KT HP) : KT HP :=
  oCal 6 (some 0) EX0_layBeside fVH (oAld 0 (oIld 4 (oIld 3 (oConst (.int 2) (oIld 4 (oIld 3 (oConst (.int 1) (oiadd (oPick [0, 1, 2, 3, 4] (BX0_lay_130 k42 k88))))))))))
set_option maxRecDepth 20000 in
theorem sBX0_lay_117 {k42 : KT HP} (hk42 : Snd XX0_lay fVH 42 k42 0 0) {k88 : KT HP} (hk88 : Snd XX0_lay fVH 88 k88 0 0) : Snd XX0_lay fVH 117 (BX0_lay_117 k42 k88) (0) (0) := by
  unfold BX0_lay_117
  refine s_cal0 120 (run_V (X := XX0_lay) rfl clX0 yoX0_layBeside rfl tw_438 tw_440 tw_p1 (by decide) dX0_lay_117) cmX0_layBeside (fun _ _ _ => rfl) rfl ?_
  refine s_Aldn 0 rfl 121 dX0_lay_120 rfl ?_
  refine s_Ild 4 123 dX0_lay_121 rfl ?_
  refine s_Ildn 3 rfl 124 dX0_lay_123 rfl ?_
  refine s_iconst 125 2 (by decide) dX0_lay_124 rfl ?_
  refine s_Ild 4 127 dX0_lay_125 rfl ?_
  refine s_Ildn 3 rfl 128 dX0_lay_127 rfl ?_
  refine s_iconst 129 1 (by decide) dX0_lay_128 rfl ?_
  refine s_iadd 130 dX0_lay_129 rfl ?_
  exact s_pick (sBX0_lay_130 hk42 hk88)
def BX0_lay_104 (k42 : KT HP) (k88 : KT HP) : KT HP :=
  oCal 6 (some 0) EX0_layBeside fVH (oAld 0 (oIld 4 (oIld 3 (oConst (.int 1) (oIld 4 (oConst (.int 1) (oiadd (oIld 3 (oPick [0, 1, 2, 3, 4] (BX0_lay_117 k42 k88))))))))))
set_option maxRecDepth 20000 in
theorem sBX0_lay_104 {k42 : KT HP} (hk42 : Snd XX0_lay fVH 42 k42 0 0) {k88 : KT HP} (hk88 : Snd XX0_lay fVH 88 k88 0 0) : Snd XX0_lay fVH 104 (BX0_lay_104 k42 k88) (0) (0) := by
  unfold BX0_lay_104
  refine s_cal0 107 (run_V (X := XX0_lay) rfl clX0 yoX0_layBeside rfl tw_438 tw_440 tw_p1 (by decide) dX0_lay_104) cmX0_layBeside (fun _ _ _ => rfl) rfl ?_
  refine s_Aldn 0 rfl 108 dX0_lay_107 rfl ?_
  refine s_Ild 4 110 dX0_lay_108 rfl ?_
  refine s_Ildn 3 rfl 111 dX0_lay_110 rfl ?_
  refine s_iconst 112 1 (by decide) dX0_lay_111 rfl ?_
  refine s_Ild 4 114 dX0_lay_112 rfl ?_
  refine s_iconst 115 1 (by decide) dX0_lay_114 rfl ?_
  refine s_iadd 116 dX0_lay_115 rfl ?_
  refine s_Ildn 3 rfl 117 dX0_lay_116 rfl ?_
  exact s_pick (sBX0_lay_117 hk42 hk88)
def BX0_lay_88 (k42 : KT HP) (k88 : KT HP) : KT HP :=
  oIld 4 (oIld 1 (oCmpge (oInc 3 1 (oPick [0, 1, 2, 3] k42)) (oAld 0 (oIld 4 (oIld 3 (oConst (.int 0) (oIld 4 (oIld 3 (oConst (.int 1) (oisub (oPick [0, 1, 2, 3, 4] (BX0_lay_104 k42 k88))))))))))))
set_option maxRecDepth 20000 in
theorem sBX0_lay_88 {k42 : KT HP} (hk42 : Snd XX0_lay fVH 42 k42 0 0) {k88 : KT HP} (hk88 : Snd XX0_lay fVH 88 k88 0 0) : Snd XX0_lay fVH 88 (BX0_lay_88 k42 k88) (0) (0) := by
  unfold BX0_lay_88
  refine s_Ild 4 90 dX0_lay_88 rfl ?_
  refine s_Ildn 1 rfl 91 dX0_lay_90 rfl ?_
  refine s_cmpge 152 94 dX0_lay_91 (by decide) rfl ?_ ?_
  · refine s_inc 3 1 155 (by decide) (by decide) dX0_lay_152 rfl ?_
    refine s_goto 42 dX0_lay_155 (by decide) ?_
    exact s_pick hk42
  · refine s_Aldn 0 rfl 95 dX0_lay_94 rfl ?_
    refine s_Ild 4 97 dX0_lay_95 rfl ?_
    refine s_Ildn 3 rfl 98 dX0_lay_97 rfl ?_
    refine s_iconst 99 0 (by decide) dX0_lay_98 rfl ?_
    refine s_Ild 4 101 dX0_lay_99 rfl ?_
    refine s_Ildn 3 rfl 102 dX0_lay_101 rfl ?_
    refine s_iconst 103 1 (by decide) dX0_lay_102 rfl ?_
    refine s_isub 104 dX0_lay_103 rfl ?_
    exact s_pick (sBX0_lay_104 hk42 hk88)
def BX0_lay_42 (k42 : KT HP) : KT HP :=
  oIld 3 (oIld 2 (oCmpge (oVretH) (oAld 0 (odup (oGet 0 5 (oAld 0 (oConst (.int 0) (oIld 3 (oCal 3 (some 0) EX0_number fI (oCal 1 none EX10_bit fL (olor (oPut 0 5 .long (oAld 0 (odup (oGet 0 6 (oAld 0 (oIld 1 (oConst (.int 1) (oisub (oIld 3 (oCal 3 (some 0) EX0_number fI (oCal 1 none EX10_bit fL (olor (oPut 0 6 .long (oConst (.int 0) (oIst 4 (oPick [0, 1, 2, 3, 4] (lp (BX0_lay_88 k42) FU))))))))))))))))))))))))))))
set_option maxRecDepth 20000 in
theorem sBX0_lay_42 {k42 : KT HP} (hk42 : Snd XX0_lay fVH 42 k42 0 0) : Snd XX0_lay fVH 42 (BX0_lay_42 k42) (0) (0) := by
  unfold BX0_lay_42
  refine s_Ildn 3 rfl 43 dX0_lay_42 rfl ?_
  refine s_Ildn 2 rfl 44 dX0_lay_43 rfl ?_
  refine s_cmpge 158 47 dX0_lay_44 (by decide) rfl ?_ ?_
  · exact s_vretH rfl dX0_lay_158
  · refine s_Aldn 0 rfl 48 dX0_lay_47 rfl ?_
    refine s_dup 49 dX0_lay_48 rfl ?_
    refine s_get 0 5 52 clX0 (by decide) tw_167 dX0_lay_49 rfl ?_
    refine s_Aldn 0 rfl 53 dX0_lay_52 rfl ?_
    refine s_iconst 54 0 (by decide) dX0_lay_53 rfl ?_
    refine s_Ildn 3 rfl 55 dX0_lay_54 rfl ?_
    refine s_cal0 58 (run_V (X := XX0_lay) rfl clX0 yoX0_number rfl tw_434 tw_435 tw_436 (by decide) dX0_lay_55) cmX0_number (fun _ _ _ => rfl) rfl ?_
    refine s_cal0 61 (run_SN (X := XX0_lay) yoX10_bit nw_74 tw_432 (by decide) dX0_lay_58) cmX10_bit (fun _ _ _ => rfl) rfl ?_
    refine s_lor 62 dX0_lay_61 rfl ?_
    refine s_put 0 5 65 clX0 (by decide) rfl rfl pVH tw_167 dX0_lay_62 rfl ?_
    refine s_Aldn 0 rfl 66 dX0_lay_65 rfl ?_
    refine s_dup 67 dX0_lay_66 rfl ?_
    refine s_get 0 6 70 clX0 (by decide) tw_168 dX0_lay_67 rfl ?_
    refine s_Aldn 0 rfl 71 dX0_lay_70 rfl ?_
    refine s_Ildn 1 rfl 72 dX0_lay_71 rfl ?_
    refine s_iconst 73 1 (by decide) dX0_lay_72 rfl ?_
    refine s_isub 74 dX0_lay_73 rfl ?_
    refine s_Ildn 3 rfl 75 dX0_lay_74 rfl ?_
    refine s_cal0 78 (run_V (X := XX0_lay) rfl clX0 yoX0_number rfl tw_434 tw_435 tw_436 (by decide) dX0_lay_75) cmX0_number (fun _ _ _ => rfl) rfl ?_
    refine s_cal0 81 (run_SN (X := XX0_lay) yoX10_bit nw_74 tw_432 (by decide) dX0_lay_78) cmX10_bit (fun _ _ _ => rfl) rfl ?_
    refine s_lor 82 dX0_lay_81 rfl ?_
    refine s_put 0 6 85 clX0 (by decide) rfl rfl pVH tw_168 dX0_lay_82 rfl ?_
    refine s_iconst 86 0 (by decide) dX0_lay_85 rfl ?_
    refine s_Ist 4 88 (by decide) dX0_lay_86 rfl ?_
    exact s_pick (s_lp (fun k hk => sBX0_lay_88 hk42 hk) FU)
def BX0_lay_0 : KT HP :=
  oAld 0 (oIld 1 (oPut 0 1 .int (oAld 0 (oIld 2 (oPut 0 2 .int (oAld 0 (oIld 1 (oIld 2 (oimul (oPut 0 3 .int (oAld 0 (oAld 0 (oGet 0 3 (oCal 1 none EX10_bit fL (oConst (.long 1) (olsub (oPut 0 4 .long (oAld 0 (oConst (.long 0) (oPut 0 5 .long (oAld 0 (oConst (.long 0) (oPut 0 6 .long (oConst (.int 0) (oIst 3 (oPick [0, 1, 2, 3] (lp (BX0_lay_42) FU)))))))))))))))))))))))))))
set_option maxRecDepth 20000 in
theorem sBX0_lay_0 : Snd XX0_lay fVH 0 (BX0_lay_0) (0) (0) := by
  unfold BX0_lay_0
  refine s_Aldn 0 rfl 1 dX0_lay_0 rfl ?_
  refine s_Ildn 1 rfl 2 dX0_lay_1 rfl ?_
  refine s_put 0 1 5 clX0 (by decide) rfl rfl pVH tw_156 dX0_lay_2 rfl ?_
  refine s_Aldn 0 rfl 6 dX0_lay_5 rfl ?_
  refine s_Ildn 2 rfl 7 dX0_lay_6 rfl ?_
  refine s_put 0 2 10 clX0 (by decide) rfl rfl pVH tw_159 dX0_lay_7 rfl ?_
  refine s_Aldn 0 rfl 11 dX0_lay_10 rfl ?_
  refine s_Ildn 1 rfl 12 dX0_lay_11 rfl ?_
  refine s_Ildn 2 rfl 13 dX0_lay_12 rfl ?_
  refine s_imul 14 dX0_lay_13 rfl ?_
  refine s_put 0 3 17 clX0 (by decide) rfl rfl pVH tw_162 dX0_lay_14 rfl ?_
  refine s_Aldn 0 rfl 18 dX0_lay_17 rfl ?_
  refine s_Aldn 0 rfl 19 dX0_lay_18 rfl ?_
  refine s_get 0 3 22 clX0 (by decide) tw_162 dX0_lay_19 rfl ?_
  refine s_cal0 25 (run_SN (X := XX0_lay) yoX10_bit nw_74 tw_432 (by decide) dX0_lay_22) cmX10_bit (fun _ _ _ => rfl) rfl ?_
  refine s_lconst 26 1 (by decide) dX0_lay_25 rfl ?_
  refine s_lsub 27 dX0_lay_26 rfl ?_
  refine s_put 0 4 30 clX0 (by decide) rfl rfl pVH tw_165 dX0_lay_27 rfl ?_
  refine s_Aldn 0 rfl 31 dX0_lay_30 rfl ?_
  refine s_lconst 32 0 (by decide) dX0_lay_31 rfl ?_
  refine s_put 0 5 35 clX0 (by decide) rfl rfl pVH tw_167 dX0_lay_32 rfl ?_
  refine s_Aldn 0 rfl 36 dX0_lay_35 rfl ?_
  refine s_lconst 37 0 (by decide) dX0_lay_36 rfl ?_
  refine s_put 0 6 40 clX0 (by decide) rfl rfl pVH tw_168 dX0_lay_37 rfl ?_
  refine s_iconst 41 0 (by decide) dX0_lay_40 rfl ?_
  refine s_Istn 3 rfl 42 (by decide) dX0_lay_41 rfl ?_
  exact s_pick (s_lp (fun k hk => sBX0_lay_42  hk) FU)
def EX0_lay : List Value → HP → Option HP := en 5 BX0_lay_0
theorem cmX0_lay : CM XX0_lay EX0_lay fVH 0 0 := CM.of rfl (by decide) rfl rfl sBX0_lay_0
theorem yoX0_lay : YO XX0_lay 2 0 0 := ⟨tw_430, rfl, tw_8, (by decide +kernel), rfl, rfl⟩
abbrev XX0_cellTo : MX := (yX0_cellTo, cX0_cellTo, 4, (Option.some .int), Cond.code yX0_cellTo cX0_cellTo 4 (Option.some .int) :: WS, { frames := 0, cells := 0, slots := 0, locals := 0 })
def BX0_cellTo_0 : KT Int32 :=
  oIld 2 (oConst (.int 4) (oimul (oIld 1 (oiadd (oIst 3 (oIld 3 (oIflt (oConst (.int (-1)) (oIretP)) (oIld 3 (oAld 0 (oGet 0 0 (oLen (oCmpge (oConst (.int (-1)) (oIretP)) (oAld 0 (oGet 0 0 (oIld 3 (oIa (oIretP)))))))))))))))))
set_option maxRecDepth 20000 in
theorem sBX0_cellTo_0 : Snd XX0_cellTo fI 0 (BX0_cellTo_0) (0) (0) := by
  unfold BX0_cellTo_0
  refine s_Ildn 2 rfl 1 dX0_cellTo_0 rfl ?_
  refine s_iconst 2 4 (by decide) dX0_cellTo_1 rfl ?_
  refine s_imul 3 dX0_cellTo_2 rfl ?_
  refine s_Ildn 1 rfl 4 dX0_cellTo_3 rfl ?_
  refine s_iadd 5 dX0_cellTo_4 rfl ?_
  refine s_Istn 3 rfl 6 (by decide) dX0_cellTo_5 rfl ?_
  refine s_Ildn 3 rfl 7 dX0_cellTo_6 rfl ?_
  refine s_iflt 28 10 dX0_cellTo_7 (by decide) rfl ?_ ?_
  · refine s_iconst 29 (-1) (by decide) dX0_cellTo_28 rfl ?_
    exact s_iretP rfl dX0_cellTo_29
  · refine s_Ildn 3 rfl 11 dX0_cellTo_10 rfl ?_
    refine s_Aldn 0 rfl 12 dX0_cellTo_11 rfl ?_
    refine s_get 0 0 15 clX0 (by decide) tw_155 dX0_cellTo_12 rfl ?_
    refine s_len 16 dX0_cellTo_15 rfl ?_
    refine s_cmpge 28 19 dX0_cellTo_16 (by decide) rfl ?_ ?_
    · refine s_iconst 29 (-1) (by decide) dX0_cellTo_28 rfl ?_
      exact s_iretP rfl dX0_cellTo_29
    · refine s_Aldn 0 rfl 20 dX0_cellTo_19 rfl ?_
      refine s_get 0 0 23 clX0 (by decide) tw_155 dX0_cellTo_20 rfl ?_
      refine s_Ildn 3 rfl 24 dX0_cellTo_23 rfl ?_
      refine s_Ia 25 dX0_cellTo_24 rfl ?_
      refine s_goto 29 dX0_cellTo_25 (by decide) ?_
      exact s_iretP rfl dX0_cellTo_29
def EX0_cellTo : List Value → HP → Option Int32 := en 4 BX0_cellTo_0
theorem cmX0_cellTo : CM XX0_cellTo EX0_cellTo fI 0 0 := CM.of rfl (by decide) rfl rfl sBX0_cellTo_0
theorem yoX0_cellTo : YO XX0_cellTo 2 0 0 := ⟨tw_856, rfl, tw_8, (by decide +kernel), rfl, rfl⟩
abbrev XX0_besideAll : MX := (yX0_besideAll, cX0_besideAll, 7, (Option.some .long), Cond.code yX0_besideAll cX0_besideAll 7 (Option.some .long) :: WS, { frames := 0, cells := 0, slots := 0, locals := 0 })
def BX0_besideAll_0 : KT Int64 :=
  oLld 1 (oAld 0 (oGet 0 6 (oConst (.long (-1)) (olxor (oland (oConst (.int 1) (olshl (oLst 3 (oLld 1 (oAld 0 (oGet 0 5 (oConst (.long (-1)) (olxor (oland (oConst (.int 1) (olushr (oLst 5 (oLld 3 (oLld 5 (olor (oLld 1 (oAld 0 (oGet 0 1 (olshl (olor (oLld 1 (oAld 0 (oGet 0 1 (olushr (olor (oAld 0 (oGet 0 4 (oland (oLretP))))))))))))))))))))))))))))))))))
set_option maxRecDepth 20000 in
theorem sBX0_besideAll_0 : Snd XX0_besideAll fL 0 (BX0_besideAll_0) (0) (0) := by
  unfold BX0_besideAll_0
  refine s_Lldn 1 rfl 1 dX0_besideAll_0 rfl ?_
  refine s_Aldn 0 rfl 2 dX0_besideAll_1 rfl ?_
  refine s_get 0 6 5 clX0 (by decide) tw_168 dX0_besideAll_2 rfl ?_
  refine s_ldc2 8 (-1) tw_741 dX0_besideAll_5 rfl ?_
  refine s_lxor 9 dX0_besideAll_8 rfl ?_
  refine s_land 10 dX0_besideAll_9 rfl ?_
  refine s_iconst 11 1 (by decide) dX0_besideAll_10 rfl ?_
  refine s_lshl 12 dX0_besideAll_11 rfl ?_
  refine s_Lstn 3 rfl 13 (by decide) dX0_besideAll_12 rfl ?_
  refine s_Lldn 1 rfl 14 dX0_besideAll_13 rfl ?_
  refine s_Aldn 0 rfl 15 dX0_besideAll_14 rfl ?_
  refine s_get 0 5 18 clX0 (by decide) tw_167 dX0_besideAll_15 rfl ?_
  refine s_ldc2 21 (-1) tw_741 dX0_besideAll_18 rfl ?_
  refine s_lxor 22 dX0_besideAll_21 rfl ?_
  refine s_land 23 dX0_besideAll_22 rfl ?_
  refine s_iconst 24 1 (by decide) dX0_besideAll_23 rfl ?_
  refine s_lushr 25 dX0_besideAll_24 rfl ?_
  refine s_Lst 5 27 (by decide) dX0_besideAll_25 rfl ?_
  refine s_Lldn 3 rfl 28 dX0_besideAll_27 rfl ?_
  refine s_Lld 5 30 dX0_besideAll_28 rfl ?_
  refine s_lor 31 dX0_besideAll_30 rfl ?_
  refine s_Lldn 1 rfl 32 dX0_besideAll_31 rfl ?_
  refine s_Aldn 0 rfl 33 dX0_besideAll_32 rfl ?_
  refine s_get 0 1 36 clX0 (by decide) tw_156 dX0_besideAll_33 rfl ?_
  refine s_lshl 37 dX0_besideAll_36 rfl ?_
  refine s_lor 38 dX0_besideAll_37 rfl ?_
  refine s_Lldn 1 rfl 39 dX0_besideAll_38 rfl ?_
  refine s_Aldn 0 rfl 40 dX0_besideAll_39 rfl ?_
  refine s_get 0 1 43 clX0 (by decide) tw_156 dX0_besideAll_40 rfl ?_
  refine s_lushr 44 dX0_besideAll_43 rfl ?_
  refine s_lor 45 dX0_besideAll_44 rfl ?_
  refine s_Aldn 0 rfl 46 dX0_besideAll_45 rfl ?_
  refine s_get 0 4 49 clX0 (by decide) tw_165 dX0_besideAll_46 rfl ?_
  refine s_land 50 dX0_besideAll_49 rfl ?_
  exact s_lretP rfl dX0_besideAll_50
def EX0_besideAll : List Value → HP → Option Int64 := en 7 BX0_besideAll_0
theorem cmX0_besideAll : CM XX0_besideAll EX0_besideAll fL 0 0 := CM.of rfl (by decide) rfl rfl sBX0_besideAll_0
theorem yoX0_besideAll : YO XX0_besideAll 1 0 0 := ⟨tw_740, rfl, tw_8, (by decide +kernel), rfl, rfl⟩
abbrev XX0_countBeside : MX := (yX0_countBeside, cX0_countBeside, 4, (Option.some .int), Cond.code yX0_countBeside cX0_countBeside 4 (Option.some .int) :: WS, { frames := 1, cells := 0, slots := 0, locals := 26 })
def BX0_countBeside_0 : KT Int32 :=
  oAld 0 (oIld 3 (oCal 1 none EX10_bit fL (oCal 2 (some 0) EX0_besideAll fL (oLld 1 (oland (oCal 1 none EJ13_bitCount_95d88 fI (oIretP)))))))
set_option maxRecDepth 20000 in
theorem sBX0_countBeside_0 : Snd XX0_countBeside fI 0 (BX0_countBeside_0) (0) (0) := by
  unfold BX0_countBeside_0
  refine s_Aldn 0 rfl 1 dX0_countBeside_0 rfl ?_
  refine s_Ildn 3 rfl 2 dX0_countBeside_1 rfl ?_
  refine s_cal0 5 (run_SN (X := XX0_countBeside) yoX10_bit nw_74 tw_432 (by decide) dX0_countBeside_2) cmX10_bit (fun _ _ _ => rfl) rfl ?_
  refine s_cal0 8 (run_V (X := XX0_countBeside) rfl clX0 yoX0_besideAll rfl tw_737 tw_738 tw_739 (by decide) dX0_countBeside_5) cmX0_besideAll (fun _ _ _ => rfl) rfl ?_
  refine s_Lldn 1 rfl 9 dX0_countBeside_8 rfl ?_
  refine s_land 10 dX0_countBeside_9 rfl ?_
  refine s_cal0 13 (run_S (X := XX0_countBeside) yoJ13_bitCount_95d88 tw_742 tw_697 (by decide) dX0_countBeside_10) cmJ13_bitCount_95d88 (fun _ _ _ => rfl) rfl ?_
  exact s_iretP rfl dX0_countBeside_13
def EX0_countBeside : List Value → HP → Option Int32 := en 4 BX0_countBeside_0
theorem cmX0_countBeside : CM XX0_countBeside EX0_countBeside fI 0 0 := CM.of rfl (by decide) rfl rfl sBX0_countBeside_0
theorem yoX0_countBeside : YO XX0_countBeside 2 0 0 := ⟨tw_736, rfl, tw_8, (by decide +kernel), rfl, rfl⟩
abbrev XX0_flood : MX := (yX0_flood, cX0_flood, 10, (Option.some .long), Cond.code yX0_flood cX0_flood 10 (Option.some .long) :: WS, { frames := 1, cells := 0, slots := 0, locals := 26 })
def BX0_flood_9 (k9 : KT Int64) : KT Int64 :=
  oIld 9 (oConst (.int 48) (oCmpge (oLld 5 (oLretP)) (oLld 7 (oConst (.long 0) (olcmp (oIfeq (oLld 5 (oLretP)) (oAld 0 (oLld 7 (oCal 2 (some 0) EX0_besideAll fL (oLld 1 (oland (oLld 5 (oConst (.long (-1)) (olxor (oland (oLst 7 (oLld 5 (oLld 7 (olor (oLst 5 (oInc 9 1 (oPick [0, 1, 5, 7, 9] k9))))))))))))))))))))))
set_option maxRecDepth 20000 in
theorem sBX0_flood_9 {k9 : KT Int64} (hk9 : Snd XX0_flood fL 9 k9 0 0) : Snd XX0_flood fL 9 (BX0_flood_9 k9) (0) (0) := by
  unfold BX0_flood_9
  refine s_Ild 9 11 dX0_flood_9 rfl ?_
  refine s_bipush 13 48 (by decide) dX0_flood_11 rfl ?_
  refine s_cmpge 53 16 dX0_flood_13 (by decide) rfl ?_ ?_
  · refine s_Lld 5 55 dX0_flood_53 rfl ?_
    exact s_lretP rfl dX0_flood_55
  · refine s_Lld 7 18 dX0_flood_16 rfl ?_
    refine s_lconst 19 0 (by decide) dX0_flood_18 rfl ?_
    refine s_lcmp 20 dX0_flood_19 rfl ?_
    refine s_ifeq 53 23 dX0_flood_20 (by decide) rfl ?_ ?_
    · refine s_Lld 5 55 dX0_flood_53 rfl ?_
      exact s_lretP rfl dX0_flood_55
    · refine s_Aldn 0 rfl 24 dX0_flood_23 rfl ?_
      refine s_Lld 7 26 dX0_flood_24 rfl ?_
      refine s_cal0 29 (run_V (X := XX0_flood) rfl clX0 yoX0_besideAll rfl tw_737 tw_738 tw_739 (by decide) dX0_flood_26) cmX0_besideAll (fun _ _ _ => rfl) rfl ?_
      refine s_Lldn 1 rfl 30 dX0_flood_29 rfl ?_
      refine s_land 31 dX0_flood_30 rfl ?_
      refine s_Lld 5 33 dX0_flood_31 rfl ?_
      refine s_ldc2 36 (-1) tw_741 dX0_flood_33 rfl ?_
      refine s_lxor 37 dX0_flood_36 rfl ?_
      refine s_land 38 dX0_flood_37 rfl ?_
      refine s_Lst 7 40 (by decide) dX0_flood_38 rfl ?_
      refine s_Lld 5 42 dX0_flood_40 rfl ?_
      refine s_Lld 7 44 dX0_flood_42 rfl ?_
      refine s_lor 45 dX0_flood_44 rfl ?_
      refine s_Lst 5 47 (by decide) dX0_flood_45 rfl ?_
      refine s_inc 9 1 50 (by decide) (by decide) dX0_flood_47 rfl ?_
      refine s_goto 9 dX0_flood_50 (by decide) ?_
      exact s_pick hk9
def BX0_flood_0 : KT Int64 :=
  oLld 3 (oLst 5 (oLld 3 (oLst 7 (oConst (.int 0) (oIst 9 (oPick [0, 1, 5, 7, 9] (lp (BX0_flood_9) FU)))))))
set_option maxRecDepth 20000 in
theorem sBX0_flood_0 : Snd XX0_flood fL 0 (BX0_flood_0) (0) (0) := by
  unfold BX0_flood_0
  refine s_Lldn 3 rfl 1 dX0_flood_0 rfl ?_
  refine s_Lst 5 3 (by decide) dX0_flood_1 rfl ?_
  refine s_Lldn 3 rfl 4 dX0_flood_3 rfl ?_
  refine s_Lst 7 6 (by decide) dX0_flood_4 rfl ?_
  refine s_iconst 7 0 (by decide) dX0_flood_6 rfl ?_
  refine s_Ist 9 9 (by decide) dX0_flood_7 rfl ?_
  exact s_pick (s_lp (fun k hk => sBX0_flood_9  hk) FU)
def EX0_flood : List Value → HP → Option Int64 := en 10 BX0_flood_0
theorem cmX0_flood : CM XX0_flood EX0_flood fL 0 0 := CM.of rfl (by decide) rfl rfl sBX0_flood_0
theorem yoX0_flood : YO XX0_flood 2 0 0 := ⟨tw_754, rfl, tw_8, (by decide +kernel), rfl, rfl⟩
abbrev XX0_countParts : MX := (yX0_countParts, cX0_countParts, 7, (Option.some .int), Cond.code yX0_countParts cX0_countParts 7 (Option.some .int) :: WS, { frames := 2, cells := 0, slots := 0, locals := 55 })
def BX0_countParts_32 (k8 : KT Int32) : KT Int32 :=
  oCal 3 (some 0) EX0_flood fL (oConst (.long (-1)) (olxor (oland (oLst 4 (oInc 3 1 (oInc 6 1 (oPick [0, 1, 3, 4, 6] k8)))))))
set_option maxRecDepth 20000 in
theorem sBX0_countParts_32 {k8 : KT Int32} (hk8 : Snd XX0_countParts fI 8 k8 0 0) : Snd XX0_countParts fI 32 (BX0_countParts_32 k8) (0) (0) := by
  unfold BX0_countParts_32
  refine s_cal0 35 (run_V (X := XX0_countParts) rfl clX0 yoX0_flood rfl tw_751 tw_752 tw_753 (by decide) dX0_countParts_32) cmX0_flood (fun _ _ _ => rfl) rfl ?_
  refine s_ldc2 38 (-1) tw_741 dX0_countParts_35 rfl ?_
  refine s_lxor 39 dX0_countParts_38 rfl ?_
  refine s_land 40 dX0_countParts_39 rfl ?_
  refine s_Lst 4 42 (by decide) dX0_countParts_40 rfl ?_
  refine s_inc 3 1 45 (by decide) (by decide) dX0_countParts_42 rfl ?_
  refine s_inc 6 1 48 (by decide) (by decide) dX0_countParts_45 rfl ?_
  refine s_goto 8 dX0_countParts_48 (by decide) ?_
  exact s_pick hk8
def BX0_countParts_8 (k8 : KT Int32) : KT Int32 :=
  oIld 6 (oConst (.int 48) (oCmpge (oIld 3 (oIretP)) (oLld 4 (oConst (.long 0) (olcmp (oIfeq (oIld 3 (oIretP)) (oLld 4 (oAld 0 (oLld 1 (oLld 4 (oLld 4 (olneg (oland (oPick [0, 1, 3, 6] (BX0_countParts_32 k8)))))))))))))))
set_option maxRecDepth 20000 in
theorem sBX0_countParts_8 {k8 : KT Int32} (hk8 : Snd XX0_countParts fI 8 k8 0 0) : Snd XX0_countParts fI 8 (BX0_countParts_8 k8) (0) (0) := by
  unfold BX0_countParts_8
  refine s_Ild 6 10 dX0_countParts_8 rfl ?_
  refine s_bipush 12 48 (by decide) dX0_countParts_10 rfl ?_
  refine s_cmpge 51 15 dX0_countParts_12 (by decide) rfl ?_ ?_
  · refine s_Ildn 3 rfl 52 dX0_countParts_51 rfl ?_
    exact s_iretP rfl dX0_countParts_52
  · refine s_Lld 4 17 dX0_countParts_15 rfl ?_
    refine s_lconst 18 0 (by decide) dX0_countParts_17 rfl ?_
    refine s_lcmp 19 dX0_countParts_18 rfl ?_
    refine s_ifeq 51 22 dX0_countParts_19 (by decide) rfl ?_ ?_
    · refine s_Ildn 3 rfl 52 dX0_countParts_51 rfl ?_
      exact s_iretP rfl dX0_countParts_52
    · refine s_Lld 4 24 dX0_countParts_22 rfl ?_
      refine s_Aldn 0 rfl 25 dX0_countParts_24 rfl ?_
      refine s_Lldn 1 rfl 26 dX0_countParts_25 rfl ?_
      refine s_Lld 4 28 dX0_countParts_26 rfl ?_
      refine s_Lld 4 30 dX0_countParts_28 rfl ?_
      refine s_lneg 31 dX0_countParts_30 rfl ?_
      refine s_land 32 dX0_countParts_31 rfl ?_
      exact s_pick (sBX0_countParts_32 hk8)
def BX0_countParts_0 : KT Int32 :=
  oConst (.int 0) (oIst 3 (oLld 1 (oLst 4 (oConst (.int 0) (oIst 6 (oPick [0, 1, 3, 4, 6] (lp (BX0_countParts_8) FU)))))))
set_option maxRecDepth 20000 in
theorem sBX0_countParts_0 : Snd XX0_countParts fI 0 (BX0_countParts_0) (0) (0) := by
  unfold BX0_countParts_0
  refine s_iconst 1 0 (by decide) dX0_countParts_0 rfl ?_
  refine s_Istn 3 rfl 2 (by decide) dX0_countParts_1 rfl ?_
  refine s_Lldn 1 rfl 3 dX0_countParts_2 rfl ?_
  refine s_Lst 4 5 (by decide) dX0_countParts_3 rfl ?_
  refine s_iconst 6 0 (by decide) dX0_countParts_5 rfl ?_
  refine s_Ist 6 8 (by decide) dX0_countParts_6 rfl ?_
  exact s_pick (s_lp (fun k hk => sBX0_countParts_8  hk) FU)
def EX0_countParts : List Value → HP → Option Int32 := en 7 BX0_countParts_0
theorem cmX0_countParts : CM XX0_countParts EX0_countParts fI 0 0 := CM.of rfl (by decide) rfl rfl sBX0_countParts_0
theorem yoX0_countParts : YO XX0_countParts 1 0 0 := ⟨tw_750, rfl, tw_8, (by decide +kernel), rfl, rfl⟩
abbrev XX0_countRings : MX := (yX0_countRings, cX0_countRings, 5, (Option.some .int), Cond.code yX0_countRings cX0_countRings 5 (Option.some .int) :: WS, { frames := 3, cells := 0, slots := 0, locals := 81 })
def BX0_countRings_42 : KT Int32 :=
  oCal 2 (some 0) EX0_countParts fI (oiadd (oIretP))
set_option maxRecDepth 20000 in
theorem sBX0_countRings_42 : Snd XX0_countRings fI 42 (BX0_countRings_42) (0) (0) := by
  unfold BX0_countRings_42
  refine s_cal0 45 (run_V (X := XX0_countRings) rfl clX0 yoX0_countParts rfl tw_763 tw_748 tw_749 (by decide) dX0_countRings_42) cmX0_countParts (fun _ _ _ => rfl) rfl ?_
  refine s_iadd 46 dX0_countRings_45 rfl ?_
  exact s_iretP rfl dX0_countRings_46
def BX0_countRings_0 : KT Int32 :=
  oLld 1 (oLld 1 (oAld 0 (oGet 0 6 (oConst (.long (-1)) (olxor (oland (oConst (.int 1) (olshl (oland (oCal 1 none EJ13_bitCount_95d88 fI (oIst 3 (oLld 1 (oLld 1 (oAld 0 (oGet 0 1 (olshl (oland (oCal 1 none EJ13_bitCount_95d88 fI (oIst 4 (oIld 3 (oIld 4 (oiadd (oLld 1 (oCal 1 none EJ13_bitCount_95d88 fI (oisub (oAld 0 (oLld 1 (oPick [] (BX0_countRings_42)))))))))))))))))))))))))))))
set_option maxRecDepth 20000 in
theorem sBX0_countRings_0 : Snd XX0_countRings fI 0 (BX0_countRings_0) (0) (0) := by
  unfold BX0_countRings_0
  refine s_Lldn 1 rfl 1 dX0_countRings_0 rfl ?_
  refine s_Lldn 1 rfl 2 dX0_countRings_1 rfl ?_
  refine s_Aldn 0 rfl 3 dX0_countRings_2 rfl ?_
  refine s_get 0 6 6 clX0 (by decide) tw_168 dX0_countRings_3 rfl ?_
  refine s_ldc2 9 (-1) tw_741 dX0_countRings_6 rfl ?_
  refine s_lxor 10 dX0_countRings_9 rfl ?_
  refine s_land 11 dX0_countRings_10 rfl ?_
  refine s_iconst 12 1 (by decide) dX0_countRings_11 rfl ?_
  refine s_lshl 13 dX0_countRings_12 rfl ?_
  refine s_land 14 dX0_countRings_13 rfl ?_
  refine s_cal0 17 (run_S (X := XX0_countRings) yoJ13_bitCount_95d88 tw_742 tw_697 (by decide) dX0_countRings_14) cmJ13_bitCount_95d88 (fun _ _ _ => rfl) rfl ?_
  refine s_Istn 3 rfl 18 (by decide) dX0_countRings_17 rfl ?_
  refine s_Lldn 1 rfl 19 dX0_countRings_18 rfl ?_
  refine s_Lldn 1 rfl 20 dX0_countRings_19 rfl ?_
  refine s_Aldn 0 rfl 21 dX0_countRings_20 rfl ?_
  refine s_get 0 1 24 clX0 (by decide) tw_156 dX0_countRings_21 rfl ?_
  refine s_lshl 25 dX0_countRings_24 rfl ?_
  refine s_land 26 dX0_countRings_25 rfl ?_
  refine s_cal0 29 (run_S (X := XX0_countRings) yoJ13_bitCount_95d88 tw_742 tw_697 (by decide) dX0_countRings_26) cmJ13_bitCount_95d88 (fun _ _ _ => rfl) rfl ?_
  refine s_Ist 4 31 (by decide) dX0_countRings_29 rfl ?_
  refine s_Ildn 3 rfl 32 dX0_countRings_31 rfl ?_
  refine s_Ild 4 34 dX0_countRings_32 rfl ?_
  refine s_iadd 35 dX0_countRings_34 rfl ?_
  refine s_Lldn 1 rfl 36 dX0_countRings_35 rfl ?_
  refine s_cal0 39 (run_S (X := XX0_countRings) yoJ13_bitCount_95d88 tw_742 tw_697 (by decide) dX0_countRings_36) cmJ13_bitCount_95d88 (fun _ _ _ => rfl) rfl ?_
  refine s_isub 40 dX0_countRings_39 rfl ?_
  refine s_Aldn 0 rfl 41 dX0_countRings_40 rfl ?_
  refine s_Lldn 1 rfl 42 dX0_countRings_41 rfl ?_
  exact s_pick (sBX0_countRings_42)
def EX0_countRings : List Value → HP → Option Int32 := en 5 BX0_countRings_0
theorem cmX0_countRings : CM XX0_countRings EX0_countRings fI 0 0 := CM.of rfl (by decide) rfl rfl sBX0_countRings_0
theorem yoX0_countRings : YO XX0_countRings 1 0 0 := ⟨tw_762, rfl, tw_8, (by decide +kernel), rfl, rfl⟩
abbrev XX0_countEnds : MX := (yX0_countEnds, cX0_countEnds, 5, (Option.some .int), Cond.code yX0_countEnds cX0_countEnds 5 (Option.some .int) :: WS, { frames := 2, cells := 0, slots := 0, locals := 49 })
def BX0_countEnds_17 (k5 : KT Int32) : KT Int32 :=
  oCal 2 none EX10_isIn fZ (oIfeq (oInc 4 1 (oPick [0, 1, 3, 4] k5)) (oAld 0 (oLld 1 (oIld 4 (oCal 3 (some 0) EX0_countBeside fI (oConst (.int 1) (oCmpne (oInc 4 1 (oPick [0, 1, 3, 4] k5)) (oInc 3 1 (oInc 4 1 (oPick [0, 1, 3, 4] k5))))))))))
set_option maxRecDepth 20000 in
theorem sBX0_countEnds_17 {k5 : KT Int32} (hk5 : Snd XX0_countEnds fI 5 k5 0 0) : Snd XX0_countEnds fI 17 (BX0_countEnds_17 k5) (0) (0) := by
  unfold BX0_countEnds_17
  refine s_cal0 20 (run_SN (X := XX0_countEnds) yoX10_isIn nw_78 tw_631 (by decide) dX0_countEnds_17) cmX10_isIn (fun _ _ _ => rfl) rfl ?_
  refine s_ifeq 37 23 dX0_countEnds_20 (by decide) rfl ?_ ?_
  · refine s_inc 4 1 40 (by decide) (by decide) dX0_countEnds_37 rfl ?_
    refine s_goto 5 dX0_countEnds_40 (by decide) ?_
    exact s_pick hk5
  · refine s_Aldn 0 rfl 24 dX0_countEnds_23 rfl ?_
    refine s_Lldn 1 rfl 25 dX0_countEnds_24 rfl ?_
    refine s_Ild 4 27 dX0_countEnds_25 rfl ?_
    refine s_cal0 30 (run_V (X := XX0_countEnds) rfl clX0 yoX0_countBeside rfl tw_773 tw_734 tw_735 (by decide) dX0_countEnds_27) cmX0_countBeside (fun _ _ _ => rfl) rfl ?_
    refine s_iconst 31 1 (by decide) dX0_countEnds_30 rfl ?_
    refine s_cmpne 37 34 dX0_countEnds_31 (by decide) rfl ?_ ?_
    · refine s_inc 4 1 40 (by decide) (by decide) dX0_countEnds_37 rfl ?_
      refine s_goto 5 dX0_countEnds_40 (by decide) ?_
      exact s_pick hk5
    · refine s_inc 3 1 37 (by decide) (by decide) dX0_countEnds_34 rfl ?_
      refine s_inc 4 1 40 (by decide) (by decide) dX0_countEnds_37 rfl ?_
      refine s_goto 5 dX0_countEnds_40 (by decide) ?_
      exact s_pick hk5
def BX0_countEnds_5 (k5 : KT Int32) : KT Int32 :=
  oIld 4 (oAld 0 (oGet 0 3 (oCmpge (oIld 3 (oIretP)) (oLld 1 (oIld 4 (oPick [0, 1, 3, 4] (BX0_countEnds_17 k5)))))))
set_option maxRecDepth 20000 in
theorem sBX0_countEnds_5 {k5 : KT Int32} (hk5 : Snd XX0_countEnds fI 5 k5 0 0) : Snd XX0_countEnds fI 5 (BX0_countEnds_5 k5) (0) (0) := by
  unfold BX0_countEnds_5
  refine s_Ild 4 7 dX0_countEnds_5 rfl ?_
  refine s_Aldn 0 rfl 8 dX0_countEnds_7 rfl ?_
  refine s_get 0 3 11 clX0 (by decide) tw_162 dX0_countEnds_8 rfl ?_
  refine s_cmpge 43 14 dX0_countEnds_11 (by decide) rfl ?_ ?_
  · refine s_Ildn 3 rfl 44 dX0_countEnds_43 rfl ?_
    exact s_iretP rfl dX0_countEnds_44
  · refine s_Lldn 1 rfl 15 dX0_countEnds_14 rfl ?_
    refine s_Ild 4 17 dX0_countEnds_15 rfl ?_
    exact s_pick (sBX0_countEnds_17 hk5)
def BX0_countEnds_0 : KT Int32 :=
  oConst (.int 0) (oIst 3 (oConst (.int 0) (oIst 4 (oPick [0, 1, 3, 4] (lp (BX0_countEnds_5) FU)))))
set_option maxRecDepth 20000 in
theorem sBX0_countEnds_0 : Snd XX0_countEnds fI 0 (BX0_countEnds_0) (0) (0) := by
  unfold BX0_countEnds_0
  refine s_iconst 1 0 (by decide) dX0_countEnds_0 rfl ?_
  refine s_Istn 3 rfl 2 (by decide) dX0_countEnds_1 rfl ?_
  refine s_iconst 3 0 (by decide) dX0_countEnds_2 rfl ?_
  refine s_Ist 4 5 (by decide) dX0_countEnds_3 rfl ?_
  exact s_pick (s_lp (fun k hk => sBX0_countEnds_5  hk) FU)
def EX0_countEnds : List Value → HP → Option Int32 := en 5 BX0_countEnds_0
theorem cmX0_countEnds : CM XX0_countEnds EX0_countEnds fI 0 0 := CM.of rfl (by decide) rfl rfl sBX0_countEnds_0
theorem yoX0_countEnds : YO XX0_countEnds 1 0 0 := ⟨tw_771, rfl, tw_8, (by decide +kernel), rfl, rfl⟩
abbrev XX0_isParting : MX := (yX0_isParting, cX0_isParting, 8, (Option.some .boolean), Cond.code yX0_isParting cX0_isParting 8 (Option.some .boolean) :: WS, { frames := 2, cells := 0, slots := 0, locals := 55 })
def BX0_isParting_44 : KT Bool :=
  oCal 3 (some 0) EX0_flood fL (oConst (.long (-1)) (olxor (oland (oConst (.long 0) (olcmp (oIfeq (oConst (.int 0) (oZretP)) (oConst (.int 1) (oZretP))))))))
set_option maxRecDepth 20000 in
theorem sBX0_isParting_44 : Snd XX0_isParting fZ 44 (BX0_isParting_44) (0) (0) := by
  unfold BX0_isParting_44
  refine s_cal0 47 (run_V (X := XX0_isParting) rfl clX0 yoX0_flood rfl tw_751 tw_752 tw_753 (by decide) dX0_isParting_44) cmX0_flood (fun _ _ _ => rfl) rfl ?_
  refine s_ldc2 50 (-1) tw_741 dX0_isParting_47 rfl ?_
  refine s_lxor 51 dX0_isParting_50 rfl ?_
  refine s_land 52 dX0_isParting_51 rfl ?_
  refine s_lconst 53 0 (by decide) dX0_isParting_52 rfl ?_
  refine s_lcmp 54 dX0_isParting_53 rfl ?_
  refine s_ifeq 61 57 dX0_isParting_54 (by decide) rfl ?_ ?_
  · refine s_iconst 62 0 (by decide) dX0_isParting_61 rfl ?_
    exact s_zretP rfl dX0_isParting_62
  · refine s_iconst 58 1 (by decide) dX0_isParting_57 rfl ?_
    refine s_goto 62 dX0_isParting_58 (by decide) ?_
    exact s_zretP rfl dX0_isParting_62
def BX0_isParting_27 : KT Bool :=
  oCal 2 none EX10_isIn fZ (oIfeq (oConst (.int 0) (oZretP)) (oLld 6 (oAld 0 (oLld 4 (oLld 6 (oLld 6 (olneg (oland (oPick [] (BX0_isParting_44))))))))))
set_option maxRecDepth 20000 in
theorem sBX0_isParting_27 : Snd XX0_isParting fZ 27 (BX0_isParting_27) (0) (0) := by
  unfold BX0_isParting_27
  refine s_cal0 30 (run_SN (X := XX0_isParting) yoX10_isIn nw_78 tw_631 (by decide) dX0_isParting_27) cmX10_isIn (fun _ _ _ => rfl) rfl ?_
  refine s_ifeq 61 33 dX0_isParting_30 (by decide) rfl ?_ ?_
  · refine s_iconst 62 0 (by decide) dX0_isParting_61 rfl ?_
    exact s_zretP rfl dX0_isParting_62
  · refine s_Lld 6 35 dX0_isParting_33 rfl ?_
    refine s_Aldn 0 rfl 36 dX0_isParting_35 rfl ?_
    refine s_Lld 4 38 dX0_isParting_36 rfl ?_
    refine s_Lld 6 40 dX0_isParting_38 rfl ?_
    refine s_Lld 6 42 dX0_isParting_40 rfl ?_
    refine s_lneg 43 dX0_isParting_42 rfl ?_
    refine s_land 44 dX0_isParting_43 rfl ?_
    exact s_pick (sBX0_isParting_44)
def BX0_isParting_0 : KT Bool :=
  oLld 1 (oIld 3 (oCal 1 none EX10_bit fL (oConst (.long (-1)) (olxor (oland (oLst 4 (oAld 0 (oIld 3 (oCal 1 none EX10_bit fL (oCal 2 (some 0) EX0_besideAll fL (oLld 4 (oland (oLst 6 (oLld 1 (oIld 3 (oPick [0, 4, 6] (BX0_isParting_27)))))))))))))))))
set_option maxRecDepth 20000 in
theorem sBX0_isParting_0 : Snd XX0_isParting fZ 0 (BX0_isParting_0) (0) (0) := by
  unfold BX0_isParting_0
  refine s_Lldn 1 rfl 1 dX0_isParting_0 rfl ?_
  refine s_Ildn 3 rfl 2 dX0_isParting_1 rfl ?_
  refine s_cal0 5 (run_SN (X := XX0_isParting) yoX10_bit nw_74 tw_432 (by decide) dX0_isParting_2) cmX10_bit (fun _ _ _ => rfl) rfl ?_
  refine s_ldc2 8 (-1) tw_741 dX0_isParting_5 rfl ?_
  refine s_lxor 9 dX0_isParting_8 rfl ?_
  refine s_land 10 dX0_isParting_9 rfl ?_
  refine s_Lst 4 12 (by decide) dX0_isParting_10 rfl ?_
  refine s_Aldn 0 rfl 13 dX0_isParting_12 rfl ?_
  refine s_Ildn 3 rfl 14 dX0_isParting_13 rfl ?_
  refine s_cal0 17 (run_SN (X := XX0_isParting) yoX10_bit nw_74 tw_432 (by decide) dX0_isParting_14) cmX10_bit (fun _ _ _ => rfl) rfl ?_
  refine s_cal0 20 (run_V (X := XX0_isParting) rfl clX0 yoX0_besideAll rfl tw_737 tw_738 tw_739 (by decide) dX0_isParting_17) cmX0_besideAll (fun _ _ _ => rfl) rfl ?_
  refine s_Lld 4 22 dX0_isParting_20 rfl ?_
  refine s_land 23 dX0_isParting_22 rfl ?_
  refine s_Lst 6 25 (by decide) dX0_isParting_23 rfl ?_
  refine s_Lldn 1 rfl 26 dX0_isParting_25 rfl ?_
  refine s_Ildn 3 rfl 27 dX0_isParting_26 rfl ?_
  exact s_pick (sBX0_isParting_27)
def EX0_isParting : List Value → HP → Option Bool := en 8 BX0_isParting_0
theorem cmX0_isParting : CM XX0_isParting EX0_isParting fZ 0 0 := CM.of rfl (by decide) rfl rfl sBX0_isParting_0
theorem yoX0_isParting : YO XX0_isParting 2 0 0 := ⟨tw_808, rfl, tw_8, (by decide +kernel), rfl, rfl⟩
abbrev XX0_cellsAtSteps : MX := (yX0_cellsAtSteps, cX0_cellsAtSteps, 10, (Option.some .long), Cond.code yX0_cellsAtSteps cX0_cellsAtSteps 10 (Option.some .long) :: WS, { frames := 1, cells := 0, slots := 0, locals := 26 })
def BX0_cellsAtSteps_15 (k15 : KT Int64) : KT Int64 :=
  oIld 9 (oIld 4 (oCmpge (oLld 5 (oLretP)) (oAld 0 (oLld 5 (oCal 2 (some 0) EX0_besideAll fL (oLld 1 (oland (oLld 7 (oConst (.long (-1)) (olxor (oland (oLst 5 (oLld 7 (oLld 5 (olor (oLst 7 (oInc 9 1 (oPick [0, 1, 4, 5, 7, 9] k15))))))))))))))))))
set_option maxRecDepth 20000 in
theorem sBX0_cellsAtSteps_15 {k15 : KT Int64} (hk15 : Snd XX0_cellsAtSteps fL 15 k15 0 0) : Snd XX0_cellsAtSteps fL 15 (BX0_cellsAtSteps_15 k15) (0) (0) := by
  unfold BX0_cellsAtSteps_15
  refine s_Ild 9 17 dX0_cellsAtSteps_15 rfl ?_
  refine s_Ild 4 19 dX0_cellsAtSteps_17 rfl ?_
  refine s_cmpge 52 22 dX0_cellsAtSteps_19 (by decide) rfl ?_ ?_
  · refine s_Lld 5 54 dX0_cellsAtSteps_52 rfl ?_
    exact s_lretP rfl dX0_cellsAtSteps_54
  · refine s_Aldn 0 rfl 23 dX0_cellsAtSteps_22 rfl ?_
    refine s_Lld 5 25 dX0_cellsAtSteps_23 rfl ?_
    refine s_cal0 28 (run_V (X := XX0_cellsAtSteps) rfl clX0 yoX0_besideAll rfl tw_737 tw_738 tw_739 (by decide) dX0_cellsAtSteps_25) cmX0_besideAll (fun _ _ _ => rfl) rfl ?_
    refine s_Lldn 1 rfl 29 dX0_cellsAtSteps_28 rfl ?_
    refine s_land 30 dX0_cellsAtSteps_29 rfl ?_
    refine s_Lld 7 32 dX0_cellsAtSteps_30 rfl ?_
    refine s_ldc2 35 (-1) tw_741 dX0_cellsAtSteps_32 rfl ?_
    refine s_lxor 36 dX0_cellsAtSteps_35 rfl ?_
    refine s_land 37 dX0_cellsAtSteps_36 rfl ?_
    refine s_Lst 5 39 (by decide) dX0_cellsAtSteps_37 rfl ?_
    refine s_Lld 7 41 dX0_cellsAtSteps_39 rfl ?_
    refine s_Lld 5 43 dX0_cellsAtSteps_41 rfl ?_
    refine s_lor 44 dX0_cellsAtSteps_43 rfl ?_
    refine s_Lst 7 46 (by decide) dX0_cellsAtSteps_44 rfl ?_
    refine s_inc 9 1 49 (by decide) (by decide) dX0_cellsAtSteps_46 rfl ?_
    refine s_goto 15 dX0_cellsAtSteps_49 (by decide) ?_
    exact s_pick hk15
def BX0_cellsAtSteps_0 : KT Int64 :=
  oIld 3 (oCal 1 none EX10_bit fL (oLld 1 (oland (oLst 5 (oLld 5 (oLst 7 (oConst (.int 0) (oIst 9 (oPick [0, 1, 4, 5, 7, 9] (lp (BX0_cellsAtSteps_15) FU))))))))))
set_option maxRecDepth 20000 in
theorem sBX0_cellsAtSteps_0 : Snd XX0_cellsAtSteps fL 0 (BX0_cellsAtSteps_0) (0) (0) := by
  unfold BX0_cellsAtSteps_0
  refine s_Ildn 3 rfl 1 dX0_cellsAtSteps_0 rfl ?_
  refine s_cal0 4 (run_SN (X := XX0_cellsAtSteps) yoX10_bit nw_74 tw_432 (by decide) dX0_cellsAtSteps_1) cmX10_bit (fun _ _ _ => rfl) rfl ?_
  refine s_Lldn 1 rfl 5 dX0_cellsAtSteps_4 rfl ?_
  refine s_land 6 dX0_cellsAtSteps_5 rfl ?_
  refine s_Lst 5 8 (by decide) dX0_cellsAtSteps_6 rfl ?_
  refine s_Lld 5 10 dX0_cellsAtSteps_8 rfl ?_
  refine s_Lst 7 12 (by decide) dX0_cellsAtSteps_10 rfl ?_
  refine s_iconst 13 0 (by decide) dX0_cellsAtSteps_12 rfl ?_
  refine s_Ist 9 15 (by decide) dX0_cellsAtSteps_13 rfl ?_
  exact s_pick (s_lp (fun k hk => sBX0_cellsAtSteps_15  hk) FU)
def EX0_cellsAtSteps : List Value → HP → Option Int64 := en 10 BX0_cellsAtSteps_0
theorem cmX0_cellsAtSteps : CM XX0_cellsAtSteps EX0_cellsAtSteps fL 0 0 := CM.of rfl (by decide) rfl rfl sBX0_cellsAtSteps_0
theorem yoX0_cellsAtSteps : YO XX0_cellsAtSteps 3 0 0 := ⟨tw_1079, rfl, tw_8, (by decide +kernel), rfl, rfl⟩
abbrev XX0_stepsBetween : MX := (yX0_stepsBetween, cX0_stepsBetween, 10, (Option.some .int), Cond.code yX0_stepsBetween cX0_stepsBetween 10 (Option.some .int) :: WS, { frames := 1, cells := 0, slots := 0, locals := 26 })
def BX0_stepsBetween_26 (k15 : KT Int32) : KT Int32 :=
  oCal 2 none EX10_isIn fZ (oIfeq (oAld 0 (oLld 5 (oCal 2 (some 0) EX0_besideAll fL (oLld 1 (oland (oLld 7 (oConst (.long (-1)) (olxor (oland (oLst 5 (oLld 7 (oLld 5 (olor (oLst 7 (oInc 9 1 (oPick [0, 1, 4, 5, 7, 9] k15)))))))))))))))) (oIld 9 (oIretP)))
set_option maxRecDepth 20000 in
theorem sBX0_stepsBetween_26 {k15 : KT Int32} (hk15 : Snd XX0_stepsBetween fI 15 k15 0 0) : Snd XX0_stepsBetween fI 26 (BX0_stepsBetween_26 k15) (0) (0) := by
  unfold BX0_stepsBetween_26
  refine s_cal0 29 (run_SN (X := XX0_stepsBetween) yoX10_isIn nw_78 tw_631 (by decide) dX0_stepsBetween_26) cmX10_isIn (fun _ _ _ => rfl) rfl ?_
  refine s_ifeq 35 32 dX0_stepsBetween_29 (by decide) rfl ?_ ?_
  · refine s_Aldn 0 rfl 36 dX0_stepsBetween_35 rfl ?_
    refine s_Lld 5 38 dX0_stepsBetween_36 rfl ?_
    refine s_cal0 41 (run_V (X := XX0_stepsBetween) rfl clX0 yoX0_besideAll rfl tw_737 tw_738 tw_739 (by decide) dX0_stepsBetween_38) cmX0_besideAll (fun _ _ _ => rfl) rfl ?_
    refine s_Lldn 1 rfl 42 dX0_stepsBetween_41 rfl ?_
    refine s_land 43 dX0_stepsBetween_42 rfl ?_
    refine s_Lld 7 45 dX0_stepsBetween_43 rfl ?_
    refine s_ldc2 48 (-1) tw_741 dX0_stepsBetween_45 rfl ?_
    refine s_lxor 49 dX0_stepsBetween_48 rfl ?_
    refine s_land 50 dX0_stepsBetween_49 rfl ?_
    refine s_Lst 5 52 (by decide) dX0_stepsBetween_50 rfl ?_
    refine s_Lld 7 54 dX0_stepsBetween_52 rfl ?_
    refine s_Lld 5 56 dX0_stepsBetween_54 rfl ?_
    refine s_lor 57 dX0_stepsBetween_56 rfl ?_
    refine s_Lst 7 59 (by decide) dX0_stepsBetween_57 rfl ?_
    refine s_inc 9 1 62 (by decide) (by decide) dX0_stepsBetween_59 rfl ?_
    refine s_goto 15 dX0_stepsBetween_62 (by decide) ?_
    exact s_pick hk15
  · refine s_Ild 9 34 dX0_stepsBetween_32 rfl ?_
    exact s_iretP rfl dX0_stepsBetween_34
def BX0_stepsBetween_15 (k15 : KT Int32) : KT Int32 :=
  oIld 9 (oConst (.int 48) (oCmpge (oConst (.int (-2)) (oIretP)) (oLld 5 (oIld 4 (oPick [0, 1, 4, 5, 7, 9] (BX0_stepsBetween_26 k15))))))
set_option maxRecDepth 20000 in
theorem sBX0_stepsBetween_15 {k15 : KT Int32} (hk15 : Snd XX0_stepsBetween fI 15 k15 0 0) : Snd XX0_stepsBetween fI 15 (BX0_stepsBetween_15 k15) (0) (0) := by
  unfold BX0_stepsBetween_15
  refine s_Ild 9 17 dX0_stepsBetween_15 rfl ?_
  refine s_bipush 19 48 (by decide) dX0_stepsBetween_17 rfl ?_
  refine s_cmpge 65 22 dX0_stepsBetween_19 (by decide) rfl ?_ ?_
  · refine s_bipush 67 (-2) (by decide) dX0_stepsBetween_65 rfl ?_
    exact s_iretP rfl dX0_stepsBetween_67
  · refine s_Lld 5 24 dX0_stepsBetween_22 rfl ?_
    refine s_Ild 4 26 dX0_stepsBetween_24 rfl ?_
    exact s_pick (sBX0_stepsBetween_26 hk15)
def BX0_stepsBetween_0 : KT Int32 :=
  oIld 3 (oCal 1 none EX10_bit fL (oLld 1 (oland (oLst 5 (oLld 5 (oLst 7 (oConst (.int 0) (oIst 9 (oPick [0, 1, 4, 5, 7, 9] (lp (BX0_stepsBetween_15) FU))))))))))
set_option maxRecDepth 20000 in
theorem sBX0_stepsBetween_0 : Snd XX0_stepsBetween fI 0 (BX0_stepsBetween_0) (0) (0) := by
  unfold BX0_stepsBetween_0
  refine s_Ildn 3 rfl 1 dX0_stepsBetween_0 rfl ?_
  refine s_cal0 4 (run_SN (X := XX0_stepsBetween) yoX10_bit nw_74 tw_432 (by decide) dX0_stepsBetween_1) cmX10_bit (fun _ _ _ => rfl) rfl ?_
  refine s_Lldn 1 rfl 5 dX0_stepsBetween_4 rfl ?_
  refine s_land 6 dX0_stepsBetween_5 rfl ?_
  refine s_Lst 5 8 (by decide) dX0_stepsBetween_6 rfl ?_
  refine s_Lld 5 10 dX0_stepsBetween_8 rfl ?_
  refine s_Lst 7 12 (by decide) dX0_stepsBetween_10 rfl ?_
  refine s_iconst 13 0 (by decide) dX0_stepsBetween_12 rfl ?_
  refine s_Ist 9 15 (by decide) dX0_stepsBetween_13 rfl ?_
  exact s_pick (s_lp (fun k hk => sBX0_stepsBetween_15  hk) FU)
def EX0_stepsBetween : List Value → HP → Option Int32 := en 10 BX0_stepsBetween_0
theorem cmX0_stepsBetween : CM XX0_stepsBetween EX0_stepsBetween fI 0 0 := CM.of rfl (by decide) rfl rfl sBX0_stepsBetween_0
theorem yoX0_stepsBetween : YO XX0_stepsBetween 3 0 0 := ⟨tw_785, rfl, tw_8, (by decide +kernel), rfl, rfl⟩
abbrev XX0_measure : MX := (yX0_measure, cX0_measure, 11, none, Cond.code yX0_measure cX0_measure 11 none :: WS, { frames := 1, cells := 0, slots := 0, locals := 26 })
def BX0_measure_68 (k39 : KT HP) (k56 : KT HP) : KT HP :=
  oCal 2 none EX10_isIn fZ (oIfeq (oInc 10 1 (oPick [0, 1, 4, 5, 7, 9, 10] k56)) (oAld 4 (oIld 10 (oIld 9 (oIw (oInc 10 1 (oPick [0, 1, 4, 5, 7, 9, 10] k56)))))))
set_option maxRecDepth 20000 in
theorem sBX0_measure_68 {k39 : KT HP} (hk39 : Snd XX0_measure fVH 39 k39 0 0) {k56 : KT HP} (hk56 : Snd XX0_measure fVH 56 k56 0 0) : Snd XX0_measure fVH 68 (BX0_measure_68 k39 k56) (0) (0) := by
  unfold BX0_measure_68
  refine s_cal0 71 (run_SN (X := XX0_measure) yoX10_isIn nw_78 tw_631 (by decide) dX0_measure_68) cmX10_isIn (fun _ _ _ => rfl) rfl ?_
  refine s_ifeq 81 74 dX0_measure_71 (by decide) rfl ?_ ?_
  · refine s_inc 10 1 84 (by decide) (by decide) dX0_measure_81 rfl ?_
    refine s_goto 56 dX0_measure_84 (by decide) ?_
    exact s_pick hk56
  · refine s_Ald 4 76 dX0_measure_74 rfl ?_
    refine s_Ild 10 78 dX0_measure_76 rfl ?_
    refine s_Ild 9 80 dX0_measure_78 rfl ?_
    refine s_Iw 81 pVH dX0_measure_80 rfl ?_
    refine s_inc 10 1 84 (by decide) (by decide) dX0_measure_81 rfl ?_
    refine s_goto 56 dX0_measure_84 (by decide) ?_
    exact s_pick hk56
def BX0_measure_56 (k39 : KT HP) (k56 : KT HP) : KT HP :=
  oIld 10 (oAld 4 (oLen (oCmpge (oAld 0 (oLld 5 (oCal 2 (some 0) EX0_besideAll fL (oLld 1 (oland (oLld 7 (oConst (.long (-1)) (olxor (oland (oLst 5 (oLld 7 (oLld 5 (olor (oLst 7 (oInc 9 1 (oPick [0, 1, 4, 5, 7, 9] k39)))))))))))))))) (oLld 5 (oIld 10 (oPick [0, 1, 4, 5, 7, 9, 10] (BX0_measure_68 k39 k56)))))))
set_option maxRecDepth 20000 in
theorem sBX0_measure_56 {k39 : KT HP} (hk39 : Snd XX0_measure fVH 39 k39 0 0) {k56 : KT HP} (hk56 : Snd XX0_measure fVH 56 k56 0 0) : Snd XX0_measure fVH 56 (BX0_measure_56 k39 k56) (0) (0) := by
  unfold BX0_measure_56
  refine s_Ild 10 58 dX0_measure_56 rfl ?_
  refine s_Ald 4 60 dX0_measure_58 rfl ?_
  refine s_len 61 dX0_measure_60 rfl ?_
  refine s_cmpge 87 64 dX0_measure_61 (by decide) rfl ?_ ?_
  · refine s_Aldn 0 rfl 88 dX0_measure_87 rfl ?_
    refine s_Lld 5 90 dX0_measure_88 rfl ?_
    refine s_cal0 93 (run_V (X := XX0_measure) rfl clX0 yoX0_besideAll rfl tw_737 tw_738 tw_739 (by decide) dX0_measure_90) cmX0_besideAll (fun _ _ _ => rfl) rfl ?_
    refine s_Lldn 1 rfl 94 dX0_measure_93 rfl ?_
    refine s_land 95 dX0_measure_94 rfl ?_
    refine s_Lld 7 97 dX0_measure_95 rfl ?_
    refine s_ldc2 100 (-1) tw_741 dX0_measure_97 rfl ?_
    refine s_lxor 101 dX0_measure_100 rfl ?_
    refine s_land 102 dX0_measure_101 rfl ?_
    refine s_Lst 5 104 (by decide) dX0_measure_102 rfl ?_
    refine s_Lld 7 106 dX0_measure_104 rfl ?_
    refine s_Lld 5 108 dX0_measure_106 rfl ?_
    refine s_lor 109 dX0_measure_108 rfl ?_
    refine s_Lst 7 111 (by decide) dX0_measure_109 rfl ?_
    refine s_inc 9 1 114 (by decide) (by decide) dX0_measure_111 rfl ?_
    refine s_goto 39 dX0_measure_114 (by decide) ?_
    exact s_pick hk39
  · refine s_Lld 5 66 dX0_measure_64 rfl ?_
    refine s_Ild 10 68 dX0_measure_66 rfl ?_
    exact s_pick (sBX0_measure_68 hk39 hk56)
def BX0_measure_39 (k39 : KT HP) : KT HP :=
  oIld 9 (oConst (.int 48) (oCmpge (oVretH) (oLld 5 (oConst (.long 0) (olcmp (oIfeq (oVretH) (oConst (.int 0) (oIst 10 (oPick [0, 1, 4, 5, 7, 9, 10] (lp (BX0_measure_56 k39) FU))))))))))
set_option maxRecDepth 20000 in
theorem sBX0_measure_39 {k39 : KT HP} (hk39 : Snd XX0_measure fVH 39 k39 0 0) : Snd XX0_measure fVH 39 (BX0_measure_39 k39) (0) (0) := by
  unfold BX0_measure_39
  refine s_Ild 9 41 dX0_measure_39 rfl ?_
  refine s_bipush 43 48 (by decide) dX0_measure_41 rfl ?_
  refine s_cmpge 117 46 dX0_measure_43 (by decide) rfl ?_ ?_
  · exact s_vretH rfl dX0_measure_117
  · refine s_Lld 5 48 dX0_measure_46 rfl ?_
    refine s_lconst 49 0 (by decide) dX0_measure_48 rfl ?_
    refine s_lcmp 50 dX0_measure_49 rfl ?_
    refine s_ifeq 117 53 dX0_measure_50 (by decide) rfl ?_ ?_
    · exact s_vretH rfl dX0_measure_117
    · refine s_iconst 54 0 (by decide) dX0_measure_53 rfl ?_
      refine s_Ist 10 56 (by decide) dX0_measure_54 rfl ?_
      exact s_pick (s_lp (fun k hk => sBX0_measure_56 hk39 hk) FU)
def BX0_measure_3 (k3 : KT HP) : KT HP :=
  oIld 5 (oAld 4 (oLen (oCmpge (oIld 3 (oCal 1 none EX10_bit fL (oLld 1 (oland (oLst 5 (oLld 5 (oLst 7 (oConst (.int 0) (oIst 9 (oPick [0, 1, 4, 5, 7, 9] (lp (BX0_measure_39) FU))))))))))) (oAld 4 (oIld 5 (oConst (.int (-2)) (oIw (oInc 5 1 (oPick [0, 1, 3, 4, 5] k3)))))))))
set_option maxRecDepth 20000 in
theorem sBX0_measure_3 {k3 : KT HP} (hk3 : Snd XX0_measure fVH 3 k3 0 0) : Snd XX0_measure fVH 3 (BX0_measure_3 k3) (0) (0) := by
  unfold BX0_measure_3
  refine s_Ild 5 5 dX0_measure_3 rfl ?_
  refine s_Ald 4 7 dX0_measure_5 rfl ?_
  refine s_len 8 dX0_measure_7 rfl ?_
  refine s_cmpge 24 11 dX0_measure_8 (by decide) rfl ?_ ?_
  · refine s_Ildn 3 rfl 25 dX0_measure_24 rfl ?_
    refine s_cal0 28 (run_SN (X := XX0_measure) yoX10_bit nw_74 tw_432 (by decide) dX0_measure_25) cmX10_bit (fun _ _ _ => rfl) rfl ?_
    refine s_Lldn 1 rfl 29 dX0_measure_28 rfl ?_
    refine s_land 30 dX0_measure_29 rfl ?_
    refine s_Lst 5 32 (by decide) dX0_measure_30 rfl ?_
    refine s_Lld 5 34 dX0_measure_32 rfl ?_
    refine s_Lst 7 36 (by decide) dX0_measure_34 rfl ?_
    refine s_iconst 37 0 (by decide) dX0_measure_36 rfl ?_
    refine s_Ist 9 39 (by decide) dX0_measure_37 rfl ?_
    exact s_pick (s_lp (fun k hk => sBX0_measure_39  hk) FU)
  · refine s_Ald 4 13 dX0_measure_11 rfl ?_
    refine s_Ild 5 15 dX0_measure_13 rfl ?_
    refine s_bipush 17 (-2) (by decide) dX0_measure_15 rfl ?_
    refine s_Iw 18 pVH dX0_measure_17 rfl ?_
    refine s_inc 5 1 21 (by decide) (by decide) dX0_measure_18 rfl ?_
    refine s_goto 3 dX0_measure_21 (by decide) ?_
    exact s_pick hk3
def BX0_measure_0 : KT HP :=
  oConst (.int 0) (oIst 5 (oPick [0, 1, 3, 4, 5] (lp (BX0_measure_3) FU)))
set_option maxRecDepth 20000 in
theorem sBX0_measure_0 : Snd XX0_measure fVH 0 (BX0_measure_0) (0) (0) := by
  unfold BX0_measure_0
  refine s_iconst 1 0 (by decide) dX0_measure_0 rfl ?_
  refine s_Ist 5 3 (by decide) dX0_measure_1 rfl ?_
  exact s_pick (s_lp (fun k hk => sBX0_measure_3  hk) FU)
def EX0_measure : List Value → HP → Option HP := en 11 BX0_measure_0
theorem cmX0_measure : CM XX0_measure EX0_measure fVH 0 0 := CM.of rfl (by decide) rfl rfl sBX0_measure_0
theorem yoX0_measure : YO XX0_measure 3 0 0 := ⟨tw_840, rfl, tw_8, (by decide +kernel), rfl, rfl⟩
abbrev XX0_farthest : MX := (yX0_farthest, cX0_farthest, 10, (Option.some .int), Cond.code yX0_farthest cX0_farthest 10 (Option.some .int) :: WS, { frames := 1, cells := 0, slots := 0, locals := 26 })
def BX0_farthest_18 (k18 : KT Int32) : KT Int32 :=
  oIld 9 (oConst (.int 48) (oCmpge (oIld 8 (oIretP)) (oLld 4 (oConst (.long 0) (olcmp (oIfeq (oIld 8 (oIretP)) (oIld 9 (oIst 8 (oAld 0 (oLld 4 (oCal 2 (some 0) EX0_besideAll fL (oLld 1 (oland (oLld 6 (oConst (.long (-1)) (olxor (oland (oLst 4 (oLld 6 (oLld 4 (olor (oLst 6 (oInc 9 1 (oPick [0, 1, 4, 6, 8, 9] k18))))))))))))))))))))))))
set_option maxRecDepth 20000 in
theorem sBX0_farthest_18 {k18 : KT Int32} (hk18 : Snd XX0_farthest fI 18 k18 0 0) : Snd XX0_farthest fI 18 (BX0_farthest_18 k18) (0) (0) := by
  unfold BX0_farthest_18
  refine s_Ild 9 20 dX0_farthest_18 rfl ?_
  refine s_bipush 22 48 (by decide) dX0_farthest_20 rfl ?_
  refine s_cmpge 66 25 dX0_farthest_22 (by decide) rfl ?_ ?_
  · refine s_Ild 8 68 dX0_farthest_66 rfl ?_
    exact s_iretP rfl dX0_farthest_68
  · refine s_Lld 4 27 dX0_farthest_25 rfl ?_
    refine s_lconst 28 0 (by decide) dX0_farthest_27 rfl ?_
    refine s_lcmp 29 dX0_farthest_28 rfl ?_
    refine s_ifeq 66 32 dX0_farthest_29 (by decide) rfl ?_ ?_
    · refine s_Ild 8 68 dX0_farthest_66 rfl ?_
      exact s_iretP rfl dX0_farthest_68
    · refine s_Ild 9 34 dX0_farthest_32 rfl ?_
      refine s_Ist 8 36 (by decide) dX0_farthest_34 rfl ?_
      refine s_Aldn 0 rfl 37 dX0_farthest_36 rfl ?_
      refine s_Lld 4 39 dX0_farthest_37 rfl ?_
      refine s_cal0 42 (run_V (X := XX0_farthest) rfl clX0 yoX0_besideAll rfl tw_737 tw_738 tw_739 (by decide) dX0_farthest_39) cmX0_besideAll (fun _ _ _ => rfl) rfl ?_
      refine s_Lldn 1 rfl 43 dX0_farthest_42 rfl ?_
      refine s_land 44 dX0_farthest_43 rfl ?_
      refine s_Lld 6 46 dX0_farthest_44 rfl ?_
      refine s_ldc2 49 (-1) tw_741 dX0_farthest_46 rfl ?_
      refine s_lxor 50 dX0_farthest_49 rfl ?_
      refine s_land 51 dX0_farthest_50 rfl ?_
      refine s_Lst 4 53 (by decide) dX0_farthest_51 rfl ?_
      refine s_Lld 6 55 dX0_farthest_53 rfl ?_
      refine s_Lld 4 57 dX0_farthest_55 rfl ?_
      refine s_lor 58 dX0_farthest_57 rfl ?_
      refine s_Lst 6 60 (by decide) dX0_farthest_58 rfl ?_
      refine s_inc 9 1 63 (by decide) (by decide) dX0_farthest_60 rfl ?_
      refine s_goto 18 dX0_farthest_63 (by decide) ?_
      exact s_pick hk18
def BX0_farthest_0 : KT Int32 :=
  oIld 3 (oCal 1 none EX10_bit fL (oLld 1 (oland (oLst 4 (oLld 4 (oLst 6 (oConst (.int 0) (oIst 8 (oConst (.int 0) (oIst 9 (oPick [0, 1, 4, 6, 8, 9] (lp (BX0_farthest_18) FU))))))))))))
set_option maxRecDepth 20000 in
theorem sBX0_farthest_0 : Snd XX0_farthest fI 0 (BX0_farthest_0) (0) (0) := by
  unfold BX0_farthest_0
  refine s_Ildn 3 rfl 1 dX0_farthest_0 rfl ?_
  refine s_cal0 4 (run_SN (X := XX0_farthest) yoX10_bit nw_74 tw_432 (by decide) dX0_farthest_1) cmX10_bit (fun _ _ _ => rfl) rfl ?_
  refine s_Lldn 1 rfl 5 dX0_farthest_4 rfl ?_
  refine s_land 6 dX0_farthest_5 rfl ?_
  refine s_Lst 4 8 (by decide) dX0_farthest_6 rfl ?_
  refine s_Lld 4 10 dX0_farthest_8 rfl ?_
  refine s_Lst 6 12 (by decide) dX0_farthest_10 rfl ?_
  refine s_iconst 13 0 (by decide) dX0_farthest_12 rfl ?_
  refine s_Ist 8 15 (by decide) dX0_farthest_13 rfl ?_
  refine s_iconst 16 0 (by decide) dX0_farthest_15 rfl ?_
  refine s_Ist 9 18 (by decide) dX0_farthest_16 rfl ?_
  exact s_pick (s_lp (fun k hk => sBX0_farthest_18  hk) FU)
def EX0_farthest : List Value → HP → Option Int32 := en 10 BX0_farthest_0
theorem cmX0_farthest : CM XX0_farthest EX0_farthest fI 0 0 := CM.of rfl (by decide) rfl rfl sBX0_farthest_0
theorem yoX0_farthest : YO XX0_farthest 2 0 0 := ⟨tw_797, rfl, tw_8, (by decide +kernel), rfl, rfl⟩
abbrev XX0_longestWay : MX := (yX0_longestWay, cX0_longestWay, 5, (Option.some .int), Cond.code yX0_longestWay cX0_longestWay 5 (Option.some .int) :: WS, { frames := 2, cells := 0, slots := 0, locals := 55 })
def BX0_longestWay_29 (k6 : KT Int32) : KT Int32 :=
  oCal 3 (some 0) EX0_farthest fI (oMax (oIst 3 (oInc 4 1 (oPick [0, 1, 3, 4] k6))))
set_option maxRecDepth 20000 in
theorem sBX0_longestWay_29 {k6 : KT Int32} (hk6 : Snd XX0_longestWay fI 6 k6 0 0) : Snd XX0_longestWay fI 29 (BX0_longestWay_29 k6) (0) (0) := by
  unfold BX0_longestWay_29
  refine s_cal0 32 (run_V (X := XX0_longestWay) rfl clX0 yoX0_farthest rfl tw_794 tw_796 tw_p22 (by decide) dX0_longestWay_29) cmX0_farthest (fun _ _ _ => rfl) rfl ?_
  refine s_max 35 tw_798 tw_799 tw_13 tw_800 (by decide) (by decide) dX0_longestWay_32 rfl ?_
  refine s_Istn 3 rfl 36 (by decide) dX0_longestWay_35 rfl ?_
  refine s_inc 4 1 39 (by decide) (by decide) dX0_longestWay_36 rfl ?_
  refine s_goto 6 dX0_longestWay_39 (by decide) ?_
  exact s_pick hk6
def BX0_longestWay_18 (k6 : KT Int32) : KT Int32 :=
  oCal 2 none EX10_isIn fZ (oIfeq (oInc 4 1 (oPick [0, 1, 3, 4] k6)) (oIld 3 (oAld 0 (oLld 1 (oIld 4 (oPick [0, 1, 4] (BX0_longestWay_29 k6)))))))
set_option maxRecDepth 20000 in
theorem sBX0_longestWay_18 {k6 : KT Int32} (hk6 : Snd XX0_longestWay fI 6 k6 0 0) : Snd XX0_longestWay fI 18 (BX0_longestWay_18 k6) (0) (0) := by
  unfold BX0_longestWay_18
  refine s_cal0 21 (run_SN (X := XX0_longestWay) yoX10_isIn nw_78 tw_631 (by decide) dX0_longestWay_18) cmX10_isIn (fun _ _ _ => rfl) rfl ?_
  refine s_ifeq 36 24 dX0_longestWay_21 (by decide) rfl ?_ ?_
  · refine s_inc 4 1 39 (by decide) (by decide) dX0_longestWay_36 rfl ?_
    refine s_goto 6 dX0_longestWay_39 (by decide) ?_
    exact s_pick hk6
  · refine s_Ildn 3 rfl 25 dX0_longestWay_24 rfl ?_
    refine s_Aldn 0 rfl 26 dX0_longestWay_25 rfl ?_
    refine s_Lldn 1 rfl 27 dX0_longestWay_26 rfl ?_
    refine s_Ild 4 29 dX0_longestWay_27 rfl ?_
    exact s_pick (sBX0_longestWay_29 hk6)
def BX0_longestWay_6 (k6 : KT Int32) : KT Int32 :=
  oIld 4 (oAld 0 (oGet 0 3 (oCmpge (oIld 3 (oIretP)) (oLld 1 (oIld 4 (oPick [0, 1, 3, 4] (BX0_longestWay_18 k6)))))))
set_option maxRecDepth 20000 in
theorem sBX0_longestWay_6 {k6 : KT Int32} (hk6 : Snd XX0_longestWay fI 6 k6 0 0) : Snd XX0_longestWay fI 6 (BX0_longestWay_6 k6) (0) (0) := by
  unfold BX0_longestWay_6
  refine s_Ild 4 8 dX0_longestWay_6 rfl ?_
  refine s_Aldn 0 rfl 9 dX0_longestWay_8 rfl ?_
  refine s_get 0 3 12 clX0 (by decide) tw_162 dX0_longestWay_9 rfl ?_
  refine s_cmpge 42 15 dX0_longestWay_12 (by decide) rfl ?_ ?_
  · refine s_Ildn 3 rfl 43 dX0_longestWay_42 rfl ?_
    exact s_iretP rfl dX0_longestWay_43
  · refine s_Lldn 1 rfl 16 dX0_longestWay_15 rfl ?_
    refine s_Ild 4 18 dX0_longestWay_16 rfl ?_
    exact s_pick (sBX0_longestWay_18 hk6)
def BX0_longestWay_0 : KT Int32 :=
  oConst (.int (-2)) (oIst 3 (oConst (.int 0) (oIst 4 (oPick [0, 1, 3, 4] (lp (BX0_longestWay_6) FU)))))
set_option maxRecDepth 20000 in
theorem sBX0_longestWay_0 : Snd XX0_longestWay fI 0 (BX0_longestWay_0) (0) (0) := by
  unfold BX0_longestWay_0
  refine s_bipush 2 (-2) (by decide) dX0_longestWay_0 rfl ?_
  refine s_Istn 3 rfl 3 (by decide) dX0_longestWay_2 rfl ?_
  refine s_iconst 4 0 (by decide) dX0_longestWay_3 rfl ?_
  refine s_Ist 4 6 (by decide) dX0_longestWay_4 rfl ?_
  exact s_pick (s_lp (fun k hk => sBX0_longestWay_6  hk) FU)
def EX0_longestWay : List Value → HP → Option Int32 := en 5 BX0_longestWay_0
theorem cmX0_longestWay : CM XX0_longestWay EX0_longestWay fI 0 0 := CM.of rfl (by decide) rfl rfl sBX0_longestWay_0
theorem yoX0_longestWay : YO XX0_longestWay 1 0 0 := ⟨tw_793, rfl, tw_8, (by decide +kernel), rfl, rfl⟩
abbrev XX0_weekLater : MX := (yX0_weekLater, cX0_weekLater, 9, (Option.some .long), Cond.code yX0_weekLater cX0_weekLater 9 (Option.some .long) :: WS, { frames := 2, cells := 0, slots := 0, locals := 49 })
def BX0_weekLater_24 (k6 : KT Int64) : KT Int64 :=
  oCal 2 none EX10_isIn fZ (oIfeq (oInc 8 1 (oPick [0, 1, 3, 5, 6, 8] k6)) (oConst (.int 4) (oAld 0 (oLld 1 (oIld 8 (oCal 3 (some 0) EX0_countBeside fI (oisub (oIld 5 (oCmplt (oInc 8 1 (oPick [0, 1, 3, 5, 6, 8] k6)) (oLld 6 (oIld 8 (oCal 1 none EX10_bit fL (oConst (.long (-1)) (olxor (oland (oLst 6 (oInc 8 1 (oPick [0, 1, 3, 5, 6, 8] k6))))))))))))))))))
set_option maxRecDepth 20000 in
theorem sBX0_weekLater_24 {k6 : KT Int64} (hk6 : Snd XX0_weekLater fL 6 k6 0 0) : Snd XX0_weekLater fL 24 (BX0_weekLater_24 k6) (0) (0) := by
  unfold BX0_weekLater_24
  refine s_cal0 27 (run_SN (X := XX0_weekLater) yoX10_isIn nw_78 tw_631 (by decide) dX0_weekLater_24) cmX10_isIn (fun _ _ _ => rfl) rfl ?_
  refine s_ifeq 58 30 dX0_weekLater_27 (by decide) rfl ?_ ?_
  · refine s_inc 8 1 61 (by decide) (by decide) dX0_weekLater_58 rfl ?_
    refine s_goto 6 dX0_weekLater_61 (by decide) ?_
    exact s_pick hk6
  · refine s_iconst 31 4 (by decide) dX0_weekLater_30 rfl ?_
    refine s_Aldn 0 rfl 32 dX0_weekLater_31 rfl ?_
    refine s_Lldn 1 rfl 33 dX0_weekLater_32 rfl ?_
    refine s_Ild 8 35 dX0_weekLater_33 rfl ?_
    refine s_cal0 38 (run_V (X := XX0_weekLater) rfl clX0 yoX0_countBeside rfl tw_773 tw_734 tw_735 (by decide) dX0_weekLater_35) cmX0_countBeside (fun _ _ _ => rfl) rfl ?_
    refine s_isub 39 dX0_weekLater_38 rfl ?_
    refine s_Ild 5 41 dX0_weekLater_39 rfl ?_
    refine s_cmplt 58 44 dX0_weekLater_41 (by decide) rfl ?_ ?_
    · refine s_inc 8 1 61 (by decide) (by decide) dX0_weekLater_58 rfl ?_
      refine s_goto 6 dX0_weekLater_61 (by decide) ?_
      exact s_pick hk6
    · refine s_Lld 6 46 dX0_weekLater_44 rfl ?_
      refine s_Ild 8 48 dX0_weekLater_46 rfl ?_
      refine s_cal0 51 (run_SN (X := XX0_weekLater) yoX10_bit nw_74 tw_432 (by decide) dX0_weekLater_48) cmX10_bit (fun _ _ _ => rfl) rfl ?_
      refine s_ldc2 54 (-1) tw_741 dX0_weekLater_51 rfl ?_
      refine s_lxor 55 dX0_weekLater_54 rfl ?_
      refine s_land 56 dX0_weekLater_55 rfl ?_
      refine s_Lst 6 58 (by decide) dX0_weekLater_56 rfl ?_
      refine s_inc 8 1 61 (by decide) (by decide) dX0_weekLater_58 rfl ?_
      refine s_goto 6 dX0_weekLater_61 (by decide) ?_
      exact s_pick hk6
def BX0_weekLater_6 (k6 : KT Int64) : KT Int64 :=
  oIld 8 (oAld 0 (oGet 0 3 (oCmpge (oLld 6 (oLretP)) (oLld 1 (oLld 3 (oConst (.long (-1)) (olxor (oland (oIld 8 (oPick [0, 1, 3, 5, 6, 8] (BX0_weekLater_24 k6)))))))))))
set_option maxRecDepth 20000 in
theorem sBX0_weekLater_6 {k6 : KT Int64} (hk6 : Snd XX0_weekLater fL 6 k6 0 0) : Snd XX0_weekLater fL 6 (BX0_weekLater_6 k6) (0) (0) := by
  unfold BX0_weekLater_6
  refine s_Ild 8 8 dX0_weekLater_6 rfl ?_
  refine s_Aldn 0 rfl 9 dX0_weekLater_8 rfl ?_
  refine s_get 0 3 12 clX0 (by decide) tw_162 dX0_weekLater_9 rfl ?_
  refine s_cmpge 64 15 dX0_weekLater_12 (by decide) rfl ?_ ?_
  · refine s_Lld 6 66 dX0_weekLater_64 rfl ?_
    exact s_lretP rfl dX0_weekLater_66
  · refine s_Lldn 1 rfl 16 dX0_weekLater_15 rfl ?_
    refine s_Lldn 3 rfl 17 dX0_weekLater_16 rfl ?_
    refine s_ldc2 20 (-1) tw_741 dX0_weekLater_17 rfl ?_
    refine s_lxor 21 dX0_weekLater_20 rfl ?_
    refine s_land 22 dX0_weekLater_21 rfl ?_
    refine s_Ild 8 24 dX0_weekLater_22 rfl ?_
    exact s_pick (sBX0_weekLater_24 hk6)
def BX0_weekLater_0 : KT Int64 :=
  oLld 1 (oLst 6 (oConst (.int 0) (oIst 8 (oPick [0, 1, 3, 5, 6, 8] (lp (BX0_weekLater_6) FU)))))
set_option maxRecDepth 20000 in
theorem sBX0_weekLater_0 : Snd XX0_weekLater fL 0 (BX0_weekLater_0) (0) (0) := by
  unfold BX0_weekLater_0
  refine s_Lldn 1 rfl 1 dX0_weekLater_0 rfl ?_
  refine s_Lst 6 3 (by decide) dX0_weekLater_1 rfl ?_
  refine s_iconst 4 0 (by decide) dX0_weekLater_3 rfl ?_
  refine s_Ist 8 6 (by decide) dX0_weekLater_4 rfl ?_
  exact s_pick (s_lp (fun k hk => sBX0_weekLater_6  hk) FU)
def EX0_weekLater : List Value → HP → Option Int64 := en 9 BX0_weekLater_0
theorem cmX0_weekLater : CM XX0_weekLater EX0_weekLater fL 0 0 := CM.of rfl (by decide) rfl rfl sBX0_weekLater_0
theorem yoX0_weekLater : YO XX0_weekLater 3 0 0 := ⟨tw_1026, rfl, tw_8, (by decide +kernel), rfl, rfl⟩
abbrev XX0_isSeenAlong : MX := (yX0_isSeenAlong, cX0_isSeenAlong, 9, (Option.some .boolean), Cond.code yX0_isSeenAlong cX0_isSeenAlong 9 (Option.some .boolean) :: WS, { frames := 1, cells := 0, slots := 0, locals := 22 })
def BX0_isSeenAlong_49 (k6 : KT Bool) : KT Bool :=
  oCal 2 none EX10_isIn fZ (oIfne (oInc 8 1 (oPick [0, 1, 4, 5, 7, 8] k6)) (oConst (.int 0) (oZretP)))
set_option maxRecDepth 20000 in
theorem sBX0_isSeenAlong_49 {k6 : KT Bool} (hk6 : Snd XX0_isSeenAlong fZ 6 k6 0 0) : Snd XX0_isSeenAlong fZ 49 (BX0_isSeenAlong_49 k6) (0) (0) := by
  unfold BX0_isSeenAlong_49
  refine s_cal0 52 (run_SN (X := XX0_isSeenAlong) yoX10_isIn nw_78 tw_631 (by decide) dX0_isSeenAlong_49) cmX10_isIn (fun _ _ _ => rfl) rfl ?_
  refine s_ifne 57 55 dX0_isSeenAlong_52 (by decide) rfl ?_ ?_
  · refine s_inc 8 1 60 (by decide) (by decide) dX0_isSeenAlong_57 rfl ?_
    refine s_goto 6 dX0_isSeenAlong_60 (by decide) ?_
    exact s_pick hk6
  · refine s_iconst 56 0 (by decide) dX0_isSeenAlong_55 rfl ?_
    exact s_zretP rfl dX0_isSeenAlong_56
def BX0_isSeenAlong_26 (k6 : KT Bool) : KT Bool :=
  oCal 2 none EX10_isIn fZ (oIfeq (oIld 7 (oAld 0 (oGet 0 1 (oisub (oIld 4 (oiadd (oIst 7 (oLld 1 (oIld 7 (oPick [0, 1, 4, 5, 7, 8] (BX0_isSeenAlong_49 k6))))))))))) (oConst (.int 1) (oZretP)))
set_option maxRecDepth 20000 in
theorem sBX0_isSeenAlong_26 {k6 : KT Bool} (hk6 : Snd XX0_isSeenAlong fZ 6 k6 0 0) : Snd XX0_isSeenAlong fZ 26 (BX0_isSeenAlong_26 k6) (0) (0) := by
  unfold BX0_isSeenAlong_26
  refine s_cal0 29 (run_SN (X := XX0_isSeenAlong) yoX10_isIn nw_78 tw_631 (by decide) dX0_isSeenAlong_26) cmX10_isIn (fun _ _ _ => rfl) rfl ?_
  refine s_ifeq 34 32 dX0_isSeenAlong_29 (by decide) rfl ?_ ?_
  · refine s_Ild 7 36 dX0_isSeenAlong_34 rfl ?_
    refine s_Aldn 0 rfl 37 dX0_isSeenAlong_36 rfl ?_
    refine s_get 0 1 40 clX0 (by decide) tw_156 dX0_isSeenAlong_37 rfl ?_
    refine s_isub 41 dX0_isSeenAlong_40 rfl ?_
    refine s_Ild 4 43 dX0_isSeenAlong_41 rfl ?_
    refine s_iadd 44 dX0_isSeenAlong_43 rfl ?_
    refine s_Ist 7 46 (by decide) dX0_isSeenAlong_44 rfl ?_
    refine s_Lldn 1 rfl 47 dX0_isSeenAlong_46 rfl ?_
    refine s_Ild 7 49 dX0_isSeenAlong_47 rfl ?_
    exact s_pick (sBX0_isSeenAlong_49 hk6)
  · refine s_iconst 33 1 (by decide) dX0_isSeenAlong_32 rfl ?_
    exact s_zretP rfl dX0_isSeenAlong_33
def BX0_isSeenAlong_6 (k6 : KT Bool) : KT Bool :=
  oIld 8 (oConst (.int 6) (oCmpge (oConst (.int 1) (oZretP)) (oIld 7 (oAld 0 (oGet 0 1 (oCmplt (oConst (.int 1) (oZretP)) (oLld 5 (oIld 7 (oPick [0, 1, 4, 5, 7, 8] (BX0_isSeenAlong_26 k6))))))))))
set_option maxRecDepth 20000 in
theorem sBX0_isSeenAlong_6 {k6 : KT Bool} (hk6 : Snd XX0_isSeenAlong fZ 6 k6 0 0) : Snd XX0_isSeenAlong fZ 6 (BX0_isSeenAlong_6 k6) (0) (0) := by
  unfold BX0_isSeenAlong_6
  refine s_Ild 8 8 dX0_isSeenAlong_6 rfl ?_
  refine s_bipush 10 6 (by decide) dX0_isSeenAlong_8 rfl ?_
  refine s_cmpge 63 13 dX0_isSeenAlong_10 (by decide) rfl ?_ ?_
  · refine s_iconst 64 1 (by decide) dX0_isSeenAlong_63 rfl ?_
    exact s_zretP rfl dX0_isSeenAlong_64
  · refine s_Ild 7 15 dX0_isSeenAlong_13 rfl ?_
    refine s_Aldn 0 rfl 16 dX0_isSeenAlong_15 rfl ?_
    refine s_get 0 1 19 clX0 (by decide) tw_156 dX0_isSeenAlong_16 rfl ?_
    refine s_cmplt 32 22 dX0_isSeenAlong_19 (by decide) rfl ?_ ?_
    · refine s_iconst 33 1 (by decide) dX0_isSeenAlong_32 rfl ?_
      exact s_zretP rfl dX0_isSeenAlong_33
    · refine s_Lld 5 24 dX0_isSeenAlong_22 rfl ?_
      refine s_Ild 7 26 dX0_isSeenAlong_24 rfl ?_
      exact s_pick (sBX0_isSeenAlong_26 hk6)
def BX0_isSeenAlong_0 : KT Bool :=
  oIld 3 (oIst 7 (oConst (.int 0) (oIst 8 (oPick [0, 1, 4, 5, 7, 8] (lp (BX0_isSeenAlong_6) FU)))))
set_option maxRecDepth 20000 in
theorem sBX0_isSeenAlong_0 : Snd XX0_isSeenAlong fZ 0 (BX0_isSeenAlong_0) (0) (0) := by
  unfold BX0_isSeenAlong_0
  refine s_Ildn 3 rfl 1 dX0_isSeenAlong_0 rfl ?_
  refine s_Ist 7 3 (by decide) dX0_isSeenAlong_1 rfl ?_
  refine s_iconst 4 0 (by decide) dX0_isSeenAlong_3 rfl ?_
  refine s_Ist 8 6 (by decide) dX0_isSeenAlong_4 rfl ?_
  exact s_pick (s_lp (fun k hk => sBX0_isSeenAlong_6  hk) FU)
def EX0_isSeenAlong : List Value → HP → Option Bool := en 9 BX0_isSeenAlong_0
theorem cmX0_isSeenAlong : CM XX0_isSeenAlong EX0_isSeenAlong fZ 0 0 := CM.of rfl (by decide) rfl rfl sBX0_isSeenAlong_0
theorem yoX0_isSeenAlong : YO XX0_isSeenAlong 4 0 0 := ⟨tw_1047, rfl, tw_8, (by decide +kernel), rfl, rfl⟩
abbrev XX0_seenFromWall : MX := (yX0_seenFromWall, cX0_seenFromWall, 5, (Option.some .int), Cond.code yX0_seenFromWall cX0_seenFromWall 5 (Option.some .int) :: WS, { frames := 2, cells := 0, slots := 0, locals := 50 })
def BX0_seenFromWall_52 : KT Int32 :=
  oCal 5 (some 0) EX0_isSeenAlong fZ (oIfeq (oConst (.int 0) (oior (oIst 4 (oIld 4 (oIretP))))) (oConst (.int 4) (oior (oIst 4 (oIld 4 (oIretP))))))
set_option maxRecDepth 20000 in
theorem sBX0_seenFromWall_52 : Snd XX0_seenFromWall fI 52 (BX0_seenFromWall_52) (0) (0) := by
  unfold BX0_seenFromWall_52
  refine s_cal0 55 (run_V (X := XX0_seenFromWall) rfl clX0 yoX0_isSeenAlong rfl tw_1044 tw_1046 tw_p40 (by decide) dX0_seenFromWall_52) cmX0_isSeenAlong (fun _ _ _ => rfl) rfl ?_
  refine s_ifeq 62 58 dX0_seenFromWall_55 (by decide) rfl ?_ ?_
  · refine s_iconst 63 0 (by decide) dX0_seenFromWall_62 rfl ?_
    refine s_ior 64 dX0_seenFromWall_63 rfl ?_
    refine s_Ist 4 66 (by decide) dX0_seenFromWall_64 rfl ?_
    refine s_Ild 4 68 dX0_seenFromWall_66 rfl ?_
    exact s_iretP rfl dX0_seenFromWall_68
  · refine s_iconst 59 4 (by decide) dX0_seenFromWall_58 rfl ?_
    refine s_goto 63 dX0_seenFromWall_59 (by decide) ?_
    refine s_ior 64 dX0_seenFromWall_63 rfl ?_
    refine s_Ist 4 66 (by decide) dX0_seenFromWall_64 rfl ?_
    refine s_Ild 4 68 dX0_seenFromWall_66 rfl ?_
    exact s_iretP rfl dX0_seenFromWall_68
def BX0_seenFromWall_39 : KT Int32 :=
  oior (oIst 4 (oIld 4 (oAld 0 (oLld 1 (oIld 3 (oConst (.int 1) (oAld 0 (oGet 0 6 (oPick [] (BX0_seenFromWall_52))))))))))
set_option maxRecDepth 20000 in
theorem sBX0_seenFromWall_39 : Snd XX0_seenFromWall fI 39 (BX0_seenFromWall_39) (0) (0) := by
  unfold BX0_seenFromWall_39
  refine s_ior 40 dX0_seenFromWall_39 rfl ?_
  refine s_Ist 4 42 (by decide) dX0_seenFromWall_40 rfl ?_
  refine s_Ild 4 44 dX0_seenFromWall_42 rfl ?_
  refine s_Aldn 0 rfl 45 dX0_seenFromWall_44 rfl ?_
  refine s_Lldn 1 rfl 46 dX0_seenFromWall_45 rfl ?_
  refine s_Ildn 3 rfl 47 dX0_seenFromWall_46 rfl ?_
  refine s_iconst 48 1 (by decide) dX0_seenFromWall_47 rfl ?_
  refine s_Aldn 0 rfl 49 dX0_seenFromWall_48 rfl ?_
  refine s_get 0 6 52 clX0 (by decide) tw_168 dX0_seenFromWall_49 rfl ?_
  exact s_pick (sBX0_seenFromWall_52)
def BX0_seenFromWall_28 : KT Int32 :=
  oCal 5 (some 0) EX0_isSeenAlong fZ (oIfeq (oConst (.int 0) (oPick [0, 1, 3] (BX0_seenFromWall_39))) (oConst (.int 2) (oPick [0, 1, 3] (BX0_seenFromWall_39))))
set_option maxRecDepth 20000 in
theorem sBX0_seenFromWall_28 : Snd XX0_seenFromWall fI 28 (BX0_seenFromWall_28) (0) (0) := by
  unfold BX0_seenFromWall_28
  refine s_cal0 31 (run_V (X := XX0_seenFromWall) rfl clX0 yoX0_isSeenAlong rfl tw_1044 tw_1046 tw_p40 (by decide) dX0_seenFromWall_28) cmX0_isSeenAlong (fun _ _ _ => rfl) rfl ?_
  refine s_ifeq 38 34 dX0_seenFromWall_31 (by decide) rfl ?_ ?_
  · refine s_iconst 39 0 (by decide) dX0_seenFromWall_38 rfl ?_
    exact s_pick (sBX0_seenFromWall_39)
  · refine s_iconst 35 2 (by decide) dX0_seenFromWall_34 rfl ?_
    refine s_goto 39 dX0_seenFromWall_35 (by decide) ?_
    exact s_pick (sBX0_seenFromWall_39)
def BX0_seenFromWall_16 : KT Int32 :=
  oIst 4 (oIld 4 (oAld 0 (oLld 1 (oIld 3 (oConst (.int (-1)) (oAld 0 (oGet 0 5 (oPick [0, 1, 3] (BX0_seenFromWall_28)))))))))
set_option maxRecDepth 20000 in
theorem sBX0_seenFromWall_16 : Snd XX0_seenFromWall fI 16 (BX0_seenFromWall_16) (0) (0) := by
  unfold BX0_seenFromWall_16
  refine s_Ist 4 18 (by decide) dX0_seenFromWall_16 rfl ?_
  refine s_Ild 4 20 dX0_seenFromWall_18 rfl ?_
  refine s_Aldn 0 rfl 21 dX0_seenFromWall_20 rfl ?_
  refine s_Lldn 1 rfl 22 dX0_seenFromWall_21 rfl ?_
  refine s_Ildn 3 rfl 23 dX0_seenFromWall_22 rfl ?_
  refine s_iconst 24 (-1) (by decide) dX0_seenFromWall_23 rfl ?_
  refine s_Aldn 0 rfl 25 dX0_seenFromWall_24 rfl ?_
  refine s_get 0 5 28 clX0 (by decide) tw_167 dX0_seenFromWall_25 rfl ?_
  exact s_pick (sBX0_seenFromWall_28)
def BX0_seenFromWall_5 : KT Int32 :=
  oCal 5 (some 0) EX0_isSeenAlong fZ (oIfeq (oConst (.int 0) (oPick [0, 1, 3] (BX0_seenFromWall_16))) (oConst (.int 1) (oPick [0, 1, 3] (BX0_seenFromWall_16))))
set_option maxRecDepth 20000 in
theorem sBX0_seenFromWall_5 : Snd XX0_seenFromWall fI 5 (BX0_seenFromWall_5) (0) (0) := by
  unfold BX0_seenFromWall_5
  refine s_cal0 8 (run_V (X := XX0_seenFromWall) rfl clX0 yoX0_isSeenAlong rfl tw_1044 tw_1046 tw_p40 (by decide) dX0_seenFromWall_5) cmX0_isSeenAlong (fun _ _ _ => rfl) rfl ?_
  refine s_ifeq 15 11 dX0_seenFromWall_8 (by decide) rfl ?_ ?_
  · refine s_iconst 16 0 (by decide) dX0_seenFromWall_15 rfl ?_
    exact s_pick (sBX0_seenFromWall_16)
  · refine s_iconst 12 1 (by decide) dX0_seenFromWall_11 rfl ?_
    refine s_goto 16 dX0_seenFromWall_12 (by decide) ?_
    exact s_pick (sBX0_seenFromWall_16)
def BX0_seenFromWall_0 : KT Int32 :=
  oAld 0 (oLld 1 (oIld 3 (oConst (.int 0) (oConst (.long 0) (oPick [0, 1, 3] (BX0_seenFromWall_5))))))
set_option maxRecDepth 20000 in
theorem sBX0_seenFromWall_0 : Snd XX0_seenFromWall fI 0 (BX0_seenFromWall_0) (0) (0) := by
  unfold BX0_seenFromWall_0
  refine s_Aldn 0 rfl 1 dX0_seenFromWall_0 rfl ?_
  refine s_Lldn 1 rfl 2 dX0_seenFromWall_1 rfl ?_
  refine s_Ildn 3 rfl 3 dX0_seenFromWall_2 rfl ?_
  refine s_iconst 4 0 (by decide) dX0_seenFromWall_3 rfl ?_
  refine s_lconst 5 0 (by decide) dX0_seenFromWall_4 rfl ?_
  exact s_pick (sBX0_seenFromWall_5)
def EX0_seenFromWall : List Value → HP → Option Int32 := en 5 BX0_seenFromWall_0
theorem cmX0_seenFromWall : CM XX0_seenFromWall EX0_seenFromWall fI 0 0 := CM.of rfl (by decide) rfl rfl sBX0_seenFromWall_0
theorem yoX0_seenFromWall : YO XX0_seenFromWall 2 0 0 := ⟨tw_1043, rfl, tw_8, (by decide +kernel), rfl, rfl⟩
abbrev XX1_init : MX := (yX1_init, cX1_init, 1, none, Cond.code yX1_init cX1_init 1 none :: WS, { frames := 1, cells := 4, slots := 46, locals := 20 })
def BX1_init_0 : KT HP :=
  oAld 0 (oPopA (oAld 0 (oConst (.int 20) (oNar 2 zJ 20 (oPut 1 0 (.array .long) (oAld 0 (oConst (.int 20) (oNar 1 zI 20 (oPut 1 1 (.array .int) (oAld 0 (oConst (.int 3) (oNar 2 zJ 3 (oPut 1 2 (.array .long) (oAld 0 (oConst (.int 3) (oNar 1 zI 3 (oPut 1 3 (.array .int) (oVretH))))))))))))))))))
set_option maxRecDepth 20000 in
theorem sBX1_init_0 : Snd XX1_init fVH 0 (BX1_init_0) (4) (46) := by
  unfold BX1_init_0
  refine s_Aldn 0 rfl 1 dX1_init_0 rfl ?_
  refine s_objI 4 tw_105 tw_31 tw_32 (by decide) (by decide) dX1_init_1 rfl ?_
  refine s_Aldn 0 rfl 5 dX1_init_4 rfl ?_
  refine s_bipush 7 20 (by decide) dX1_init_5 rfl ?_
  refine s_narJ (mc := 3) (ms := 26) 20 9 (by decide) pVH tw_125 dX1_init_7 rfl ?_
  refine s_putF 1 0 12 clX1 (by decide) rfl rfl rfl rfl pVH tw_106 dX1_init_9 rfl ?_
  refine s_Aldn 0 rfl 13 dX1_init_12 rfl ?_
  refine s_bipush 15 20 (by decide) dX1_init_13 rfl ?_
  refine s_narI (mc := 2) (ms := 6) 20 17 (by decide) pVH tw_126 dX1_init_15 rfl ?_
  refine s_putF 1 1 20 clX1 (by decide) rfl rfl rfl rfl pVH tw_107 dX1_init_17 rfl ?_
  refine s_Aldn 0 rfl 21 dX1_init_20 rfl ?_
  refine s_iconst 22 3 (by decide) dX1_init_21 rfl ?_
  refine s_narJ (mc := 1) (ms := 3) 3 24 (by decide) pVH tw_125 dX1_init_22 rfl ?_
  refine s_putF 1 2 27 clX1 (by decide) rfl rfl rfl rfl pVH tw_108 dX1_init_24 rfl ?_
  refine s_Aldn 0 rfl 28 dX1_init_27 rfl ?_
  refine s_iconst 29 3 (by decide) dX1_init_28 rfl ?_
  refine s_narI (mc := 0) (ms := 0) 3 31 (by decide) pVH tw_126 dX1_init_29 rfl ?_
  refine s_putF 1 3 34 clX1 (by decide) rfl rfl rfl rfl pVH tw_109 dX1_init_31 rfl ?_
  exact s_vretH rfl dX1_init_34
def EX1_init : List Value → HP → Option HP := en 1 BX1_init_0
theorem cmX1_init : CM XX1_init EX1_init fVH 4 46 := CM.of rfl (by decide) rfl rfl sBX1_init_0
theorem yoX1_init : YO XX1_init 0 4 46 := ⟨tw_104, rfl, tw_5, (by decide +kernel), rfl, rfl⟩
abbrev XX1_forget : MX := (yX1_forget, cX1_forget, 1, none, Cond.code yX1_forget cX1_forget 1 none :: WS, { frames := 0, cells := 0, slots := 0, locals := 0 })
def BX1_forget_0 : KT HP :=
  oAld 0 (oConst (.int 0) (oPut 1 4 .int (oAld 0 (oConst (.int 0) (oPut 1 5 .int (oVretH))))))
set_option maxRecDepth 20000 in
theorem sBX1_forget_0 : Snd XX1_forget fVH 0 (BX1_forget_0) (0) (0) := by
  unfold BX1_forget_0
  refine s_Aldn 0 rfl 1 dX1_forget_0 rfl ?_
  refine s_iconst 2 0 (by decide) dX1_forget_1 rfl ?_
  refine s_put 1 4 5 clX1 (by decide) rfl rfl pVH tw_110 dX1_forget_2 rfl ?_
  refine s_Aldn 0 rfl 6 dX1_forget_5 rfl ?_
  refine s_iconst 7 0 (by decide) dX1_forget_6 rfl ?_
  refine s_put 1 5 10 clX1 (by decide) rfl rfl pVH tw_111 dX1_forget_7 rfl ?_
  exact s_vretH rfl dX1_forget_10
def EX1_forget : List Value → HP → Option HP := en 1 BX1_forget_0
theorem cmX1_forget : CM XX1_forget EX1_forget fVH 0 0 := CM.of rfl (by decide) rfl rfl sBX1_forget_0
theorem yoX1_forget : YO XX1_forget 0 0 0 := ⟨tw_695, rfl, tw_5, (by decide +kernel), rfl, rfl⟩
abbrev XX1_forgetActs : MX := (yX1_forgetActs, cX1_forgetActs, 1, none, Cond.code yX1_forgetActs cX1_forgetActs 1 none :: WS, { frames := 0, cells := 0, slots := 0, locals := 0 })
def BX1_forgetActs_0 : KT HP :=
  oAld 0 (oConst (.int 0) (oPut 1 4 .int (oVretH)))
set_option maxRecDepth 20000 in
theorem sBX1_forgetActs_0 : Snd XX1_forgetActs fVH 0 (BX1_forgetActs_0) (0) (0) := by
  unfold BX1_forgetActs_0
  refine s_Aldn 0 rfl 1 dX1_forgetActs_0 rfl ?_
  refine s_iconst 2 0 (by decide) dX1_forgetActs_1 rfl ?_
  refine s_put 1 4 5 clX1 (by decide) rfl rfl pVH tw_110 dX1_forgetActs_2 rfl ?_
  exact s_vretH rfl dX1_forgetActs_5
def EX1_forgetActs : List Value → HP → Option HP := en 1 BX1_forgetActs_0
theorem cmX1_forgetActs : CM XX1_forgetActs EX1_forgetActs fVH 0 0 := CM.of rfl (by decide) rfl rfl sBX1_forgetActs_0
theorem yoX1_forgetActs : YO XX1_forgetActs 0 0 0 := ⟨tw_1191, rfl, tw_5, (by decide +kernel), rfl, rfl⟩
abbrev XX1_actCount : MX := (yX1_actCount, cX1_actCount, 1, (Option.some .int), Cond.code yX1_actCount cX1_actCount 1 (Option.some .int) :: WS, { frames := 0, cells := 0, slots := 0, locals := 0 })
def BX1_actCount_0 : KT Int32 :=
  oAld 0 (oGet 1 4 (oIretP))
set_option maxRecDepth 20000 in
theorem sBX1_actCount_0 : Snd XX1_actCount fI 0 (BX1_actCount_0) (0) (0) := by
  unfold BX1_actCount_0
  refine s_Aldn 0 rfl 1 dX1_actCount_0 rfl ?_
  refine s_get 1 4 4 clX1 (by decide) tw_110 dX1_actCount_1 rfl ?_
  exact s_iretP rfl dX1_actCount_4
def EX1_actCount : List Value → HP → Option Int32 := en 1 BX1_actCount_0
theorem cmX1_actCount : CM XX1_actCount EX1_actCount fI 0 0 := CM.of rfl (by decide) rfl rfl sBX1_actCount_0
theorem yoX1_actCount : YO XX1_actCount 0 0 0 := ⟨tw_1151, rfl, tw_5, (by decide +kernel), rfl, rfl⟩
abbrev XX1_markCount : MX := (yX1_markCount, cX1_markCount, 1, (Option.some .int), Cond.code yX1_markCount cX1_markCount 1 (Option.some .int) :: WS, { frames := 0, cells := 0, slots := 0, locals := 0 })
def BX1_markCount_0 : KT Int32 :=
  oAld 0 (oGet 1 5 (oIretP))
set_option maxRecDepth 20000 in
theorem sBX1_markCount_0 : Snd XX1_markCount fI 0 (BX1_markCount_0) (0) (0) := by
  unfold BX1_markCount_0
  refine s_Aldn 0 rfl 1 dX1_markCount_0 rfl ?_
  refine s_get 1 5 4 clX1 (by decide) tw_111 dX1_markCount_1 rfl ?_
  exact s_iretP rfl dX1_markCount_4
def EX1_markCount : List Value → HP → Option Int32 := en 1 BX1_markCount_0
theorem cmX1_markCount : CM XX1_markCount EX1_markCount fI 0 0 := CM.of rfl (by decide) rfl rfl sBX1_markCount_0
theorem yoX1_markCount : YO XX1_markCount 0 0 0 := ⟨tw_1199, rfl, tw_5, (by decide +kernel), rfl, rfl⟩
abbrev XX1_keepAct : MX := (yX1_keepAct, cX1_keepAct, 4, none, Cond.code yX1_keepAct cX1_keepAct 4 none :: WS, { frames := 1, cells := 0, slots := 0, locals := 20 })
def BX1_keepAct_45 : KT HP :=
  oAld 0 (oGet 1 4 (oIflt (oVretH) (oAld 0 (oGet 1 4 (oAld 0 (oGet 1 0 (oLen (oCmpge (oVretH) (oAld 0 (oGet 1 4 (oAld 0 (oGet 1 1 (oLen (oCmpge (oVretH) (oAld 0 (oGet 1 0 (oAld 0 (oGet 1 4 (oLld 1 (oJw (oAld 0 (oGet 1 1 (oAld 0 (oGet 1 4 (oIld 3 (oIw (oAld 0 (odup (oGet 1 4 (oConst (.int 1) (oiadd (oPut 1 4 .int (oVretH)))))))))))))))))))))))))))))))))
set_option maxRecDepth 20000 in
theorem sBX1_keepAct_45 : Snd XX1_keepAct fVH 45 (BX1_keepAct_45) (0) (0) := by
  unfold BX1_keepAct_45
  refine s_Aldn 0 rfl 46 dX1_keepAct_45 rfl ?_
  refine s_get 1 4 49 clX1 (by decide) tw_110 dX1_keepAct_46 rfl ?_
  refine s_iflt 106 52 dX1_keepAct_49 (by decide) rfl ?_ ?_
  · exact s_vretH rfl dX1_keepAct_106
  · refine s_Aldn 0 rfl 53 dX1_keepAct_52 rfl ?_
    refine s_get 1 4 56 clX1 (by decide) tw_110 dX1_keepAct_53 rfl ?_
    refine s_Aldn 0 rfl 57 dX1_keepAct_56 rfl ?_
    refine s_get 1 0 60 clX1 (by decide) tw_106 dX1_keepAct_57 rfl ?_
    refine s_len 61 dX1_keepAct_60 rfl ?_
    refine s_cmpge 106 64 dX1_keepAct_61 (by decide) rfl ?_ ?_
    · exact s_vretH rfl dX1_keepAct_106
    · refine s_Aldn 0 rfl 65 dX1_keepAct_64 rfl ?_
      refine s_get 1 4 68 clX1 (by decide) tw_110 dX1_keepAct_65 rfl ?_
      refine s_Aldn 0 rfl 69 dX1_keepAct_68 rfl ?_
      refine s_get 1 1 72 clX1 (by decide) tw_107 dX1_keepAct_69 rfl ?_
      refine s_len 73 dX1_keepAct_72 rfl ?_
      refine s_cmpge 106 76 dX1_keepAct_73 (by decide) rfl ?_ ?_
      · exact s_vretH rfl dX1_keepAct_106
      · refine s_Aldn 0 rfl 77 dX1_keepAct_76 rfl ?_
        refine s_get 1 0 80 clX1 (by decide) tw_106 dX1_keepAct_77 rfl ?_
        refine s_Aldn 0 rfl 81 dX1_keepAct_80 rfl ?_
        refine s_get 1 4 84 clX1 (by decide) tw_110 dX1_keepAct_81 rfl ?_
        refine s_Lldn 1 rfl 85 dX1_keepAct_84 rfl ?_
        refine s_Jw 86 pVH dX1_keepAct_85 rfl ?_
        refine s_Aldn 0 rfl 87 dX1_keepAct_86 rfl ?_
        refine s_get 1 1 90 clX1 (by decide) tw_107 dX1_keepAct_87 rfl ?_
        refine s_Aldn 0 rfl 91 dX1_keepAct_90 rfl ?_
        refine s_get 1 4 94 clX1 (by decide) tw_110 dX1_keepAct_91 rfl ?_
        refine s_Ildn 3 rfl 95 dX1_keepAct_94 rfl ?_
        refine s_Iw 96 pVH dX1_keepAct_95 rfl ?_
        refine s_Aldn 0 rfl 97 dX1_keepAct_96 rfl ?_
        refine s_dup 98 dX1_keepAct_97 rfl ?_
        refine s_get 1 4 101 clX1 (by decide) tw_110 dX1_keepAct_98 rfl ?_
        refine s_iconst 102 1 (by decide) dX1_keepAct_101 rfl ?_
        refine s_iadd 103 dX1_keepAct_102 rfl ?_
        refine s_put 1 4 106 clX1 (by decide) rfl rfl pVH tw_110 dX1_keepAct_103 rfl ?_
        exact s_vretH rfl dX1_keepAct_106
def BX1_keepAct_0 : KT HP :=
  oAld 0 (oGet 1 4 (oConst (.int 20) (oCmplt (oPick [0, 1, 3] (BX1_keepAct_45)) (oAld 0 (oGet 1 0 (oConst (.int 1) (oAld 0 (oGet 1 0 (oConst (.int 0) (oConst (.int 19) (oCpyJ (oAld 0 (oGet 1 1 (oConst (.int 1) (oAld 0 (oGet 1 1 (oConst (.int 0) (oConst (.int 19) (oCpyI (oAld 0 (oConst (.int 19) (oPut 1 4 .int (oPick [0, 1, 3] (BX1_keepAct_45))))))))))))))))))))))))
set_option maxRecDepth 20000 in
theorem sBX1_keepAct_0 : Snd XX1_keepAct fVH 0 (BX1_keepAct_0) (0) (0) := by
  unfold BX1_keepAct_0
  refine s_Aldn 0 rfl 1 dX1_keepAct_0 rfl ?_
  refine s_get 1 4 4 clX1 (by decide) tw_110 dX1_keepAct_1 rfl ?_
  refine s_bipush 6 20 (by decide) dX1_keepAct_4 rfl ?_
  refine s_cmplt 45 9 dX1_keepAct_6 (by decide) rfl ?_ ?_
  · exact s_pick (sBX1_keepAct_45)
  · refine s_Aldn 0 rfl 10 dX1_keepAct_9 rfl ?_
    refine s_get 1 0 13 clX1 (by decide) tw_106 dX1_keepAct_10 rfl ?_
    refine s_iconst 14 1 (by decide) dX1_keepAct_13 rfl ?_
    refine s_Aldn 0 rfl 15 dX1_keepAct_14 rfl ?_
    refine s_get 1 0 18 clX1 (by decide) tw_106 dX1_keepAct_15 rfl ?_
    refine s_iconst 19 0 (by decide) dX1_keepAct_18 rfl ?_
    refine s_bipush 21 19 (by decide) dX1_keepAct_19 rfl ?_
    refine s_cpyJ 24 pVH tw_1116 tw_1118 tw_1117 tw_20 (by decide) (by decide) dX1_keepAct_21 rfl ?_
    refine s_Aldn 0 rfl 25 dX1_keepAct_24 rfl ?_
    refine s_get 1 1 28 clX1 (by decide) tw_107 dX1_keepAct_25 rfl ?_
    refine s_iconst 29 1 (by decide) dX1_keepAct_28 rfl ?_
    refine s_Aldn 0 rfl 30 dX1_keepAct_29 rfl ?_
    refine s_get 1 1 33 clX1 (by decide) tw_107 dX1_keepAct_30 rfl ?_
    refine s_iconst 34 0 (by decide) dX1_keepAct_33 rfl ?_
    refine s_bipush 36 19 (by decide) dX1_keepAct_34 rfl ?_
    refine s_cpyI 39 pVH tw_1116 tw_1118 tw_1117 tw_20 (by decide) (by decide) dX1_keepAct_36 rfl ?_
    refine s_Aldn 0 rfl 40 dX1_keepAct_39 rfl ?_
    refine s_bipush 42 19 (by decide) dX1_keepAct_40 rfl ?_
    refine s_put 1 4 45 clX1 (by decide) rfl rfl pVH tw_110 dX1_keepAct_42 rfl ?_
    exact s_pick (sBX1_keepAct_45)
def EX1_keepAct : List Value → HP → Option HP := en 4 BX1_keepAct_0
theorem cmX1_keepAct : CM XX1_keepAct EX1_keepAct fVH 0 0 := CM.of rfl (by decide) rfl rfl sBX1_keepAct_0
theorem yoX1_keepAct : YO XX1_keepAct 2 0 0 := ⟨tw_1115, rfl, tw_5, (by decide +kernel), rfl, rfl⟩
abbrev XX1_latestCells : MX := (yX1_latestCells, cX1_latestCells, 1, (Option.some .long), Cond.code yX1_latestCells cX1_latestCells 1 (Option.some .long) :: WS, { frames := 0, cells := 0, slots := 0, locals := 0 })
def BX1_latestCells_0 : KT Int64 :=
  oAld 0 (oGet 1 4 (oIfle (oConst (.long 0) (oLretP)) (oAld 0 (oGet 1 4 (oAld 0 (oGet 1 0 (oLen (oCmpgt (oConst (.long 0) (oLretP)) (oAld 0 (oGet 1 0 (oAld 0 (oGet 1 4 (oConst (.int 1) (oisub (oJa (oLretP))))))))))))))))
set_option maxRecDepth 20000 in
theorem sBX1_latestCells_0 : Snd XX1_latestCells fL 0 (BX1_latestCells_0) (0) (0) := by
  unfold BX1_latestCells_0
  refine s_Aldn 0 rfl 1 dX1_latestCells_0 rfl ?_
  refine s_get 1 4 4 clX1 (by decide) tw_110 dX1_latestCells_1 rfl ?_
  refine s_ifle 33 7 dX1_latestCells_4 (by decide) rfl ?_ ?_
  · refine s_lconst 34 0 (by decide) dX1_latestCells_33 rfl ?_
    exact s_lretP rfl dX1_latestCells_34
  · refine s_Aldn 0 rfl 8 dX1_latestCells_7 rfl ?_
    refine s_get 1 4 11 clX1 (by decide) tw_110 dX1_latestCells_8 rfl ?_
    refine s_Aldn 0 rfl 12 dX1_latestCells_11 rfl ?_
    refine s_get 1 0 15 clX1 (by decide) tw_106 dX1_latestCells_12 rfl ?_
    refine s_len 16 dX1_latestCells_15 rfl ?_
    refine s_cmpgt 33 19 dX1_latestCells_16 (by decide) rfl ?_ ?_
    · refine s_lconst 34 0 (by decide) dX1_latestCells_33 rfl ?_
      exact s_lretP rfl dX1_latestCells_34
    · refine s_Aldn 0 rfl 20 dX1_latestCells_19 rfl ?_
      refine s_get 1 0 23 clX1 (by decide) tw_106 dX1_latestCells_20 rfl ?_
      refine s_Aldn 0 rfl 24 dX1_latestCells_23 rfl ?_
      refine s_get 1 4 27 clX1 (by decide) tw_110 dX1_latestCells_24 rfl ?_
      refine s_iconst 28 1 (by decide) dX1_latestCells_27 rfl ?_
      refine s_isub 29 dX1_latestCells_28 rfl ?_
      refine s_Ja 30 dX1_latestCells_29 rfl ?_
      refine s_goto 34 dX1_latestCells_30 (by decide) ?_
      exact s_lretP rfl dX1_latestCells_34
def EX1_latestCells : List Value → HP → Option Int64 := en 1 BX1_latestCells_0
theorem cmX1_latestCells : CM XX1_latestCells EX1_latestCells fL 0 0 := CM.of rfl (by decide) rfl rfl sBX1_latestCells_0
theorem yoX1_latestCells : YO XX1_latestCells 0 0 0 := ⟨tw_1155, rfl, tw_5, (by decide +kernel), rfl, rfl⟩
abbrev XX1_latestSeed : MX := (yX1_latestSeed, cX1_latestSeed, 1, (Option.some .int), Cond.code yX1_latestSeed cX1_latestSeed 1 (Option.some .int) :: WS, { frames := 0, cells := 0, slots := 0, locals := 0 })
def BX1_latestSeed_0 : KT Int32 :=
  oAld 0 (oGet 1 4 (oIfle (oConst (.int 0) (oIretP)) (oAld 0 (oGet 1 4 (oAld 0 (oGet 1 1 (oLen (oCmpgt (oConst (.int 0) (oIretP)) (oAld 0 (oGet 1 1 (oAld 0 (oGet 1 4 (oConst (.int 1) (oisub (oIa (oIretP))))))))))))))))
set_option maxRecDepth 20000 in
theorem sBX1_latestSeed_0 : Snd XX1_latestSeed fI 0 (BX1_latestSeed_0) (0) (0) := by
  unfold BX1_latestSeed_0
  refine s_Aldn 0 rfl 1 dX1_latestSeed_0 rfl ?_
  refine s_get 1 4 4 clX1 (by decide) tw_110 dX1_latestSeed_1 rfl ?_
  refine s_ifle 33 7 dX1_latestSeed_4 (by decide) rfl ?_ ?_
  · refine s_iconst 34 0 (by decide) dX1_latestSeed_33 rfl ?_
    exact s_iretP rfl dX1_latestSeed_34
  · refine s_Aldn 0 rfl 8 dX1_latestSeed_7 rfl ?_
    refine s_get 1 4 11 clX1 (by decide) tw_110 dX1_latestSeed_8 rfl ?_
    refine s_Aldn 0 rfl 12 dX1_latestSeed_11 rfl ?_
    refine s_get 1 1 15 clX1 (by decide) tw_107 dX1_latestSeed_12 rfl ?_
    refine s_len 16 dX1_latestSeed_15 rfl ?_
    refine s_cmpgt 33 19 dX1_latestSeed_16 (by decide) rfl ?_ ?_
    · refine s_iconst 34 0 (by decide) dX1_latestSeed_33 rfl ?_
      exact s_iretP rfl dX1_latestSeed_34
    · refine s_Aldn 0 rfl 20 dX1_latestSeed_19 rfl ?_
      refine s_get 1 1 23 clX1 (by decide) tw_107 dX1_latestSeed_20 rfl ?_
      refine s_Aldn 0 rfl 24 dX1_latestSeed_23 rfl ?_
      refine s_get 1 4 27 clX1 (by decide) tw_110 dX1_latestSeed_24 rfl ?_
      refine s_iconst 28 1 (by decide) dX1_latestSeed_27 rfl ?_
      refine s_isub 29 dX1_latestSeed_28 rfl ?_
      refine s_Ia 30 dX1_latestSeed_29 rfl ?_
      refine s_goto 34 dX1_latestSeed_30 (by decide) ?_
      exact s_iretP rfl dX1_latestSeed_34
def EX1_latestSeed : List Value → HP → Option Int32 := en 1 BX1_latestSeed_0
theorem cmX1_latestSeed : CM XX1_latestSeed EX1_latestSeed fI 0 0 := CM.of rfl (by decide) rfl rfl sBX1_latestSeed_0
theorem yoX1_latestSeed : YO XX1_latestSeed 0 0 0 := ⟨tw_1159, rfl, tw_5, (by decide +kernel), rfl, rfl⟩
abbrev XX1_dropLatest : MX := (yX1_dropLatest, cX1_dropLatest, 1, none, Cond.code yX1_dropLatest cX1_dropLatest 1 none :: WS, { frames := 0, cells := 0, slots := 0, locals := 0 })
def BX1_dropLatest_0 : KT HP :=
  oAld 0 (oGet 1 4 (oIfle (oVretH) (oAld 0 (odup (oGet 1 4 (oConst (.int 1) (oisub (oPut 1 4 .int (oVretH)))))))))
set_option maxRecDepth 20000 in
theorem sBX1_dropLatest_0 : Snd XX1_dropLatest fVH 0 (BX1_dropLatest_0) (0) (0) := by
  unfold BX1_dropLatest_0
  refine s_Aldn 0 rfl 1 dX1_dropLatest_0 rfl ?_
  refine s_get 1 4 4 clX1 (by decide) tw_110 dX1_dropLatest_1 rfl ?_
  refine s_ifle 17 7 dX1_dropLatest_4 (by decide) rfl ?_ ?_
  · exact s_vretH rfl dX1_dropLatest_17
  · refine s_Aldn 0 rfl 8 dX1_dropLatest_7 rfl ?_
    refine s_dup 9 dX1_dropLatest_8 rfl ?_
    refine s_get 1 4 12 clX1 (by decide) tw_110 dX1_dropLatest_9 rfl ?_
    refine s_iconst 13 1 (by decide) dX1_dropLatest_12 rfl ?_
    refine s_isub 14 dX1_dropLatest_13 rfl ?_
    refine s_put 1 4 17 clX1 (by decide) rfl rfl pVH tw_110 dX1_dropLatest_14 rfl ?_
    exact s_vretH rfl dX1_dropLatest_17
def EX1_dropLatest : List Value → HP → Option HP := en 1 BX1_dropLatest_0
theorem cmX1_dropLatest : CM XX1_dropLatest EX1_dropLatest fVH 0 0 := CM.of rfl (by decide) rfl rfl sBX1_dropLatest_0
theorem yoX1_dropLatest : YO XX1_dropLatest 0 0 0 := ⟨tw_1163, rfl, tw_5, (by decide +kernel), rfl, rfl⟩
abbrev XX1_addMark : MX := (yX1_addMark, cX1_addMark, 4, (Option.some .int), Cond.code yX1_addMark cX1_addMark 4 (Option.some .int) :: WS, { frames := 0, cells := 0, slots := 0, locals := 0 })
def BX1_addMark_0 : KT (Int32 × HP) :=
  oAld 0 (oGet 1 5 (oIflt (oConst (.int (-1)) (oIretH)) (oAld 0 (oGet 1 5 (oAld 0 (oGet 1 2 (oLen (oCmpge (oConst (.int (-1)) (oIretH)) (oAld 0 (oGet 1 5 (oAld 0 (oGet 1 3 (oLen (oCmplt (oAld 0 (oGet 1 2 (oAld 0 (oGet 1 5 (oLld 1 (oJw (oAld 0 (oGet 1 3 (oAld 0 (oGet 1 5 (oIld 3 (oIw (oAld 0 (odup (oGet 1 5 (oConst (.int 1) (oiadd (oPut 1 5 .int (oAld 0 (oGet 1 5 (oConst (.int 1) (oisub (oIretH))))))))))))))))))))))) (oConst (.int (-1)) (oIretH))))))))))))))))
set_option maxRecDepth 20000 in
theorem sBX1_addMark_0 : Snd XX1_addMark fIH 0 (BX1_addMark_0) (0) (0) := by
  unfold BX1_addMark_0
  refine s_Aldn 0 rfl 1 dX1_addMark_0 rfl ?_
  refine s_get 1 5 4 clX1 (by decide) tw_111 dX1_addMark_1 rfl ?_
  refine s_iflt 31 7 dX1_addMark_4 (by decide) rfl ?_ ?_
  · refine s_iconst 32 (-1) (by decide) dX1_addMark_31 rfl ?_
    exact s_iretH rfl dX1_addMark_32
  · refine s_Aldn 0 rfl 8 dX1_addMark_7 rfl ?_
    refine s_get 1 5 11 clX1 (by decide) tw_111 dX1_addMark_8 rfl ?_
    refine s_Aldn 0 rfl 12 dX1_addMark_11 rfl ?_
    refine s_get 1 2 15 clX1 (by decide) tw_108 dX1_addMark_12 rfl ?_
    refine s_len 16 dX1_addMark_15 rfl ?_
    refine s_cmpge 31 19 dX1_addMark_16 (by decide) rfl ?_ ?_
    · refine s_iconst 32 (-1) (by decide) dX1_addMark_31 rfl ?_
      exact s_iretH rfl dX1_addMark_32
    · refine s_Aldn 0 rfl 20 dX1_addMark_19 rfl ?_
      refine s_get 1 5 23 clX1 (by decide) tw_111 dX1_addMark_20 rfl ?_
      refine s_Aldn 0 rfl 24 dX1_addMark_23 rfl ?_
      refine s_get 1 3 27 clX1 (by decide) tw_109 dX1_addMark_24 rfl ?_
      refine s_len 28 dX1_addMark_27 rfl ?_
      refine s_cmplt 33 31 dX1_addMark_28 (by decide) rfl ?_ ?_
      · refine s_Aldn 0 rfl 34 dX1_addMark_33 rfl ?_
        refine s_get 1 2 37 clX1 (by decide) tw_108 dX1_addMark_34 rfl ?_
        refine s_Aldn 0 rfl 38 dX1_addMark_37 rfl ?_
        refine s_get 1 5 41 clX1 (by decide) tw_111 dX1_addMark_38 rfl ?_
        refine s_Lldn 1 rfl 42 dX1_addMark_41 rfl ?_
        refine s_Jw 43 pIH dX1_addMark_42 rfl ?_
        refine s_Aldn 0 rfl 44 dX1_addMark_43 rfl ?_
        refine s_get 1 3 47 clX1 (by decide) tw_109 dX1_addMark_44 rfl ?_
        refine s_Aldn 0 rfl 48 dX1_addMark_47 rfl ?_
        refine s_get 1 5 51 clX1 (by decide) tw_111 dX1_addMark_48 rfl ?_
        refine s_Ildn 3 rfl 52 dX1_addMark_51 rfl ?_
        refine s_Iw 53 pIH dX1_addMark_52 rfl ?_
        refine s_Aldn 0 rfl 54 dX1_addMark_53 rfl ?_
        refine s_dup 55 dX1_addMark_54 rfl ?_
        refine s_get 1 5 58 clX1 (by decide) tw_111 dX1_addMark_55 rfl ?_
        refine s_iconst 59 1 (by decide) dX1_addMark_58 rfl ?_
        refine s_iadd 60 dX1_addMark_59 rfl ?_
        refine s_put 1 5 63 clX1 (by decide) rfl rfl pIH tw_111 dX1_addMark_60 rfl ?_
        refine s_Aldn 0 rfl 64 dX1_addMark_63 rfl ?_
        refine s_get 1 5 67 clX1 (by decide) tw_111 dX1_addMark_64 rfl ?_
        refine s_iconst 68 1 (by decide) dX1_addMark_67 rfl ?_
        refine s_isub 69 dX1_addMark_68 rfl ?_
        exact s_iretH rfl dX1_addMark_69
      · refine s_iconst 32 (-1) (by decide) dX1_addMark_31 rfl ?_
        exact s_iretH rfl dX1_addMark_32
def EX1_addMark : List Value → HP → Option (Int32 × HP) := en 4 BX1_addMark_0
theorem cmX1_addMark : CM XX1_addMark EX1_addMark fIH 0 0 := CM.of rfl (by decide) rfl rfl sBX1_addMark_0
theorem yoX1_addMark : YO XX1_addMark 2 0 0 := ⟨tw_1171, rfl, tw_5, (by decide +kernel), rfl, rfl⟩
abbrev XX1_hasMark : MX := (yX1_hasMark, cX1_hasMark, 2, (Option.some .boolean), Cond.code yX1_hasMark cX1_hasMark 2 (Option.some .boolean) :: WS, { frames := 0, cells := 0, slots := 0, locals := 0 })
def BX1_hasMark_0 : KT Bool :=
  oIld 1 (oIflt (oConst (.int 0) (oZretP)) (oIld 1 (oAld 0 (oGet 1 5 (oCmpge (oConst (.int 0) (oZretP)) (oConst (.int 1) (oZretP)))))))
set_option maxRecDepth 20000 in
theorem sBX1_hasMark_0 : Snd XX1_hasMark fZ 0 (BX1_hasMark_0) (0) (0) := by
  unfold BX1_hasMark_0
  refine s_Ildn 1 rfl 1 dX1_hasMark_0 rfl ?_
  refine s_iflt 16 4 dX1_hasMark_1 (by decide) rfl ?_ ?_
  · refine s_iconst 17 0 (by decide) dX1_hasMark_16 rfl ?_
    exact s_zretP rfl dX1_hasMark_17
  · refine s_Ildn 1 rfl 5 dX1_hasMark_4 rfl ?_
    refine s_Aldn 0 rfl 6 dX1_hasMark_5 rfl ?_
    refine s_get 1 5 9 clX1 (by decide) tw_111 dX1_hasMark_6 rfl ?_
    refine s_cmpge 16 12 dX1_hasMark_9 (by decide) rfl ?_ ?_
    · refine s_iconst 17 0 (by decide) dX1_hasMark_16 rfl ?_
      exact s_zretP rfl dX1_hasMark_17
    · refine s_iconst 13 1 (by decide) dX1_hasMark_12 rfl ?_
      refine s_goto 17 dX1_hasMark_13 (by decide) ?_
      exact s_zretP rfl dX1_hasMark_17
def EX1_hasMark : List Value → HP → Option Bool := en 2 BX1_hasMark_0
theorem cmX1_hasMark : CM XX1_hasMark EX1_hasMark fZ 0 0 := CM.of rfl (by decide) rfl rfl sBX1_hasMark_0
theorem yoX1_hasMark : YO XX1_hasMark 1 0 0 := ⟨tw_1179, rfl, tw_5, (by decide +kernel), rfl, rfl⟩
abbrev XX1_markedCells : MX := (yX1_markedCells, cX1_markedCells, 2, (Option.some .long), Cond.code yX1_markedCells cX1_markedCells 2 (Option.some .long) :: WS, { frames := 0, cells := 0, slots := 0, locals := 0 })
def BX1_markedCells_0 : KT Int64 :=
  oIld 1 (oIflt (oConst (.long 0) (oLretP)) (oIld 1 (oAld 0 (oGet 1 2 (oLen (oCmpge (oConst (.long 0) (oLretP)) (oAld 0 (oGet 1 2 (oIld 1 (oJa (oLretP)))))))))))
set_option maxRecDepth 20000 in
theorem sBX1_markedCells_0 : Snd XX1_markedCells fL 0 (BX1_markedCells_0) (0) (0) := by
  unfold BX1_markedCells_0
  refine s_Ildn 1 rfl 1 dX1_markedCells_0 rfl ?_
  refine s_iflt 22 4 dX1_markedCells_1 (by decide) rfl ?_ ?_
  · refine s_lconst 23 0 (by decide) dX1_markedCells_22 rfl ?_
    exact s_lretP rfl dX1_markedCells_23
  · refine s_Ildn 1 rfl 5 dX1_markedCells_4 rfl ?_
    refine s_Aldn 0 rfl 6 dX1_markedCells_5 rfl ?_
    refine s_get 1 2 9 clX1 (by decide) tw_108 dX1_markedCells_6 rfl ?_
    refine s_len 10 dX1_markedCells_9 rfl ?_
    refine s_cmpge 22 13 dX1_markedCells_10 (by decide) rfl ?_ ?_
    · refine s_lconst 23 0 (by decide) dX1_markedCells_22 rfl ?_
      exact s_lretP rfl dX1_markedCells_23
    · refine s_Aldn 0 rfl 14 dX1_markedCells_13 rfl ?_
      refine s_get 1 2 17 clX1 (by decide) tw_108 dX1_markedCells_14 rfl ?_
      refine s_Ildn 1 rfl 18 dX1_markedCells_17 rfl ?_
      refine s_Ja 19 dX1_markedCells_18 rfl ?_
      refine s_goto 23 dX1_markedCells_19 (by decide) ?_
      exact s_lretP rfl dX1_markedCells_23
def EX1_markedCells : List Value → HP → Option Int64 := en 2 BX1_markedCells_0
theorem cmX1_markedCells : CM XX1_markedCells EX1_markedCells fL 0 0 := CM.of rfl (by decide) rfl rfl sBX1_markedCells_0
theorem yoX1_markedCells : YO XX1_markedCells 1 0 0 := ⟨tw_1183, rfl, tw_5, (by decide +kernel), rfl, rfl⟩
abbrev XX1_markedSeed : MX := (yX1_markedSeed, cX1_markedSeed, 2, (Option.some .int), Cond.code yX1_markedSeed cX1_markedSeed 2 (Option.some .int) :: WS, { frames := 0, cells := 0, slots := 0, locals := 0 })
def BX1_markedSeed_0 : KT Int32 :=
  oIld 1 (oIflt (oConst (.int 0) (oIretP)) (oIld 1 (oAld 0 (oGet 1 3 (oLen (oCmpge (oConst (.int 0) (oIretP)) (oAld 0 (oGet 1 3 (oIld 1 (oIa (oIretP)))))))))))
set_option maxRecDepth 20000 in
theorem sBX1_markedSeed_0 : Snd XX1_markedSeed fI 0 (BX1_markedSeed_0) (0) (0) := by
  unfold BX1_markedSeed_0
  refine s_Ildn 1 rfl 1 dX1_markedSeed_0 rfl ?_
  refine s_iflt 22 4 dX1_markedSeed_1 (by decide) rfl ?_ ?_
  · refine s_iconst 23 0 (by decide) dX1_markedSeed_22 rfl ?_
    exact s_iretP rfl dX1_markedSeed_23
  · refine s_Ildn 1 rfl 5 dX1_markedSeed_4 rfl ?_
    refine s_Aldn 0 rfl 6 dX1_markedSeed_5 rfl ?_
    refine s_get 1 3 9 clX1 (by decide) tw_109 dX1_markedSeed_6 rfl ?_
    refine s_len 10 dX1_markedSeed_9 rfl ?_
    refine s_cmpge 22 13 dX1_markedSeed_10 (by decide) rfl ?_ ?_
    · refine s_iconst 23 0 (by decide) dX1_markedSeed_22 rfl ?_
      exact s_iretP rfl dX1_markedSeed_23
    · refine s_Aldn 0 rfl 14 dX1_markedSeed_13 rfl ?_
      refine s_get 1 3 17 clX1 (by decide) tw_109 dX1_markedSeed_14 rfl ?_
      refine s_Ildn 1 rfl 18 dX1_markedSeed_17 rfl ?_
      refine s_Ia 19 dX1_markedSeed_18 rfl ?_
      refine s_goto 23 dX1_markedSeed_19 (by decide) ?_
      exact s_iretP rfl dX1_markedSeed_23
def EX1_markedSeed : List Value → HP → Option Int32 := en 2 BX1_markedSeed_0
theorem cmX1_markedSeed : CM XX1_markedSeed EX1_markedSeed fI 0 0 := CM.of rfl (by decide) rfl rfl sBX1_markedSeed_0
theorem yoX1_markedSeed : YO XX1_markedSeed 1 0 0 := ⟨tw_1187, rfl, tw_5, (by decide +kernel), rfl, rfl⟩
abbrev XX2_init : MX := (yX2_init, cX2_init, 1, none, Cond.code yX2_init cX2_init 1 none :: WS, { frames := 1, cells := 0, slots := 0, locals := 20 })
def BX2_init_0 : KT HP :=
  oAld 0 (oPopA (oVretH))
set_option maxRecDepth 20000 in
theorem sBX2_init_0 : Snd XX2_init fVH 0 (BX2_init_0) (0) (0) := by
  unfold BX2_init_0
  refine s_Aldn 0 rfl 1 dX2_init_0 rfl ?_
  refine s_objI 4 tw_189 tw_31 tw_32 (by decide) (by decide) dX2_init_1 rfl ?_
  exact s_vretH rfl dX2_init_4
def EX2_init : List Value → HP → Option HP := en 1 BX2_init_0
theorem cmX2_init : CM XX2_init EX2_init fVH 0 0 := CM.of rfl (by decide) rfl rfl sBX2_init_0
theorem yoX2_init : YO XX2_init 0 0 0 := ⟨tw_188, rfl, tw_9, (by decide +kernel), rfl, rfl⟩
abbrev XX2_empty : MX := (yX2_empty, cX2_empty, 1, none, Cond.code yX2_empty cX2_empty 1 none :: WS, { frames := 0, cells := 0, slots := 0, locals := 0 })
def BX2_empty_0 : KT HP :=
  oAld 0 (oConst (.long 0) (oPut 2 0 .long (oAld 0 (oConst (.long 0) (oPut 2 1 .long (oAld 0 (oConst (.int 0) (oPut 2 2 .int (oVretH)))))))))
set_option maxRecDepth 20000 in
theorem sBX2_empty_0 : Snd XX2_empty fVH 0 (BX2_empty_0) (0) (0) := by
  unfold BX2_empty_0
  refine s_Aldn 0 rfl 1 dX2_empty_0 rfl ?_
  refine s_lconst 2 0 (by decide) dX2_empty_1 rfl ?_
  refine s_put 2 0 5 clX2 (by decide) rfl rfl pVH tw_190 dX2_empty_2 rfl ?_
  refine s_Aldn 0 rfl 6 dX2_empty_5 rfl ?_
  refine s_lconst 7 0 (by decide) dX2_empty_6 rfl ?_
  refine s_put 2 1 10 clX2 (by decide) rfl rfl pVH tw_192 dX2_empty_7 rfl ?_
  refine s_Aldn 0 rfl 11 dX2_empty_10 rfl ?_
  refine s_iconst 12 0 (by decide) dX2_empty_11 rfl ?_
  refine s_put 2 2 15 clX2 (by decide) rfl rfl pVH tw_194 dX2_empty_12 rfl ?_
  exact s_vretH rfl dX2_empty_15
def EX2_empty : List Value → HP → Option HP := en 1 BX2_empty_0
theorem cmX2_empty : CM XX2_empty EX2_empty fVH 0 0 := CM.of rfl (by decide) rfl rfl sBX2_empty_0
theorem yoX2_empty : YO XX2_empty 0 0 0 := ⟨tw_449, rfl, tw_9, (by decide +kernel), rfl, rfl⟩
abbrev XX2_tell : MX := (yX2_tell, cX2_tell, 3, none, Cond.code yX2_tell cX2_tell 3 none :: WS, { frames := 1, cells := 0, slots := 0, locals := 20 })
def BX2_tell_0 : KT HP :=
  oIld 2 (oConst (.int 109) (oCmpne (oIld 2 (oConst (.int 115) (oCmpne (oVretH) (oAld 0 (odup (oGet 2 1 (oIld 1 (oCal 1 none EX10_bit fL (olor (oPut 2 1 .long (oVretH))))))))))) (oAld 0 (odup (oGet 2 0 (oIld 1 (oCal 1 none EX10_bit fL (olor (oPut 2 0 .long (oVretH))))))))))
set_option maxRecDepth 20000 in
theorem sBX2_tell_0 : Snd XX2_tell fVH 0 (BX2_tell_0) (0) (0) := by
  unfold BX2_tell_0
  refine s_Ildn 2 rfl 1 dX2_tell_0 rfl ?_
  refine s_bipush 3 109 (by decide) dX2_tell_1 rfl ?_
  refine s_cmpne 22 6 dX2_tell_3 (by decide) rfl ?_ ?_
  · refine s_Ildn 2 rfl 23 dX2_tell_22 rfl ?_
    refine s_bipush 25 115 (by decide) dX2_tell_23 rfl ?_
    refine s_cmpne 41 28 dX2_tell_25 (by decide) rfl ?_ ?_
    · exact s_vretH rfl dX2_tell_41
    · refine s_Aldn 0 rfl 29 dX2_tell_28 rfl ?_
      refine s_dup 30 dX2_tell_29 rfl ?_
      refine s_get 2 1 33 clX2 (by decide) tw_192 dX2_tell_30 rfl ?_
      refine s_Ildn 1 rfl 34 dX2_tell_33 rfl ?_
      refine s_cal0 37 (run_SN (X := XX2_tell) yoX10_bit nw_75 tw_432 (by decide) dX2_tell_34) cmX10_bit (fun _ _ _ => rfl) rfl ?_
      refine s_lor 38 dX2_tell_37 rfl ?_
      refine s_put 2 1 41 clX2 (by decide) rfl rfl pVH tw_192 dX2_tell_38 rfl ?_
      exact s_vretH rfl dX2_tell_41
  · refine s_Aldn 0 rfl 7 dX2_tell_6 rfl ?_
    refine s_dup 8 dX2_tell_7 rfl ?_
    refine s_get 2 0 11 clX2 (by decide) tw_190 dX2_tell_8 rfl ?_
    refine s_Ildn 1 rfl 12 dX2_tell_11 rfl ?_
    refine s_cal0 15 (run_SN (X := XX2_tell) yoX10_bit nw_75 tw_432 (by decide) dX2_tell_12) cmX10_bit (fun _ _ _ => rfl) rfl ?_
    refine s_lor 16 dX2_tell_15 rfl ?_
    refine s_put 2 0 19 clX2 (by decide) rfl rfl pVH tw_190 dX2_tell_16 rfl ?_
    refine s_goto 41 dX2_tell_19 (by decide) ?_
    exact s_vretH rfl dX2_tell_41
def EX2_tell : List Value → HP → Option HP := en 3 BX2_tell_0
theorem cmX2_tell : CM XX2_tell EX2_tell fVH 0 0 := CM.of rfl (by decide) rfl rfl sBX2_tell_0
theorem yoX2_tell : YO XX2_tell 2 0 0 := ⟨tw_612, rfl, tw_9, (by decide +kernel), rfl, rfl⟩
abbrev XX2_cellsUnlike : MX := (yX2_cellsUnlike, cX2_cellsUnlike, 3, (Option.some .long), Cond.code yX2_cellsUnlike cX2_cellsUnlike 3 (Option.some .long) :: WS, { frames := 0, cells := 0, slots := 0, locals := 0 })
def BX2_cellsUnlike_0 : KT Int64 :=
  oAld 0 (oGet 2 0 (oLld 1 (oConst (.long (-1)) (olxor (oland (oAld 0 (oGet 2 1 (oLld 1 (oland (olor (oLretP)))))))))))
set_option maxRecDepth 20000 in
theorem sBX2_cellsUnlike_0 : Snd XX2_cellsUnlike fL 0 (BX2_cellsUnlike_0) (0) (0) := by
  unfold BX2_cellsUnlike_0
  refine s_Aldn 0 rfl 1 dX2_cellsUnlike_0 rfl ?_
  refine s_get 2 0 4 clX2 (by decide) tw_190 dX2_cellsUnlike_1 rfl ?_
  refine s_Lldn 1 rfl 5 dX2_cellsUnlike_4 rfl ?_
  refine s_ldc2 8 (-1) tw_963 dX2_cellsUnlike_5 rfl ?_
  refine s_lxor 9 dX2_cellsUnlike_8 rfl ?_
  refine s_land 10 dX2_cellsUnlike_9 rfl ?_
  refine s_Aldn 0 rfl 11 dX2_cellsUnlike_10 rfl ?_
  refine s_get 2 1 14 clX2 (by decide) tw_192 dX2_cellsUnlike_11 rfl ?_
  refine s_Lldn 1 rfl 15 dX2_cellsUnlike_14 rfl ?_
  refine s_land 16 dX2_cellsUnlike_15 rfl ?_
  refine s_lor 17 dX2_cellsUnlike_16 rfl ?_
  exact s_lretP rfl dX2_cellsUnlike_17
def EX2_cellsUnlike : List Value → HP → Option Int64 := en 3 BX2_cellsUnlike_0
theorem cmX2_cellsUnlike : CM XX2_cellsUnlike EX2_cellsUnlike fL 0 0 := CM.of rfl (by decide) rfl rfl sBX2_cellsUnlike_0
theorem yoX2_cellsUnlike : YO XX2_cellsUnlike 1 0 0 := ⟨tw_962, rfl, tw_9, (by decide +kernel), rfl, rfl⟩
abbrev XX9_init : MX := (yX9_init, cX9_init, 1, none, Cond.code yX9_init cX9_init 1 none :: WS, { frames := 1, cells := 0, slots := 0, locals := 20 })
def BX9_init_0 : KT HP :=
  oAld 0 (oPopA (oVretH))
set_option maxRecDepth 20000 in
theorem sBX9_init_0 : Snd XX9_init fVH 0 (BX9_init_0) (0) (0) := by
  unfold BX9_init_0
  refine s_Aldn 0 rfl 1 dX9_init_0 rfl ?_
  refine s_objI 4 tw_210 tw_31 tw_32 (by decide) (by decide) dX9_init_1 rfl ?_
  exact s_vretH rfl dX9_init_4
def EX9_init : List Value → HP → Option HP := en 1 BX9_init_0
theorem cmX9_init : CM XX9_init EX9_init fVH 0 0 := CM.of rfl (by decide) rfl rfl sBX9_init_0
theorem yoX9_init : YO XX9_init 0 0 0 := ⟨tw_209, rfl, tw_10, (by decide +kernel), rfl, rfl⟩
abbrev XX6_byteAt : MX := (yX6_byteAt, cX6_byteAt, 2, (Option.some .int), Cond.code yX6_byteAt cX6_byteAt 2 (Option.some .int) :: WS, { frames := 0, cells := 0, slots := 0, locals := 0 })
def BX6_byteAt_0 : KT Int32 :=
  oIld 1 (oIflt (oConst (.int 0) (oIretP)) (oIld 1 (oAld 0 (oGet 6 1 (oCmpge (oConst (.int 0) (oIretP)) (oAld 0 (oGet 6 0 (oIld 1 (oBa (oConst (.int 255) (oiand (oIretP))))))))))))
set_option maxRecDepth 20000 in
theorem sBX6_byteAt_0 : Snd XX6_byteAt fI 0 (BX6_byteAt_0) (0) (0) := by
  unfold BX6_byteAt_0
  refine s_Ildn 1 rfl 1 dX6_byteAt_0 rfl ?_
  refine s_iflt 25 4 dX6_byteAt_1 (by decide) rfl ?_ ?_
  · refine s_iconst 26 0 (by decide) dX6_byteAt_25 rfl ?_
    exact s_iretP rfl dX6_byteAt_26
  · refine s_Ildn 1 rfl 5 dX6_byteAt_4 rfl ?_
    refine s_Aldn 0 rfl 6 dX6_byteAt_5 rfl ?_
    refine s_get 6 1 9 clX6 (by decide) tw_40 dX6_byteAt_6 rfl ?_
    refine s_cmpge 25 12 dX6_byteAt_9 (by decide) rfl ?_ ?_
    · refine s_iconst 26 0 (by decide) dX6_byteAt_25 rfl ?_
      exact s_iretP rfl dX6_byteAt_26
    · refine s_Aldn 0 rfl 13 dX6_byteAt_12 rfl ?_
      refine s_get 6 0 16 clX6 (by decide) tw_39 dX6_byteAt_13 rfl ?_
      refine s_Ildn 1 rfl 17 dX6_byteAt_16 rfl ?_
      refine s_Ba 18 dX6_byteAt_17 rfl ?_
      refine s_sipush 21 255 (by decide) dX6_byteAt_18 rfl ?_
      refine s_iand 22 dX6_byteAt_21 rfl ?_
      refine s_goto 26 dX6_byteAt_22 (by decide) ?_
      exact s_iretP rfl dX6_byteAt_26
def EX6_byteAt : List Value → HP → Option Int32 := en 2 BX6_byteAt_0
theorem cmX6_byteAt : CM XX6_byteAt EX6_byteAt fI 0 0 := CM.of rfl (by decide) rfl rfl sBX6_byteAt_0
theorem yoX6_byteAt : YO XX6_byteAt 1 0 0 := ⟨tw_461, rfl, tw_2, (by decide +kernel), rfl, rfl⟩
abbrev XX6_init : MX := (yX6_init, cX6_init, 1, none, Cond.code yX6_init cX6_init 1 none :: WS, { frames := 1, cells := 1, slots := 900, locals := 20 })
def BX6_init_0 : KT HP :=
  oAld 0 (oPopA (oAld 0 (oConst (.int 900) (oNar 0 zI 900 (oPut 6 0 (.array .byte) (oVretH))))))
set_option maxRecDepth 20000 in
theorem sBX6_init_0 : Snd XX6_init fVH 0 (BX6_init_0) (1) (900) := by
  unfold BX6_init_0
  refine s_Aldn 0 rfl 1 dX6_init_0 rfl ?_
  refine s_objI 4 tw_38 tw_31 tw_32 (by decide) (by decide) dX6_init_1 rfl ?_
  refine s_Aldn 0 rfl 5 dX6_init_4 rfl ?_
  refine s_sipush 8 900 (by decide) dX6_init_5 rfl ?_
  refine s_narB (mc := 0) (ms := 0) 900 10 (by decide) pVH tw_46 dX6_init_8 rfl ?_
  refine s_putF 6 0 13 clX6 (by decide) rfl rfl rfl rfl pVH tw_39 dX6_init_10 rfl ?_
  exact s_vretH rfl dX6_init_13
def EX6_init : List Value → HP → Option HP := en 1 BX6_init_0
theorem cmX6_init : CM XX6_init EX6_init fVH 1 900 := CM.of rfl (by decide) rfl rfl sBX6_init_0
theorem yoX6_init : YO XX6_init 0 1 900 := ⟨tw_37, rfl, tw_2, (by decide +kernel), rfl, rfl⟩
abbrev XX6_length : MX := (yX6_length, cX6_length, 1, (Option.some .int), Cond.code yX6_length cX6_length 1 (Option.some .int) :: WS, { frames := 0, cells := 0, slots := 0, locals := 0 })
def BX6_length_0 : KT Int32 :=
  oAld 0 (oGet 6 1 (oIretP))
set_option maxRecDepth 20000 in
theorem sBX6_length_0 : Snd XX6_length fI 0 (BX6_length_0) (0) (0) := by
  unfold BX6_length_0
  refine s_Aldn 0 rfl 1 dX6_length_0 rfl ?_
  refine s_get 6 1 4 clX6 (by decide) tw_40 dX6_length_1 rfl ?_
  exact s_iretP rfl dX6_length_4
def EX6_length : List Value → HP → Option Int32 := en 1 BX6_length_0
theorem cmX6_length : CM XX6_length EX6_length fI 0 0 := CM.of rfl (by decide) rfl rfl sBX6_length_0
theorem yoX6_length : YO XX6_length 0 0 0 := ⟨tw_410, rfl, tw_2, (by decide +kernel), rfl, rfl⟩
abbrev XX6_hasRoom : MX := (yX6_hasRoom, cX6_hasRoom, 2, (Option.some .boolean), Cond.code yX6_hasRoom cX6_hasRoom 2 (Option.some .boolean) :: WS, { frames := 0, cells := 0, slots := 0, locals := 0 })
def BX6_hasRoom_0 : KT Bool :=
  oAld 0 (oGet 6 1 (oIld 1 (oiadd (oAld 0 (oGet 6 0 (oLen (oCmpgt (oConst (.int 0) (oZretP)) (oConst (.int 1) (oZretP)))))))))
set_option maxRecDepth 20000 in
theorem sBX6_hasRoom_0 : Snd XX6_hasRoom fZ 0 (BX6_hasRoom_0) (0) (0) := by
  unfold BX6_hasRoom_0
  refine s_Aldn 0 rfl 1 dX6_hasRoom_0 rfl ?_
  refine s_get 6 1 4 clX6 (by decide) tw_40 dX6_hasRoom_1 rfl ?_
  refine s_Ildn 1 rfl 5 dX6_hasRoom_4 rfl ?_
  refine s_iadd 6 dX6_hasRoom_5 rfl ?_
  refine s_Aldn 0 rfl 7 dX6_hasRoom_6 rfl ?_
  refine s_get 6 0 10 clX6 (by decide) tw_39 dX6_hasRoom_7 rfl ?_
  refine s_len 11 dX6_hasRoom_10 rfl ?_
  refine s_cmpgt 18 14 dX6_hasRoom_11 (by decide) rfl ?_ ?_
  · refine s_iconst 19 0 (by decide) dX6_hasRoom_18 rfl ?_
    exact s_zretP rfl dX6_hasRoom_19
  · refine s_iconst 15 1 (by decide) dX6_hasRoom_14 rfl ?_
    refine s_goto 19 dX6_hasRoom_15 (by decide) ?_
    exact s_zretP rfl dX6_hasRoom_19
def EX6_hasRoom : List Value → HP → Option Bool := en 2 BX6_hasRoom_0
theorem cmX6_hasRoom : CM XX6_hasRoom EX6_hasRoom fZ 0 0 := CM.of rfl (by decide) rfl rfl sBX6_hasRoom_0
theorem yoX6_hasRoom : YO XX6_hasRoom 1 0 0 := ⟨tw_402, rfl, tw_2, (by decide +kernel), rfl, rfl⟩
abbrev XX6_clear : MX := (yX6_clear, cX6_clear, 1, none, Cond.code yX6_clear cX6_clear 1 none :: WS, { frames := 0, cells := 0, slots := 0, locals := 0 })
def BX6_clear_0 : KT HP :=
  oAld 0 (oConst (.int 0) (oPut 6 1 .int (oVretH)))
set_option maxRecDepth 20000 in
theorem sBX6_clear_0 : Snd XX6_clear fVH 0 (BX6_clear_0) (0) (0) := by
  unfold BX6_clear_0
  refine s_Aldn 0 rfl 1 dX6_clear_0 rfl ?_
  refine s_iconst 2 0 (by decide) dX6_clear_1 rfl ?_
  refine s_put 6 1 5 clX6 (by decide) rfl rfl pVH tw_40 dX6_clear_2 rfl ?_
  exact s_vretH rfl dX6_clear_5
def EX6_clear : List Value → HP → Option HP := en 1 BX6_clear_0
theorem cmX6_clear : CM XX6_clear EX6_clear fVH 0 0 := CM.of rfl (by decide) rfl rfl sBX6_clear_0
theorem yoX6_clear : YO XX6_clear 0 0 0 := ⟨tw_683, rfl, tw_2, (by decide +kernel), rfl, rfl⟩
abbrev XX6_put : MX := (yX6_put, cX6_put, 3, none, Cond.code yX6_put cX6_put 3 none :: WS, { frames := 0, cells := 0, slots := 0, locals := 0 })
def BX6_put_3 (k3 : KT HP) : KT HP :=
  oIld 2 (oIflt (oVretH) (oAld 0 (oGet 6 1 (oAld 0 (oGet 6 0 (oLen (oCmpge (oVretH) (oAld 0 (oGet 6 0 (oAld 0 (oGet 6 1 (oIld 1 (oIld 2 (oiushr (oi2b (oBw (oAld 0 (odup (oGet 6 1 (oConst (.int 1) (oiadd (oPut 6 1 .int (oInc 2 (-8) (oPick [0, 1, 2] k3))))))))))))))))))))))))
set_option maxRecDepth 20000 in
theorem sBX6_put_3 {k3 : KT HP} (hk3 : Snd XX6_put fVH 3 k3 0 0) : Snd XX6_put fVH 3 (BX6_put_3 k3) (0) (0) := by
  unfold BX6_put_3
  refine s_Ildn 2 rfl 4 dX6_put_3 rfl ?_
  refine s_iflt 48 7 dX6_put_4 (by decide) rfl ?_ ?_
  · exact s_vretH rfl dX6_put_48
  · refine s_Aldn 0 rfl 8 dX6_put_7 rfl ?_
    refine s_get 6 1 11 clX6 (by decide) tw_40 dX6_put_8 rfl ?_
    refine s_Aldn 0 rfl 12 dX6_put_11 rfl ?_
    refine s_get 6 0 15 clX6 (by decide) tw_39 dX6_put_12 rfl ?_
    refine s_len 16 dX6_put_15 rfl ?_
    refine s_cmpge 48 19 dX6_put_16 (by decide) rfl ?_ ?_
    · exact s_vretH rfl dX6_put_48
    · refine s_Aldn 0 rfl 20 dX6_put_19 rfl ?_
      refine s_get 6 0 23 clX6 (by decide) tw_39 dX6_put_20 rfl ?_
      refine s_Aldn 0 rfl 24 dX6_put_23 rfl ?_
      refine s_get 6 1 27 clX6 (by decide) tw_40 dX6_put_24 rfl ?_
      refine s_Ildn 1 rfl 28 dX6_put_27 rfl ?_
      refine s_Ildn 2 rfl 29 dX6_put_28 rfl ?_
      refine s_iushr 30 dX6_put_29 rfl ?_
      refine s_i2b 31 dX6_put_30 rfl ?_
      refine s_Bw 32 pVH dX6_put_31 rfl ?_
      refine s_Aldn 0 rfl 33 dX6_put_32 rfl ?_
      refine s_dup 34 dX6_put_33 rfl ?_
      refine s_get 6 1 37 clX6 (by decide) tw_40 dX6_put_34 rfl ?_
      refine s_iconst 38 1 (by decide) dX6_put_37 rfl ?_
      refine s_iadd 39 dX6_put_38 rfl ?_
      refine s_put 6 1 42 clX6 (by decide) rfl rfl pVH tw_40 dX6_put_39 rfl ?_
      refine s_inc 2 (-8) 45 (by decide) (by decide) dX6_put_42 rfl ?_
      refine s_goto 3 dX6_put_45 (by decide) ?_
      exact s_pick hk3
def BX6_put_0 : KT HP :=
  oConst (.int 24) (oIst 2 (oPick [0, 1, 2] (lp (BX6_put_3) FU)))
set_option maxRecDepth 20000 in
theorem sBX6_put_0 : Snd XX6_put fVH 0 (BX6_put_0) (0) (0) := by
  unfold BX6_put_0
  refine s_bipush 2 24 (by decide) dX6_put_0 rfl ?_
  refine s_Istn 2 rfl 3 (by decide) dX6_put_2 rfl ?_
  exact s_pick (s_lp (fun k hk => sBX6_put_3  hk) FU)
def EX6_put : List Value → HP → Option HP := en 3 BX6_put_0
theorem cmX6_put : CM XX6_put EX6_put fVH 0 0 := CM.of rfl (by decide) rfl rfl sBX6_put_0
theorem yoX6_put : YO XX6_put 1 0 0 := ⟨tw_406, rfl, tw_2, (by decide +kernel), rfl, rfl⟩
end
