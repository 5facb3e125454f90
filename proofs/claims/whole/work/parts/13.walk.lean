noncomputable section
abbrev XX5_init : MX := (yX5_init, cX5_init, 1, none, Cond.code yX5_init cX5_init 1 none :: WS, { frames := 1, cells := 3, slots := 8204, locals := 20 })
def BX5_init_0 : KT HP :=
  oAld 0 (oPopA (oAld 0 (oConst (.int 12) (oNar 1 zI 12 (oPut 5 0 (.array .int) (oAld 0 (oConst (.int 4096) (oNar 1 zI 4096 (oPut 5 1 (.array .int) (oAld 0 (oConst (.int 4096) (oNar 1 zI 4096 (oPut 5 2 (.array .int) (oVretH))))))))))))))
set_option maxRecDepth 20000 in
theorem sBX5_init_0 : Snd XX5_init fVH 0 (BX5_init_0) (3) (8204) := by
  unfold BX5_init_0
  refine s_Aldn 0 rfl 1 dX5_init_0 rfl ?_
  refine s_objI 4 tw_132 tw_31 tw_32 (by decide) (by decide) dX5_init_1 rfl ?_
  refine s_Aldn 0 rfl 5 dX5_init_4 rfl ?_
  refine s_bipush 7 12 (by decide) dX5_init_5 rfl ?_
  refine s_narI (mc := 2) (ms := 8192) 12 9 (by decide) pVH tw_126 dX5_init_7 rfl ?_
  refine s_putF 5 0 12 clX5 (by decide) rfl rfl rfl rfl pVH tw_133 dX5_init_9 rfl ?_
  refine s_Aldn 0 rfl 13 dX5_init_12 rfl ?_
  refine s_sipush 16 4096 (by decide) dX5_init_13 rfl ?_
  refine s_narI (mc := 1) (ms := 4096) 4096 18 (by decide) pVH tw_126 dX5_init_16 rfl ?_
  refine s_putF 5 1 21 clX5 (by decide) rfl rfl rfl rfl pVH tw_134 dX5_init_18 rfl ?_
  refine s_Aldn 0 rfl 22 dX5_init_21 rfl ?_
  refine s_sipush 25 4096 (by decide) dX5_init_22 rfl ?_
  refine s_narI (mc := 0) (ms := 0) 4096 27 (by decide) pVH tw_126 dX5_init_25 rfl ?_
  refine s_putF 5 2 30 clX5 (by decide) rfl rfl rfl rfl pVH tw_135 dX5_init_27 rfl ?_
  exact s_vretH rfl dX5_init_30
def EX5_init : List Value → HP → Option HP := en 1 BX5_init_0
theorem cmX5_init : CM XX5_init EX5_init fVH 3 8204 := CM.of rfl (by decide) rfl rfl sBX5_init_0
theorem yoX5_init : YO XX5_init 0 3 8204 := ⟨tw_131, rfl, tw_6, (by decide +kernel), rfl, rfl⟩
abbrev XX5_findBesides : MX := (yX5_findBesides, cX5_findBesides, 9, none, Cond.code yX5_findBesides cX5_findBesides 9 none :: WS, { frames := 2, cells := 0, slots := 0, locals := 46 })
def BX5_findBesides_61 (k3 : KT HP) (k46 : KT HP) : KT HP :=
  oCal 2 none EX10_isIn fZ (oIfeq (oInc 8 1 (oPick [0, 1, 2, 4, 5, 6, 8] k46)) (oAld 0 (oGet 5 0 (oIld 5 (odup2 (oIa (oConst (.int 1) (oIld 8 (oishl (oior (oIw (oInc 8 1 (oPick [0, 1, 2, 4, 5, 6, 8] k46)))))))))))))
set_option maxRecDepth 20000 in
theorem sBX5_findBesides_61 {k3 : KT HP} (hk3 : Snd XX5_findBesides fVH 3 k3 0 0) {k46 : KT HP} (hk46 : Snd XX5_findBesides fVH 46 k46 0 0) : Snd XX5_findBesides fVH 61 (BX5_findBesides_61 k3 k46) (0) (0) := by
  unfold BX5_findBesides_61
  refine s_cal0 64 (run_SN (X := XX5_findBesides) yoX10_isIn nw_84 tw_631 (by decide) dX5_findBesides_61) cmX10_isIn (fun _ _ _ => rfl) rfl ?_
  refine s_ifeq 81 67 dX5_findBesides_64 (by decide) rfl ?_ ?_
  · refine s_inc 8 1 84 (by decide) (by decide) dX5_findBesides_81 rfl ?_
    refine s_goto 46 dX5_findBesides_84 (by decide) ?_
    exact s_pick hk46
  · refine s_Aldn 0 rfl 68 dX5_findBesides_67 rfl ?_
    refine s_get 5 0 71 clX5 (by decide) tw_133 dX5_findBesides_68 rfl ?_
    refine s_Ild 5 73 dX5_findBesides_71 rfl ?_
    refine s_dup2 74 dX5_findBesides_73 rfl ?_
    refine s_Ia 75 dX5_findBesides_74 rfl ?_
    refine s_iconst 76 1 (by decide) dX5_findBesides_75 rfl ?_
    refine s_Ild 8 78 dX5_findBesides_76 rfl ?_
    refine s_ishl 79 dX5_findBesides_78 rfl ?_
    refine s_ior 80 dX5_findBesides_79 rfl ?_
    refine s_Iw 81 pVH dX5_findBesides_80 rfl ?_
    refine s_inc 8 1 84 (by decide) (by decide) dX5_findBesides_81 rfl ?_
    refine s_goto 46 dX5_findBesides_84 (by decide) ?_
    exact s_pick hk46
def BX5_findBesides_58 (k3 : KT HP) (k46 : KT HP) : KT HP :=
  oCal 2 none EX10_nthCell fI (oPick [0, 1, 2, 4, 5, 6, 8] (BX5_findBesides_61 k3 k46))
set_option maxRecDepth 20000 in
theorem sBX5_findBesides_58 {k3 : KT HP} (hk3 : Snd XX5_findBesides fVH 3 k3 0 0) {k46 : KT HP} (hk46 : Snd XX5_findBesides fVH 46 k46 0 0) : Snd XX5_findBesides fVH 58 (BX5_findBesides_58 k3 k46) (0) (0) := by
  unfold BX5_findBesides_58
  refine s_cal0 61 (run_SN (X := XX5_findBesides) yoX10_nthCell nw_82 tw_969 (by decide) dX5_findBesides_58) cmX10_nthCell (fun _ _ _ => rfl) rfl ?_
  exact s_pick (sBX5_findBesides_61 hk3 hk46)
def BX5_findBesides_46 (k3 : KT HP) (k46 : KT HP) : KT HP :=
  oIld 8 (oIld 4 (oCmpge (oInc 5 1 (oPick [0, 1, 2, 4, 5] k3)) (oLld 6 (oLld 2 (oIld 8 (oPick [0, 1, 2, 4, 5, 6, 8] (BX5_findBesides_58 k3 k46)))))))
set_option maxRecDepth 20000 in
theorem sBX5_findBesides_46 {k3 : KT HP} (hk3 : Snd XX5_findBesides fVH 3 k3 0 0) {k46 : KT HP} (hk46 : Snd XX5_findBesides fVH 46 k46 0 0) : Snd XX5_findBesides fVH 46 (BX5_findBesides_46 k3 k46) (0) (0) := by
  unfold BX5_findBesides_46
  refine s_Ild 8 48 dX5_findBesides_46 rfl ?_
  refine s_Ild 4 50 dX5_findBesides_48 rfl ?_
  refine s_cmpge 87 53 dX5_findBesides_50 (by decide) rfl ?_ ?_
  · refine s_inc 5 1 90 (by decide) (by decide) dX5_findBesides_87 rfl ?_
    refine s_goto 3 dX5_findBesides_90 (by decide) ?_
    exact s_pick hk3
  · refine s_Lld 6 55 dX5_findBesides_53 rfl ?_
    refine s_Lldn 2 rfl 56 dX5_findBesides_55 rfl ?_
    refine s_Ild 8 58 dX5_findBesides_56 rfl ?_
    exact s_pick (sBX5_findBesides_58 hk3 hk46)
def BX5_findBesides_24 (k3 : KT HP) : KT HP :=
  oCal 2 none EX10_nthCell fI (oCal 1 none EX10_bit fL (oCal 2 (some 0) EX0_besideAll fL (oLst 6 (oAld 0 (oGet 5 0 (oIld 5 (oConst (.int 0) (oIw (oConst (.int 0) (oIst 8 (oPick [0, 1, 2, 4, 5, 6, 8] (lp (BX5_findBesides_46 k3) FU))))))))))))
set_option maxRecDepth 20000 in
theorem sBX5_findBesides_24 {k3 : KT HP} (hk3 : Snd XX5_findBesides fVH 3 k3 0 0) : Snd XX5_findBesides fVH 24 (BX5_findBesides_24 k3) (0) (0) := by
  unfold BX5_findBesides_24
  refine s_cal0 27 (run_SN (X := XX5_findBesides) yoX10_nthCell nw_82 tw_969 (by decide) dX5_findBesides_24) cmX10_nthCell (fun _ _ _ => rfl) rfl ?_
  refine s_cal0 30 (run_SN (X := XX5_findBesides) yoX10_bit nw_83 tw_432 (by decide) dX5_findBesides_27) cmX10_bit (fun _ _ _ => rfl) rfl ?_
  refine s_cal0 33 (run_V (X := XX5_findBesides) rfl clX0 yoX0_besideAll rfl tw_1008 tw_738 tw_739 (by decide) dX5_findBesides_30) cmX0_besideAll (fun _ _ _ => rfl) rfl ?_
  refine s_Lst 6 35 (by decide) dX5_findBesides_33 rfl ?_
  refine s_Aldn 0 rfl 36 dX5_findBesides_35 rfl ?_
  refine s_get 5 0 39 clX5 (by decide) tw_133 dX5_findBesides_36 rfl ?_
  refine s_Ild 5 41 dX5_findBesides_39 rfl ?_
  refine s_iconst 42 0 (by decide) dX5_findBesides_41 rfl ?_
  refine s_Iw 43 pVH dX5_findBesides_42 rfl ?_
  refine s_iconst 44 0 (by decide) dX5_findBesides_43 rfl ?_
  refine s_Ist 8 46 (by decide) dX5_findBesides_44 rfl ?_
  exact s_pick (s_lp (fun k hk => sBX5_findBesides_46 hk3 hk) FU)
def BX5_findBesides_3 (k3 : KT HP) : KT HP :=
  oIld 5 (oIld 4 (oCmpge (oVretH) (oIld 5 (oAld 0 (oGet 5 0 (oLen (oCmpge (oVretH) (oAld 1 (oLld 2 (oIld 5 (oPick [0, 1, 2, 4, 5] (BX5_findBesides_24 k3))))))))))))
set_option maxRecDepth 20000 in
theorem sBX5_findBesides_3 {k3 : KT HP} (hk3 : Snd XX5_findBesides fVH 3 k3 0 0) : Snd XX5_findBesides fVH 3 (BX5_findBesides_3 k3) (0) (0) := by
  unfold BX5_findBesides_3
  refine s_Ild 5 5 dX5_findBesides_3 rfl ?_
  refine s_Ild 4 7 dX5_findBesides_5 rfl ?_
  refine s_cmpge 93 10 dX5_findBesides_7 (by decide) rfl ?_ ?_
  · exact s_vretH rfl dX5_findBesides_93
  · refine s_Ild 5 12 dX5_findBesides_10 rfl ?_
    refine s_Aldn 0 rfl 13 dX5_findBesides_12 rfl ?_
    refine s_get 5 0 16 clX5 (by decide) tw_133 dX5_findBesides_13 rfl ?_
    refine s_len 17 dX5_findBesides_16 rfl ?_
    refine s_cmpge 93 20 dX5_findBesides_17 (by decide) rfl ?_ ?_
    · exact s_vretH rfl dX5_findBesides_93
    · refine s_Aldn 1 rfl 21 dX5_findBesides_20 rfl ?_
      refine s_Lldn 2 rfl 22 dX5_findBesides_21 rfl ?_
      refine s_Ild 5 24 dX5_findBesides_22 rfl ?_
      exact s_pick (sBX5_findBesides_24 hk3)
def BX5_findBesides_0 : KT HP :=
  oConst (.int 0) (oIst 5 (oPick [0, 1, 2, 4, 5] (lp (BX5_findBesides_3) FU)))
set_option maxRecDepth 20000 in
theorem sBX5_findBesides_0 : Snd XX5_findBesides fVH 0 (BX5_findBesides_0) (0) (0) := by
  unfold BX5_findBesides_0
  refine s_iconst 1 0 (by decide) dX5_findBesides_0 rfl ?_
  refine s_Ist 5 3 (by decide) dX5_findBesides_1 rfl ?_
  exact s_pick (s_lp (fun k hk => sBX5_findBesides_3  hk) FU)
def EX5_findBesides : List Value → HP → Option HP := en 9 BX5_findBesides_0
theorem cmX5_findBesides : CM XX5_findBesides EX5_findBesides fVH 0 0 := CM.of rfl (by decide) rfl rfl sBX5_findBesides_0
theorem yoX5_findBesides : YO XX5_findBesides 3 0 0 := ⟨tw_1005, rfl, tw_6, (by decide +kernel), rfl, rfl⟩
abbrev XX5_mowOneMore : MX := (yX5_mowOneMore, cX5_mowOneMore, 6, none, Cond.code yX5_mowOneMore cX5_mowOneMore 6 none :: WS, { frames := 0, cells := 0, slots := 0, locals := 0 })
def BX5_mowOneMore_136 (k25 : KT HP) : KT HP :=
  oIld 5 (oAld 0 (oGet 5 1 (oIld 4 (oIa (oCmpne (oInc 3 1 (oPick [0, 1, 2, 3] k25)) (oAld 0 (oGet 5 2 (oIld 4 (odup2 (oIa (oConst (.int 1) (oIld 3 (oishl (oior (oIw (oInc 3 1 (oPick [0, 1, 2, 3] k25)))))))))))))))))
set_option maxRecDepth 20000 in
theorem sBX5_mowOneMore_136 {k25 : KT HP} (hk25 : Snd XX5_mowOneMore fVH 25 k25 0 0) : Snd XX5_mowOneMore fVH 136 (BX5_mowOneMore_136 k25) (0) (0) := by
  unfold BX5_mowOneMore_136
  refine s_Ild 5 138 dX5_mowOneMore_136 rfl ?_
  refine s_Aldn 0 rfl 139 dX5_mowOneMore_138 rfl ?_
  refine s_get 5 1 142 clX5 (by decide) tw_134 dX5_mowOneMore_139 rfl ?_
  refine s_Ild 4 144 dX5_mowOneMore_142 rfl ?_
  refine s_Ia 145 dX5_mowOneMore_144 rfl ?_
  refine s_cmpne 161 148 dX5_mowOneMore_145 (by decide) rfl ?_ ?_
  · refine s_inc 3 1 164 (by decide) (by decide) dX5_mowOneMore_161 rfl ?_
    refine s_goto 25 dX5_mowOneMore_164 (by decide) ?_
    exact s_pick hk25
  · refine s_Aldn 0 rfl 149 dX5_mowOneMore_148 rfl ?_
    refine s_get 5 2 152 clX5 (by decide) tw_135 dX5_mowOneMore_149 rfl ?_
    refine s_Ild 4 154 dX5_mowOneMore_152 rfl ?_
    refine s_dup2 155 dX5_mowOneMore_154 rfl ?_
    refine s_Ia 156 dX5_mowOneMore_155 rfl ?_
    refine s_iconst 157 1 (by decide) dX5_mowOneMore_156 rfl ?_
    refine s_Ildn 3 rfl 158 dX5_mowOneMore_157 rfl ?_
    refine s_ishl 159 dX5_mowOneMore_158 rfl ?_
    refine s_ior 160 dX5_mowOneMore_159 rfl ?_
    refine s_Iw 161 pVH dX5_mowOneMore_160 rfl ?_
    refine s_inc 3 1 164 (by decide) (by decide) dX5_mowOneMore_161 rfl ?_
    refine s_goto 25 dX5_mowOneMore_164 (by decide) ?_
    exact s_pick hk25
def BX5_mowOneMore_105 (k25 : KT HP) : KT HP :=
  oIst 5 (oIld 5 (oAld 0 (oGet 5 1 (oIld 4 (oIa (oCmpge (oPick [0, 1, 2, 3, 4, 5] (BX5_mowOneMore_136 k25)) (oAld 0 (oGet 5 1 (oIld 4 (oIld 5 (oIw (oAld 0 (oGet 5 2 (oIld 4 (oConst (.int 0) (oIw (oPick [0, 1, 2, 3, 4, 5] (BX5_mowOneMore_136 k25))))))))))))))))))
set_option maxRecDepth 20000 in
theorem sBX5_mowOneMore_105 {k25 : KT HP} (hk25 : Snd XX5_mowOneMore fVH 25 k25 0 0) : Snd XX5_mowOneMore fVH 105 (BX5_mowOneMore_105 k25) (0) (0) := by
  unfold BX5_mowOneMore_105
  refine s_Ist 5 107 (by decide) dX5_mowOneMore_105 rfl ?_
  refine s_Ild 5 109 dX5_mowOneMore_107 rfl ?_
  refine s_Aldn 0 rfl 110 dX5_mowOneMore_109 rfl ?_
  refine s_get 5 1 113 clX5 (by decide) tw_134 dX5_mowOneMore_110 rfl ?_
  refine s_Ild 4 115 dX5_mowOneMore_113 rfl ?_
  refine s_Ia 116 dX5_mowOneMore_115 rfl ?_
  refine s_cmpge 136 119 dX5_mowOneMore_116 (by decide) rfl ?_ ?_
  · exact s_pick (sBX5_mowOneMore_136 hk25)
  · refine s_Aldn 0 rfl 120 dX5_mowOneMore_119 rfl ?_
    refine s_get 5 1 123 clX5 (by decide) tw_134 dX5_mowOneMore_120 rfl ?_
    refine s_Ild 4 125 dX5_mowOneMore_123 rfl ?_
    refine s_Ild 5 127 dX5_mowOneMore_125 rfl ?_
    refine s_Iw 128 pVH dX5_mowOneMore_127 rfl ?_
    refine s_Aldn 0 rfl 129 dX5_mowOneMore_128 rfl ?_
    refine s_get 5 2 132 clX5 (by decide) tw_135 dX5_mowOneMore_129 rfl ?_
    refine s_Ild 4 134 dX5_mowOneMore_132 rfl ?_
    refine s_iconst 135 0 (by decide) dX5_mowOneMore_134 rfl ?_
    refine s_Iw 136 pVH dX5_mowOneMore_135 rfl ?_
    exact s_pick (sBX5_mowOneMore_136 hk25)
def BX5_mowOneMore_25 (k25 : KT HP) : KT HP :=
  oIld 3 (oIld 2 (oCmpge (oVretH) (oIld 3 (oAld 0 (oGet 5 0 (oLen (oCmpge (oVretH) (oIld 1 (oConst (.int 1) (oIld 3 (oishl (oior (oIst 4 (oIld 4 (oIld 1 (oCmpeq (oInc 3 1 (oPick [0, 1, 2, 3] k25)) (oIld 4 (oAld 0 (oGet 5 1 (oLen (oCmpge (oInc 3 1 (oPick [0, 1, 2, 3] k25)) (oIld 4 (oAld 0 (oGet 5 2 (oLen (oCmpge (oInc 3 1 (oPick [0, 1, 2, 3] k25)) (oAld 0 (oGet 5 0 (oIld 3 (oIa (oAld 0 (oGet 5 2 (oIld 1 (oIa (oiand (oIfeq (oAld 0 (oGet 5 1 (oIld 1 (oIa (oConst (.int 1) (oiadd (oPick [0, 1, 2, 3, 4] (BX5_mowOneMore_105 k25)))))))) (oAld 0 (oGet 5 1 (oIld 1 (oIa (oPick [0, 1, 2, 3, 4] (BX5_mowOneMore_105 k25))))))))))))))))))))))))))))))))))))))))))
set_option maxRecDepth 20000 in
theorem sBX5_mowOneMore_25 {k25 : KT HP} (hk25 : Snd XX5_mowOneMore fVH 25 k25 0 0) : Snd XX5_mowOneMore fVH 25 (BX5_mowOneMore_25 k25) (0) (0) := by
  unfold BX5_mowOneMore_25
  refine s_Ildn 3 rfl 26 dX5_mowOneMore_25 rfl ?_
  refine s_Ildn 2 rfl 27 dX5_mowOneMore_26 rfl ?_
  refine s_cmpge 167 30 dX5_mowOneMore_27 (by decide) rfl ?_ ?_
  · exact s_vretH rfl dX5_mowOneMore_167
  · refine s_Ildn 3 rfl 31 dX5_mowOneMore_30 rfl ?_
    refine s_Aldn 0 rfl 32 dX5_mowOneMore_31 rfl ?_
    refine s_get 5 0 35 clX5 (by decide) tw_133 dX5_mowOneMore_32 rfl ?_
    refine s_len 36 dX5_mowOneMore_35 rfl ?_
    refine s_cmpge 167 39 dX5_mowOneMore_36 (by decide) rfl ?_ ?_
    · exact s_vretH rfl dX5_mowOneMore_167
    · refine s_Ildn 1 rfl 40 dX5_mowOneMore_39 rfl ?_
      refine s_iconst 41 1 (by decide) dX5_mowOneMore_40 rfl ?_
      refine s_Ildn 3 rfl 42 dX5_mowOneMore_41 rfl ?_
      refine s_ishl 43 dX5_mowOneMore_42 rfl ?_
      refine s_ior 44 dX5_mowOneMore_43 rfl ?_
      refine s_Ist 4 46 (by decide) dX5_mowOneMore_44 rfl ?_
      refine s_Ild 4 48 dX5_mowOneMore_46 rfl ?_
      refine s_Ildn 1 rfl 49 dX5_mowOneMore_48 rfl ?_
      refine s_cmpeq 161 52 dX5_mowOneMore_49 (by decide) rfl ?_ ?_
      · refine s_inc 3 1 164 (by decide) (by decide) dX5_mowOneMore_161 rfl ?_
        refine s_goto 25 dX5_mowOneMore_164 (by decide) ?_
        exact s_pick hk25
      · refine s_Ild 4 54 dX5_mowOneMore_52 rfl ?_
        refine s_Aldn 0 rfl 55 dX5_mowOneMore_54 rfl ?_
        refine s_get 5 1 58 clX5 (by decide) tw_134 dX5_mowOneMore_55 rfl ?_
        refine s_len 59 dX5_mowOneMore_58 rfl ?_
        refine s_cmpge 161 62 dX5_mowOneMore_59 (by decide) rfl ?_ ?_
        · refine s_inc 3 1 164 (by decide) (by decide) dX5_mowOneMore_161 rfl ?_
          refine s_goto 25 dX5_mowOneMore_164 (by decide) ?_
          exact s_pick hk25
        · refine s_Ild 4 64 dX5_mowOneMore_62 rfl ?_
          refine s_Aldn 0 rfl 65 dX5_mowOneMore_64 rfl ?_
          refine s_get 5 2 68 clX5 (by decide) tw_135 dX5_mowOneMore_65 rfl ?_
          refine s_len 69 dX5_mowOneMore_68 rfl ?_
          refine s_cmpge 161 72 dX5_mowOneMore_69 (by decide) rfl ?_ ?_
          · refine s_inc 3 1 164 (by decide) (by decide) dX5_mowOneMore_161 rfl ?_
            refine s_goto 25 dX5_mowOneMore_164 (by decide) ?_
            exact s_pick hk25
          · refine s_Aldn 0 rfl 73 dX5_mowOneMore_72 rfl ?_
            refine s_get 5 0 76 clX5 (by decide) tw_133 dX5_mowOneMore_73 rfl ?_
            refine s_Ildn 3 rfl 77 dX5_mowOneMore_76 rfl ?_
            refine s_Ia 78 dX5_mowOneMore_77 rfl ?_
            refine s_Aldn 0 rfl 79 dX5_mowOneMore_78 rfl ?_
            refine s_get 5 2 82 clX5 (by decide) tw_135 dX5_mowOneMore_79 rfl ?_
            refine s_Ildn 1 rfl 83 dX5_mowOneMore_82 rfl ?_
            refine s_Ia 84 dX5_mowOneMore_83 rfl ?_
            refine s_iand 85 dX5_mowOneMore_84 rfl ?_
            refine s_ifeq 97 88 dX5_mowOneMore_85 (by decide) rfl ?_ ?_
            · refine s_Aldn 0 rfl 98 dX5_mowOneMore_97 rfl ?_
              refine s_get 5 1 101 clX5 (by decide) tw_134 dX5_mowOneMore_98 rfl ?_
              refine s_Ildn 1 rfl 102 dX5_mowOneMore_101 rfl ?_
              refine s_Ia 103 dX5_mowOneMore_102 rfl ?_
              refine s_iconst 104 1 (by decide) dX5_mowOneMore_103 rfl ?_
              refine s_iadd 105 dX5_mowOneMore_104 rfl ?_
              exact s_pick (sBX5_mowOneMore_105 hk25)
            · refine s_Aldn 0 rfl 89 dX5_mowOneMore_88 rfl ?_
              refine s_get 5 1 92 clX5 (by decide) tw_134 dX5_mowOneMore_89 rfl ?_
              refine s_Ildn 1 rfl 93 dX5_mowOneMore_92 rfl ?_
              refine s_Ia 94 dX5_mowOneMore_93 rfl ?_
              refine s_goto 105 dX5_mowOneMore_94 (by decide) ?_
              exact s_pick (sBX5_mowOneMore_105 hk25)
def BX5_mowOneMore_0 : KT HP :=
  oIld 1 (oIflt (oVretH) (oIld 1 (oAld 0 (oGet 5 1 (oLen (oCmpge (oVretH) (oIld 1 (oAld 0 (oGet 5 2 (oLen (oCmplt (oConst (.int 0) (oIst 3 (oPick [0, 1, 2, 3] (lp (BX5_mowOneMore_25) FU)))) (oVretH))))))))))))
set_option maxRecDepth 20000 in
theorem sBX5_mowOneMore_0 : Snd XX5_mowOneMore fVH 0 (BX5_mowOneMore_0) (0) (0) := by
  unfold BX5_mowOneMore_0
  refine s_Ildn 1 rfl 1 dX5_mowOneMore_0 rfl ?_
  refine s_iflt 22 4 dX5_mowOneMore_1 (by decide) rfl ?_ ?_
  · exact s_vretH rfl dX5_mowOneMore_22
  · refine s_Ildn 1 rfl 5 dX5_mowOneMore_4 rfl ?_
    refine s_Aldn 0 rfl 6 dX5_mowOneMore_5 rfl ?_
    refine s_get 5 1 9 clX5 (by decide) tw_134 dX5_mowOneMore_6 rfl ?_
    refine s_len 10 dX5_mowOneMore_9 rfl ?_
    refine s_cmpge 22 13 dX5_mowOneMore_10 (by decide) rfl ?_ ?_
    · exact s_vretH rfl dX5_mowOneMore_22
    · refine s_Ildn 1 rfl 14 dX5_mowOneMore_13 rfl ?_
      refine s_Aldn 0 rfl 15 dX5_mowOneMore_14 rfl ?_
      refine s_get 5 2 18 clX5 (by decide) tw_135 dX5_mowOneMore_15 rfl ?_
      refine s_len 19 dX5_mowOneMore_18 rfl ?_
      refine s_cmplt 23 22 dX5_mowOneMore_19 (by decide) rfl ?_ ?_
      · refine s_iconst 24 0 (by decide) dX5_mowOneMore_23 rfl ?_
        refine s_Istn 3 rfl 25 (by decide) dX5_mowOneMore_24 rfl ?_
        exact s_pick (s_lp (fun k hk => sBX5_mowOneMore_25  hk) FU)
      · exact s_vretH rfl dX5_mowOneMore_22
def EX5_mowOneMore : List Value → HP → Option HP := en 6 BX5_mowOneMore_0
theorem cmX5_mowOneMore : CM XX5_mowOneMore EX5_mowOneMore fVH 0 0 := CM.of rfl (by decide) rfl rfl sBX5_mowOneMore_0
theorem yoX5_mowOneMore : YO XX5_mowOneMore 2 0 0 := ⟨tw_1013, rfl, tw_6, (by decide +kernel), rfl, rfl⟩
abbrev XX5_fewestStrokes : MX := (yX5_fewestStrokes, cX5_fewestStrokes, 7, (Option.some .int), Cond.code yX5_fewestStrokes cX5_fewestStrokes 7 (Option.some .int) :: WS, { frames := 3, cells := 0, slots := 0, locals := 74 })
def BX5_fewestStrokes_102 (k90 : KT (Int32 × HP)) : KT (Int32 × HP) :=
  oCal 3 (some 5) EX5_mowOneMore fVH (oInc 6 1 (oPick [0, 4, 5, 6] k90))
set_option maxRecDepth 20000 in
theorem sBX5_fewestStrokes_102 {k90 : KT (Int32 × HP)} (hk90 : Snd XX5_fewestStrokes fIH 90 k90 0 0) : Snd XX5_fewestStrokes fIH 102 (BX5_fewestStrokes_102 k90) (0) (0) := by
  unfold BX5_fewestStrokes_102
  refine s_cal0 105 (run_V (X := XX5_fewestStrokes) rfl clX5 yoX5_mowOneMore rfl tw_1010 tw_1012 tw_p38 (by decide) dX5_fewestStrokes_102) cmX5_mowOneMore (fun _ _ _ => rfl) rfl ?_
  refine s_inc 6 1 108 (by decide) (by decide) dX5_fewestStrokes_105 rfl ?_
  refine s_goto 90 dX5_fewestStrokes_108 (by decide) ?_
  exact s_pick hk90
def BX5_fewestStrokes_90 (k90 : KT (Int32 × HP)) : KT (Int32 × HP) :=
  oIld 6 (oIld 5 (oCmpge (oIld 5 (oConst (.int 1) (oisub (oIst 6 (oIld 6 (oIflt (oConst (.int 0) (oIretH)) (oIld 6 (oAld 0 (oGet 5 1 (oLen (oCmpge (oConst (.int 0) (oIretH)) (oAld 0 (oGet 5 1 (oIld 6 (oIa (oIretH)))))))))))))))) (oAld 0 (oIld 6 (oIld 4 (oPick [0, 4, 5, 6] (BX5_fewestStrokes_102 k90)))))))
set_option maxRecDepth 20000 in
theorem sBX5_fewestStrokes_90 {k90 : KT (Int32 × HP)} (hk90 : Snd XX5_fewestStrokes fIH 90 k90 0 0) : Snd XX5_fewestStrokes fIH 90 (BX5_fewestStrokes_90 k90) (0) (0) := by
  unfold BX5_fewestStrokes_90
  refine s_Ild 6 92 dX5_fewestStrokes_90 rfl ?_
  refine s_Ild 5 94 dX5_fewestStrokes_92 rfl ?_
  refine s_cmpge 111 97 dX5_fewestStrokes_94 (by decide) rfl ?_ ?_
  · refine s_Ild 5 113 dX5_fewestStrokes_111 rfl ?_
    refine s_iconst 114 1 (by decide) dX5_fewestStrokes_113 rfl ?_
    refine s_isub 115 dX5_fewestStrokes_114 rfl ?_
    refine s_Ist 6 117 (by decide) dX5_fewestStrokes_115 rfl ?_
    refine s_Ild 6 119 dX5_fewestStrokes_117 rfl ?_
    refine s_iflt 142 122 dX5_fewestStrokes_119 (by decide) rfl ?_ ?_
    · refine s_iconst 143 0 (by decide) dX5_fewestStrokes_142 rfl ?_
      exact s_iretH rfl dX5_fewestStrokes_143
    · refine s_Ild 6 124 dX5_fewestStrokes_122 rfl ?_
      refine s_Aldn 0 rfl 125 dX5_fewestStrokes_124 rfl ?_
      refine s_get 5 1 128 clX5 (by decide) tw_134 dX5_fewestStrokes_125 rfl ?_
      refine s_len 129 dX5_fewestStrokes_128 rfl ?_
      refine s_cmpge 142 132 dX5_fewestStrokes_129 (by decide) rfl ?_ ?_
      · refine s_iconst 143 0 (by decide) dX5_fewestStrokes_142 rfl ?_
        exact s_iretH rfl dX5_fewestStrokes_143
      · refine s_Aldn 0 rfl 133 dX5_fewestStrokes_132 rfl ?_
        refine s_get 5 1 136 clX5 (by decide) tw_134 dX5_fewestStrokes_133 rfl ?_
        refine s_Ild 6 138 dX5_fewestStrokes_136 rfl ?_
        refine s_Ia 139 dX5_fewestStrokes_138 rfl ?_
        refine s_goto 143 dX5_fewestStrokes_139 (by decide) ?_
        exact s_iretH rfl dX5_fewestStrokes_143
  · refine s_Aldn 0 rfl 98 dX5_fewestStrokes_97 rfl ?_
    refine s_Ild 6 100 dX5_fewestStrokes_98 rfl ?_
    refine s_Ild 4 102 dX5_fewestStrokes_100 rfl ?_
    exact s_pick (sBX5_fewestStrokes_102 hk90)
def BX5_fewestStrokes_28 (k28 : KT (Int32 × HP)) : KT (Int32 × HP) :=
  oIld 6 (oIld 5 (oCmpge (oConst (.int 0) (oIst 6 (oPick [0, 4, 5, 6] (lp (BX5_fewestStrokes_90) FU)))) (oIld 6 (oAld 0 (oGet 5 1 (oLen (oCmpge (oConst (.int 0) (oIst 6 (oPick [0, 4, 5, 6] (lp (BX5_fewestStrokes_90) FU)))) (oIld 6 (oAld 0 (oGet 5 2 (oLen (oCmpge (oConst (.int 0) (oIst 6 (oPick [0, 4, 5, 6] (lp (BX5_fewestStrokes_90) FU)))) (oAld 0 (oGet 5 1 (oIld 6 (oIld 6 (oIfne (oConst (.int 13) (oIw (oAld 0 (oGet 5 2 (oIld 6 (oConst (.int 0) (oIw (oInc 6 1 (oPick [0, 4, 5, 6] k28))))))))) (oConst (.int 0) (oIw (oAld 0 (oGet 5 2 (oIld 6 (oConst (.int 0) (oIw (oInc 6 1 (oPick [0, 4, 5, 6] k28))))))))))))))))))))))))))
set_option maxRecDepth 20000 in
theorem sBX5_fewestStrokes_28 {k28 : KT (Int32 × HP)} (hk28 : Snd XX5_fewestStrokes fIH 28 k28 0 0) : Snd XX5_fewestStrokes fIH 28 (BX5_fewestStrokes_28 k28) (0) (0) := by
  unfold BX5_fewestStrokes_28
  refine s_Ild 6 30 dX5_fewestStrokes_28 rfl ?_
  refine s_Ild 5 32 dX5_fewestStrokes_30 rfl ?_
  refine s_cmpge 87 35 dX5_fewestStrokes_32 (by decide) rfl ?_ ?_
  · refine s_iconst 88 0 (by decide) dX5_fewestStrokes_87 rfl ?_
    refine s_Ist 6 90 (by decide) dX5_fewestStrokes_88 rfl ?_
    exact s_pick (s_lp (fun k hk => sBX5_fewestStrokes_90  hk) FU)
  · refine s_Ild 6 37 dX5_fewestStrokes_35 rfl ?_
    refine s_Aldn 0 rfl 38 dX5_fewestStrokes_37 rfl ?_
    refine s_get 5 1 41 clX5 (by decide) tw_134 dX5_fewestStrokes_38 rfl ?_
    refine s_len 42 dX5_fewestStrokes_41 rfl ?_
    refine s_cmpge 87 45 dX5_fewestStrokes_42 (by decide) rfl ?_ ?_
    · refine s_iconst 88 0 (by decide) dX5_fewestStrokes_87 rfl ?_
      refine s_Ist 6 90 (by decide) dX5_fewestStrokes_88 rfl ?_
      exact s_pick (s_lp (fun k hk => sBX5_fewestStrokes_90  hk) FU)
    · refine s_Ild 6 47 dX5_fewestStrokes_45 rfl ?_
      refine s_Aldn 0 rfl 48 dX5_fewestStrokes_47 rfl ?_
      refine s_get 5 2 51 clX5 (by decide) tw_135 dX5_fewestStrokes_48 rfl ?_
      refine s_len 52 dX5_fewestStrokes_51 rfl ?_
      refine s_cmpge 87 55 dX5_fewestStrokes_52 (by decide) rfl ?_ ?_
      · refine s_iconst 88 0 (by decide) dX5_fewestStrokes_87 rfl ?_
        refine s_Ist 6 90 (by decide) dX5_fewestStrokes_88 rfl ?_
        exact s_pick (s_lp (fun k hk => sBX5_fewestStrokes_90  hk) FU)
      · refine s_Aldn 0 rfl 56 dX5_fewestStrokes_55 rfl ?_
        refine s_get 5 1 59 clX5 (by decide) tw_134 dX5_fewestStrokes_56 rfl ?_
        refine s_Ild 6 61 dX5_fewestStrokes_59 rfl ?_
        refine s_Ild 6 63 dX5_fewestStrokes_61 rfl ?_
        refine s_ifne 70 66 dX5_fewestStrokes_63 (by decide) rfl ?_ ?_
        · refine s_bipush 72 13 (by decide) dX5_fewestStrokes_70 rfl ?_
          refine s_Iw 73 pIH dX5_fewestStrokes_72 rfl ?_
          refine s_Aldn 0 rfl 74 dX5_fewestStrokes_73 rfl ?_
          refine s_get 5 2 77 clX5 (by decide) tw_135 dX5_fewestStrokes_74 rfl ?_
          refine s_Ild 6 79 dX5_fewestStrokes_77 rfl ?_
          refine s_iconst 80 0 (by decide) dX5_fewestStrokes_79 rfl ?_
          refine s_Iw 81 pIH dX5_fewestStrokes_80 rfl ?_
          refine s_inc 6 1 84 (by decide) (by decide) dX5_fewestStrokes_81 rfl ?_
          refine s_goto 28 dX5_fewestStrokes_84 (by decide) ?_
          exact s_pick hk28
        · refine s_iconst 67 0 (by decide) dX5_fewestStrokes_66 rfl ?_
          refine s_goto 72 dX5_fewestStrokes_67 (by decide) ?_
          refine s_Iw 73 pIH dX5_fewestStrokes_72 rfl ?_
          refine s_Aldn 0 rfl 74 dX5_fewestStrokes_73 rfl ?_
          refine s_get 5 2 77 clX5 (by decide) tw_135 dX5_fewestStrokes_74 rfl ?_
          refine s_Ild 6 79 dX5_fewestStrokes_77 rfl ?_
          refine s_iconst 80 0 (by decide) dX5_fewestStrokes_79 rfl ?_
          refine s_Iw 81 pIH dX5_fewestStrokes_80 rfl ?_
          refine s_inc 6 1 84 (by decide) (by decide) dX5_fewestStrokes_81 rfl ?_
          refine s_goto 28 dX5_fewestStrokes_84 (by decide) ?_
          exact s_pick hk28
def BX5_fewestStrokes_16 : KT (Int32 × HP) :=
  oCal 4 (some 5) EX5_findBesides fVH (oConst (.int 1) (oIld 4 (oishl (oIst 5 (oConst (.int 0) (oIst 6 (oPick [0, 4, 5, 6] (lp (BX5_fewestStrokes_28) FU))))))))
set_option maxRecDepth 20000 in
theorem sBX5_fewestStrokes_16 : Snd XX5_fewestStrokes fIH 16 (BX5_fewestStrokes_16) (0) (0) := by
  unfold BX5_fewestStrokes_16
  refine s_cal0 19 (run_V (X := XX5_fewestStrokes) rfl clX5 yoX5_findBesides rfl tw_1002 tw_1004 tw_p37 (by decide) dX5_fewestStrokes_16) cmX5_findBesides (fun _ _ _ => rfl) rfl ?_
  refine s_iconst 20 1 (by decide) dX5_fewestStrokes_19 rfl ?_
  refine s_Ild 4 22 dX5_fewestStrokes_20 rfl ?_
  refine s_ishl 23 dX5_fewestStrokes_22 rfl ?_
  refine s_Ist 5 25 (by decide) dX5_fewestStrokes_23 rfl ?_
  refine s_iconst 26 0 (by decide) dX5_fewestStrokes_25 rfl ?_
  refine s_Ist 6 28 (by decide) dX5_fewestStrokes_26 rfl ?_
  exact s_pick (s_lp (fun k hk => sBX5_fewestStrokes_28  hk) FU)
def BX5_fewestStrokes_0 : KT (Int32 × HP) :=
  oConst (.int 12) (oLld 2 (oCal 1 none EJ13_bitCount_95d88 fI (oMin (oIst 4 (oAld 0 (oAld 1 (oLld 2 (oIld 4 (oPick [0, 4] (BX5_fewestStrokes_16))))))))))
set_option maxRecDepth 20000 in
theorem sBX5_fewestStrokes_0 : Snd XX5_fewestStrokes fIH 0 (BX5_fewestStrokes_0) (0) (0) := by
  unfold BX5_fewestStrokes_0
  refine s_bipush 2 12 (by decide) dX5_fewestStrokes_0 rfl ?_
  refine s_Lldn 2 rfl 3 dX5_fewestStrokes_2 rfl ?_
  refine s_cal0 6 (run_S (X := XX5_fewestStrokes) yoJ13_bitCount_95d88 tw_1000 tw_697 (by decide) dX5_fewestStrokes_3) cmJ13_bitCount_95d88 (fun _ _ _ => rfl) rfl ?_
  refine s_min 9 tw_1001 tw_466 tw_13 tw_467 (by decide) (by decide) dX5_fewestStrokes_6 rfl ?_
  refine s_Ist 4 11 (by decide) dX5_fewestStrokes_9 rfl ?_
  refine s_Aldn 0 rfl 12 dX5_fewestStrokes_11 rfl ?_
  refine s_Aldn 1 rfl 13 dX5_fewestStrokes_12 rfl ?_
  refine s_Lldn 2 rfl 14 dX5_fewestStrokes_13 rfl ?_
  refine s_Ild 4 16 dX5_fewestStrokes_14 rfl ?_
  exact s_pick (sBX5_fewestStrokes_16)
def EX5_fewestStrokes : List Value → HP → Option (Int32 × HP) := en 7 BX5_fewestStrokes_0
theorem cmX5_fewestStrokes : CM XX5_fewestStrokes EX5_fewestStrokes fIH 0 0 := CM.of rfl (by decide) rfl rfl sBX5_fewestStrokes_0
theorem yoX5_fewestStrokes : YO XX5_fewestStrokes 2 0 0 := ⟨tw_999, rfl, tw_6, (by decide +kernel), rfl, rfl⟩
abbrev XX8_init : MX := (yX8_init, cX8_init, 2, none, Cond.code yX8_init cX8_init 2 none :: WS, { frames := 1, cells := 3, slots := 297, locals := 21 })
def BX8_init_37 : KT HP :=
  oCal 2 (some 3) EX3_walker fA (oPut 8 4 (.object "MownMaze$Walker") (oVretH))
set_option maxRecDepth 20000 in
theorem sBX8_init_37 : Snd XX8_init fVH 37 (BX8_init_37) (0) (0) := by
  unfold BX8_init_37
  refine s_cal0 40 (run_V (X := XX8_init) rfl clX3 yoX3_walker rfl tw_308 tw_309 tw_310 (by decide) dX8_init_37) cmX3_walker (fun _ _ _ => rfl) rfl ?_
  refine s_put 8 4 43 clX8 (by decide) rfl rfl pVH tw_316 dX8_init_40 rfl ?_
  exact s_vretH rfl dX8_init_43
def BX8_init_0 : KT HP :=
  oAld 0 (oPopA (oAld 0 (oConst (.int 201) (oNar 1 zI 201 (oPut 8 0 (.array .int) (oAld 0 (oConst (.int 48) (oNar 1 zI 48 (oPut 8 1 (.array .int) (oAld 0 (oConst (.int 48) (oNar 1 zI 48 (oPut 8 2 (.array .int) (oAld 0 (oAld 1 (oPut 8 3 (.object "MownMaze$Plan") (oAld 0 (oAld 1 (oConst (.int 0) (oPick [] (BX8_init_37)))))))))))))))))))))
set_option maxRecDepth 20000 in
theorem sBX8_init_0 : Snd XX8_init fVH 0 (BX8_init_0) (3) (297) := by
  unfold BX8_init_0
  refine s_Aldn 0 rfl 1 dX8_init_0 rfl ?_
  refine s_objI 4 tw_307 tw_31 tw_32 (by decide) (by decide) dX8_init_1 rfl ?_
  refine s_Aldn 0 rfl 5 dX8_init_4 rfl ?_
  refine s_sipush 8 201 (by decide) dX8_init_5 rfl ?_
  refine s_narI (mc := 2) (ms := 96) 201 10 (by decide) pVH tw_126 dX8_init_8 rfl ?_
  refine s_putF 8 0 13 clX8 (by decide) rfl rfl rfl rfl pVH tw_312 dX8_init_10 rfl ?_
  refine s_Aldn 0 rfl 14 dX8_init_13 rfl ?_
  refine s_bipush 16 48 (by decide) dX8_init_14 rfl ?_
  refine s_narI (mc := 1) (ms := 48) 48 18 (by decide) pVH tw_126 dX8_init_16 rfl ?_
  refine s_putF 8 1 21 clX8 (by decide) rfl rfl rfl rfl pVH tw_313 dX8_init_18 rfl ?_
  refine s_Aldn 0 rfl 22 dX8_init_21 rfl ?_
  refine s_bipush 24 48 (by decide) dX8_init_22 rfl ?_
  refine s_narI (mc := 0) (ms := 0) 48 26 (by decide) pVH tw_126 dX8_init_24 rfl ?_
  refine s_putF 8 2 29 clX8 (by decide) rfl rfl rfl rfl pVH tw_314 dX8_init_26 rfl ?_
  refine s_Aldn 0 rfl 30 dX8_init_29 rfl ?_
  refine s_Aldn 1 rfl 31 dX8_init_30 rfl ?_
  refine s_put 8 3 34 clX8 (by decide) rfl rfl pVH tw_315 dX8_init_31 rfl ?_
  refine s_Aldn 0 rfl 35 dX8_init_34 rfl ?_
  refine s_Aldn 1 rfl 36 dX8_init_35 rfl ?_
  refine s_iconst 37 0 (by decide) dX8_init_36 rfl ?_
  exact s_pick (sBX8_init_37)
def EX8_init : List Value → HP → Option HP := en 2 BX8_init_0
theorem cmX8_init : CM XX8_init EX8_init fVH 3 297 := CM.of rfl (by decide) rfl rfl sBX8_init_0
theorem yoX8_init : YO XX8_init 1 3 297 := ⟨tw_306, rfl, tw_11, (by decide +kernel), rfl, rfl⟩
abbrev XX8_enter : MX := (yX8_enter, cX8_enter, 3, none, Cond.code yX8_enter cX8_enter 3 none :: WS, { frames := 1, cells := 0, slots := 0, locals := 22 })
def BX8_enter_5 : KT HP :=
  oCal 2 none EX10_isIn fZ (oIfne (oAld 0 (odup (oGet 8 6 (oIld 1 (oCal 1 none EX10_bit fL (olor (oPut 8 6 .long (oAld 0 (oIld 1 (oPut 8 7 .int (oVretH))))))))))) (oIld 1 (oIflt (oAld 0 (odup (oGet 8 6 (oIld 1 (oCal 1 none EX10_bit fL (olor (oPut 8 6 .long (oAld 0 (oIld 1 (oPut 8 7 .int (oVretH))))))))))) (oIld 1 (oAld 0 (oGet 8 1 (oLen (oCmpge (oAld 0 (odup (oGet 8 6 (oIld 1 (oCal 1 none EX10_bit fL (olor (oPut 8 6 .long (oAld 0 (oIld 1 (oPut 8 7 .int (oVretH))))))))))) (oAld 0 (oGet 8 1 (oIld 1 (oIld 2 (oIw (oAld 0 (odup (oGet 8 6 (oIld 1 (oCal 1 none EX10_bit fL (olor (oPut 8 6 .long (oAld 0 (oIld 1 (oPut 8 7 .int (oVretH))))))))))))))))))))))))
set_option maxRecDepth 20000 in
theorem sBX8_enter_5 : Snd XX8_enter fVH 5 (BX8_enter_5) (0) (0) := by
  unfold BX8_enter_5
  refine s_cal0 8 (run_SN (X := XX8_enter) yoX10_isIn nw_79 tw_631 (by decide) dX8_enter_5) cmX10_isIn (fun _ _ _ => rfl) rfl ?_
  refine s_ifne 31 11 dX8_enter_8 (by decide) rfl ?_ ?_
  · refine s_Aldn 0 rfl 32 dX8_enter_31 rfl ?_
    refine s_dup 33 dX8_enter_32 rfl ?_
    refine s_get 8 6 36 clX8 (by decide) tw_318 dX8_enter_33 rfl ?_
    refine s_Ildn 1 rfl 37 dX8_enter_36 rfl ?_
    refine s_cal0 40 (run_SN (X := XX8_enter) yoX10_bit nw_80 tw_432 (by decide) dX8_enter_37) cmX10_bit (fun _ _ _ => rfl) rfl ?_
    refine s_lor 41 dX8_enter_40 rfl ?_
    refine s_put 8 6 44 clX8 (by decide) rfl rfl pVH tw_318 dX8_enter_41 rfl ?_
    refine s_Aldn 0 rfl 45 dX8_enter_44 rfl ?_
    refine s_Ildn 1 rfl 46 dX8_enter_45 rfl ?_
    refine s_put 8 7 49 clX8 (by decide) rfl rfl pVH tw_319 dX8_enter_46 rfl ?_
    exact s_vretH rfl dX8_enter_49
  · refine s_Ildn 1 rfl 12 dX8_enter_11 rfl ?_
    refine s_iflt 31 15 dX8_enter_12 (by decide) rfl ?_ ?_
    · refine s_Aldn 0 rfl 32 dX8_enter_31 rfl ?_
      refine s_dup 33 dX8_enter_32 rfl ?_
      refine s_get 8 6 36 clX8 (by decide) tw_318 dX8_enter_33 rfl ?_
      refine s_Ildn 1 rfl 37 dX8_enter_36 rfl ?_
      refine s_cal0 40 (run_SN (X := XX8_enter) yoX10_bit nw_80 tw_432 (by decide) dX8_enter_37) cmX10_bit (fun _ _ _ => rfl) rfl ?_
      refine s_lor 41 dX8_enter_40 rfl ?_
      refine s_put 8 6 44 clX8 (by decide) rfl rfl pVH tw_318 dX8_enter_41 rfl ?_
      refine s_Aldn 0 rfl 45 dX8_enter_44 rfl ?_
      refine s_Ildn 1 rfl 46 dX8_enter_45 rfl ?_
      refine s_put 8 7 49 clX8 (by decide) rfl rfl pVH tw_319 dX8_enter_46 rfl ?_
      exact s_vretH rfl dX8_enter_49
    · refine s_Ildn 1 rfl 16 dX8_enter_15 rfl ?_
      refine s_Aldn 0 rfl 17 dX8_enter_16 rfl ?_
      refine s_get 8 1 20 clX8 (by decide) tw_313 dX8_enter_17 rfl ?_
      refine s_len 21 dX8_enter_20 rfl ?_
      refine s_cmpge 31 24 dX8_enter_21 (by decide) rfl ?_ ?_
      · refine s_Aldn 0 rfl 32 dX8_enter_31 rfl ?_
        refine s_dup 33 dX8_enter_32 rfl ?_
        refine s_get 8 6 36 clX8 (by decide) tw_318 dX8_enter_33 rfl ?_
        refine s_Ildn 1 rfl 37 dX8_enter_36 rfl ?_
        refine s_cal0 40 (run_SN (X := XX8_enter) yoX10_bit nw_80 tw_432 (by decide) dX8_enter_37) cmX10_bit (fun _ _ _ => rfl) rfl ?_
        refine s_lor 41 dX8_enter_40 rfl ?_
        refine s_put 8 6 44 clX8 (by decide) rfl rfl pVH tw_318 dX8_enter_41 rfl ?_
        refine s_Aldn 0 rfl 45 dX8_enter_44 rfl ?_
        refine s_Ildn 1 rfl 46 dX8_enter_45 rfl ?_
        refine s_put 8 7 49 clX8 (by decide) rfl rfl pVH tw_319 dX8_enter_46 rfl ?_
        exact s_vretH rfl dX8_enter_49
      · refine s_Aldn 0 rfl 25 dX8_enter_24 rfl ?_
        refine s_get 8 1 28 clX8 (by decide) tw_313 dX8_enter_25 rfl ?_
        refine s_Ildn 1 rfl 29 dX8_enter_28 rfl ?_
        refine s_Ildn 2 rfl 30 dX8_enter_29 rfl ?_
        refine s_Iw 31 pVH dX8_enter_30 rfl ?_
        refine s_Aldn 0 rfl 32 dX8_enter_31 rfl ?_
        refine s_dup 33 dX8_enter_32 rfl ?_
        refine s_get 8 6 36 clX8 (by decide) tw_318 dX8_enter_33 rfl ?_
        refine s_Ildn 1 rfl 37 dX8_enter_36 rfl ?_
        refine s_cal0 40 (run_SN (X := XX8_enter) yoX10_bit nw_80 tw_432 (by decide) dX8_enter_37) cmX10_bit (fun _ _ _ => rfl) rfl ?_
        refine s_lor 41 dX8_enter_40 rfl ?_
        refine s_put 8 6 44 clX8 (by decide) rfl rfl pVH tw_318 dX8_enter_41 rfl ?_
        refine s_Aldn 0 rfl 45 dX8_enter_44 rfl ?_
        refine s_Ildn 1 rfl 46 dX8_enter_45 rfl ?_
        refine s_put 8 7 49 clX8 (by decide) rfl rfl pVH tw_319 dX8_enter_46 rfl ?_
        exact s_vretH rfl dX8_enter_49
def BX8_enter_0 : KT HP :=
  oAld 0 (oGet 8 6 (oIld 1 (oPick [0, 1, 2] (BX8_enter_5))))
set_option maxRecDepth 20000 in
theorem sBX8_enter_0 : Snd XX8_enter fVH 0 (BX8_enter_0) (0) (0) := by
  unfold BX8_enter_0
  refine s_Aldn 0 rfl 1 dX8_enter_0 rfl ?_
  refine s_get 8 6 4 clX8 (by decide) tw_318 dX8_enter_1 rfl ?_
  refine s_Ildn 1 rfl 5 dX8_enter_4 rfl ?_
  exact s_pick (sBX8_enter_5)
def EX8_enter : List Value → HP → Option HP := en 3 BX8_enter_0
theorem cmX8_enter : CM XX8_enter EX8_enter fVH 0 0 := CM.of rfl (by decide) rfl rfl sBX8_enter_0
theorem yoX8_enter : YO XX8_enter 2 0 0 := ⟨tw_833, rfl, tw_11, (by decide +kernel), rfl, rfl⟩
abbrev XX8_begin : MX := (yX8_begin, cX8_begin, 6, none, Cond.code yX8_begin cX8_begin 6 none :: WS, { frames := 2, cells := 0, slots := 0, locals := 56 })
def BX8_begin_117 : KT HP :=
  oCal 4 (some 0) EX0_measure fVH (oVretH)
set_option maxRecDepth 20000 in
theorem sBX8_begin_117 : Snd XX8_begin fVH 117 (BX8_begin_117) (0) (0) := by
  unfold BX8_begin_117
  refine s_cal0 120 (run_V (X := XX8_begin) rfl clX0 yoX0_measure rfl tw_837 tw_838 tw_839 (by decide) dX8_begin_117) cmX0_measure (fun _ _ _ => rfl) rfl ?_
  exact s_vretH rfl dX8_begin_120
def BX8_begin_95 : KT HP :=
  oCal 1 (some 3) EX3_hasNoise fZ (oIfeq (oConst (.int 48) (oAld 0 (oGet 8 2 (oPick [] (BX8_begin_117))))) (oAld 0 (oGet 8 3 (oGet 3 13 (oAld 0 (oGet 8 2 (oPick [] (BX8_begin_117))))))))
set_option maxRecDepth 20000 in
theorem sBX8_begin_95 : Snd XX8_begin fVH 95 (BX8_begin_95) (0) (0) := by
  unfold BX8_begin_95
  refine s_cal0 98 (run_V (X := XX8_begin) rfl clX3 yoX3_hasNoise rfl tw_836 tw_592 tw_593 (by decide) dX8_begin_95) cmX3_hasNoise (fun _ _ _ => rfl) rfl ?_
  refine s_ifeq 111 101 dX8_begin_98 (by decide) rfl ?_ ?_
  · refine s_bipush 113 48 (by decide) dX8_begin_111 rfl ?_
    refine s_Aldn 0 rfl 114 dX8_begin_113 rfl ?_
    refine s_get 8 2 117 clX8 (by decide) tw_314 dX8_begin_114 rfl ?_
    exact s_pick (sBX8_begin_117)
  · refine s_Aldn 0 rfl 102 dX8_begin_101 rfl ?_
    refine s_get 8 3 105 clX8 (by decide) tw_315 dX8_begin_102 rfl ?_
    refine s_getN 3 13 108 clX3 (by decide) nw_38 dX8_begin_105 rfl ?_
    refine s_goto 113 dX8_begin_108 (by decide) ?_
    refine s_Aldn 0 rfl 114 dX8_begin_113 rfl ?_
    refine s_get 8 2 117 clX8 (by decide) tw_314 dX8_begin_114 rfl ?_
    exact s_pick (sBX8_begin_117)
def BX8_begin_66 : KT HP :=
  oCal 3 (some 8) EX8_enter fVH (oAld 0 (oGet 8 4 (oGet 9 1 (oConst (.int 3) (oCmpne (oVretH) (oAld 0 (oGet 8 3 (oGet 3 0 (oAld 0 (oGet 8 5 (oAld 0 (oGet 8 3 (oPick [0] (BX8_begin_95))))))))))))))
set_option maxRecDepth 20000 in
theorem sBX8_begin_66 : Snd XX8_begin fVH 66 (BX8_begin_66) (0) (0) := by
  unfold BX8_begin_66
  refine s_cal0 69 (run_V (X := XX8_begin) rfl clX8 yoX8_enter rfl tw_830 tw_832 tw_p25 (by decide) dX8_begin_66) cmX8_enter (fun _ _ _ => rfl) rfl ?_
  refine s_Aldn 0 rfl 70 dX8_begin_69 rfl ?_
  refine s_get 8 4 73 clX8 (by decide) tw_316 dX8_begin_70 rfl ?_
  refine s_getN 9 1 76 clX9 (by decide) nw_12 dX8_begin_73 rfl ?_
  refine s_iconst 77 3 (by decide) dX8_begin_76 rfl ?_
  refine s_cmpne 120 80 dX8_begin_77 (by decide) rfl ?_ ?_
  · exact s_vretH rfl dX8_begin_120
  · refine s_Aldn 0 rfl 81 dX8_begin_80 rfl ?_
    refine s_get 8 3 84 clX8 (by decide) tw_315 dX8_begin_81 rfl ?_
    refine s_getN 3 0 87 clX3 (by decide) nw_21 dX8_begin_84 rfl ?_
    refine s_Aldn 0 rfl 88 dX8_begin_87 rfl ?_
    refine s_get 8 5 91 clX8 (by decide) tw_317 dX8_begin_88 rfl ?_
    refine s_Aldn 0 rfl 92 dX8_begin_91 rfl ?_
    refine s_get 8 3 95 clX8 (by decide) tw_315 dX8_begin_92 rfl ?_
    exact s_pick (sBX8_begin_95)
def BX8_begin_11 : KT HP :=
  oCal 2 (some 3) EX3_walker fA (oPut 8 4 (.object "MownMaze$Walker") (oAld 0 (oLld 3 (oPut 8 5 .long (oAld 0 (oAld 0 (oGet 8 4 (oGet 9 2 (oPut 8 7 .int (oAld 0 (oAld 0 (oGet 8 4 (oGet 9 3 (oPut 8 8 .int (oAld 0 (oIld 5 (oIld 2 (oiadd (oConst (.int 65537) (oirem (oPut 8 9 .int (oAld 0 (oConst (.long 0) (oPut 8 6 .long (oAld 0 (oAld 0 (oGet 8 7 (oConst (.int (-1)) (oPick [0] (BX8_begin_66))))))))))))))))))))))))))))))
set_option maxRecDepth 20000 in
theorem sBX8_begin_11 : Snd XX8_begin fVH 11 (BX8_begin_11) (0) (0) := by
  unfold BX8_begin_11
  refine s_cal0 14 (run_V (X := XX8_begin) rfl clX3 yoX3_walker rfl tw_308 tw_309 tw_310 (by decide) dX8_begin_11) cmX3_walker (fun _ _ _ => rfl) rfl ?_
  refine s_put 8 4 17 clX8 (by decide) rfl rfl pVH tw_316 dX8_begin_14 rfl ?_
  refine s_Aldn 0 rfl 18 dX8_begin_17 rfl ?_
  refine s_Lldn 3 rfl 19 dX8_begin_18 rfl ?_
  refine s_put 8 5 22 clX8 (by decide) rfl rfl pVH tw_317 dX8_begin_19 rfl ?_
  refine s_Aldn 0 rfl 23 dX8_begin_22 rfl ?_
  refine s_Aldn 0 rfl 24 dX8_begin_23 rfl ?_
  refine s_get 8 4 27 clX8 (by decide) tw_316 dX8_begin_24 rfl ?_
  refine s_getN 9 2 30 clX9 (by decide) nw_15 dX8_begin_27 rfl ?_
  refine s_put 8 7 33 clX8 (by decide) rfl rfl pVH tw_319 dX8_begin_30 rfl ?_
  refine s_Aldn 0 rfl 34 dX8_begin_33 rfl ?_
  refine s_Aldn 0 rfl 35 dX8_begin_34 rfl ?_
  refine s_get 8 4 38 clX8 (by decide) tw_316 dX8_begin_35 rfl ?_
  refine s_getN 9 3 41 clX9 (by decide) nw_17 dX8_begin_38 rfl ?_
  refine s_put 8 8 44 clX8 (by decide) rfl rfl pVH tw_320 dX8_begin_41 rfl ?_
  refine s_Aldn 0 rfl 45 dX8_begin_44 rfl ?_
  refine s_Ild 5 47 dX8_begin_45 rfl ?_
  refine s_Ildn 2 rfl 48 dX8_begin_47 rfl ?_
  refine s_iadd 49 dX8_begin_48 rfl ?_
  refine s_ldc 51 65537 tw_829 dX8_begin_49 rfl ?_
  refine s_irem 52 dX8_begin_51 rfl ?_
  refine s_put 8 9 55 clX8 (by decide) rfl rfl pVH tw_321 dX8_begin_52 rfl ?_
  refine s_Aldn 0 rfl 56 dX8_begin_55 rfl ?_
  refine s_lconst 57 0 (by decide) dX8_begin_56 rfl ?_
  refine s_put 8 6 60 clX8 (by decide) rfl rfl pVH tw_318 dX8_begin_57 rfl ?_
  refine s_Aldn 0 rfl 61 dX8_begin_60 rfl ?_
  refine s_Aldn 0 rfl 62 dX8_begin_61 rfl ?_
  refine s_get 8 7 65 clX8 (by decide) tw_319 dX8_begin_62 rfl ?_
  refine s_iconst 66 (-1) (by decide) dX8_begin_65 rfl ?_
  exact s_pick (sBX8_begin_66)
def BX8_begin_0 : KT HP :=
  oAld 0 (oAld 1 (oPut 8 3 (.object "MownMaze$Plan") (oAld 0 (oAld 0 (oGet 8 3 (oIld 2 (oPick [0, 2, 3, 5] (BX8_begin_11))))))))
set_option maxRecDepth 20000 in
theorem sBX8_begin_0 : Snd XX8_begin fVH 0 (BX8_begin_0) (0) (0) := by
  unfold BX8_begin_0
  refine s_Aldn 0 rfl 1 dX8_begin_0 rfl ?_
  refine s_Aldn 1 rfl 2 dX8_begin_1 rfl ?_
  refine s_put 8 3 5 clX8 (by decide) rfl rfl pVH tw_315 dX8_begin_2 rfl ?_
  refine s_Aldn 0 rfl 6 dX8_begin_5 rfl ?_
  refine s_Aldn 0 rfl 7 dX8_begin_6 rfl ?_
  refine s_get 8 3 10 clX8 (by decide) tw_315 dX8_begin_7 rfl ?_
  refine s_Ildn 2 rfl 11 dX8_begin_10 rfl ?_
  exact s_pick (sBX8_begin_11)
def EX8_begin : List Value → HP → Option HP := en 6 BX8_begin_0
theorem cmX8_begin : CM XX8_begin EX8_begin fVH 0 0 := CM.of rfl (by decide) rfl rfl sBX8_begin_0
theorem yoX8_begin : YO XX8_begin 4 0 0 := ⟨tw_828, rfl, tw_11, (by decide +kernel), rfl, rfl⟩
abbrev XX8_mownTo : MX := (yX8_mownTo, cX8_mownTo, 3, (Option.some .int), Cond.code yX8_mownTo cX8_mownTo 3 (Option.some .int) :: WS, { frames := 1, cells := 0, slots := 0, locals := 23 })
def BX8_mownTo_26 : KT Int32 :=
  oCal 2 none EX10_isIn fZ (oIfeq (oConst (.int (-1)) (oIretP)) (oIld 2 (oIretP)))
set_option maxRecDepth 20000 in
theorem sBX8_mownTo_26 : Snd XX8_mownTo fI 26 (BX8_mownTo_26) (0) (0) := by
  unfold BX8_mownTo_26
  refine s_cal0 29 (run_SN (X := XX8_mownTo) yoX10_isIn nw_79 tw_631 (by decide) dX8_mownTo_26) cmX10_isIn (fun _ _ _ => rfl) rfl ?_
  refine s_ifeq 36 32 dX8_mownTo_29 (by decide) rfl ?_ ?_
  · refine s_iconst 37 (-1) (by decide) dX8_mownTo_36 rfl ?_
    exact s_iretP rfl dX8_mownTo_37
  · refine s_Ildn 2 rfl 33 dX8_mownTo_32 rfl ?_
    refine s_goto 37 dX8_mownTo_33 (by decide) ?_
    exact s_iretP rfl dX8_mownTo_37
def BX8_mownTo_12 : KT Int32 :=
  oCal 3 (some 0) EX0_cellTo fI (oIst 2 (oIld 2 (oConst (.int (-1)) (oCmpeq (oConst (.int (-1)) (oIretP)) (oAld 0 (oGet 8 5 (oIld 2 (oPick [2] (BX8_mownTo_26)))))))))
set_option maxRecDepth 20000 in
theorem sBX8_mownTo_12 : Snd XX8_mownTo fI 12 (BX8_mownTo_12) (0) (0) := by
  unfold BX8_mownTo_12
  refine s_cal0 15 (run_V (X := XX8_mownTo) rfl clX0 yoX0_cellTo rfl tw_853 tw_854 tw_855 (by decide) dX8_mownTo_12) cmX0_cellTo (fun _ _ _ => rfl) rfl ?_
  refine s_Istn 2 rfl 16 (by decide) dX8_mownTo_15 rfl ?_
  refine s_Ildn 2 rfl 17 dX8_mownTo_16 rfl ?_
  refine s_iconst 18 (-1) (by decide) dX8_mownTo_17 rfl ?_
  refine s_cmpeq 36 21 dX8_mownTo_18 (by decide) rfl ?_ ?_
  · refine s_iconst 37 (-1) (by decide) dX8_mownTo_36 rfl ?_
    exact s_iretP rfl dX8_mownTo_37
  · refine s_Aldn 0 rfl 22 dX8_mownTo_21 rfl ?_
    refine s_get 8 5 25 clX8 (by decide) tw_317 dX8_mownTo_22 rfl ?_
    refine s_Ildn 2 rfl 26 dX8_mownTo_25 rfl ?_
    exact s_pick (sBX8_mownTo_26)
def BX8_mownTo_0 : KT Int32 :=
  oAld 0 (oGet 8 3 (oGet 3 0 (oIld 1 (oAld 0 (oGet 8 7 (oPick [0] (BX8_mownTo_12)))))))
set_option maxRecDepth 20000 in
theorem sBX8_mownTo_0 : Snd XX8_mownTo fI 0 (BX8_mownTo_0) (0) (0) := by
  unfold BX8_mownTo_0
  refine s_Aldn 0 rfl 1 dX8_mownTo_0 rfl ?_
  refine s_get 8 3 4 clX8 (by decide) tw_315 dX8_mownTo_1 rfl ?_
  refine s_getN 3 0 7 clX3 (by decide) nw_21 dX8_mownTo_4 rfl ?_
  refine s_Ildn 1 rfl 8 dX8_mownTo_7 rfl ?_
  refine s_Aldn 0 rfl 9 dX8_mownTo_8 rfl ?_
  refine s_get 8 7 12 clX8 (by decide) tw_319 dX8_mownTo_9 rfl ?_
  exact s_pick (sBX8_mownTo_12)
def EX8_mownTo : List Value → HP → Option Int32 := en 3 BX8_mownTo_0
theorem cmX8_mownTo : CM XX8_mownTo EX8_mownTo fI 0 0 := CM.of rfl (by decide) rfl rfl sBX8_mownTo_0
theorem yoX8_mownTo : YO XX8_mownTo 1 0 0 := ⟨tw_852, rfl, tw_11, (by decide +kernel), rfl, rfl⟩
abbrev XX8_stepTurning : MX := (yX8_stepTurning, cX8_stepTurning, 6, none, Cond.code yX8_stepTurning cX8_stepTurning 6 none :: WS, { frames := 2, cells := 0, slots := 0, locals := 45 })
def BX8_stepTurning_43 : KT HP :=
  oCal 3 (some 8) EX8_enter fVH (oVretH)
set_option maxRecDepth 20000 in
theorem sBX8_stepTurning_43 : Snd XX8_stepTurning fVH 43 (BX8_stepTurning_43) (0) (0) := by
  unfold BX8_stepTurning_43
  refine s_cal0 46 (run_V (X := XX8_stepTurning) rfl clX8 yoX8_enter rfl tw_830 tw_832 tw_p25 (by decide) dX8_stepTurning_43) cmX8_enter (fun _ _ _ => rfl) rfl ?_
  exact s_vretH rfl dX8_stepTurning_46
def BX8_stepTurning_19 (k2 : KT HP) : KT HP :=
  oCal 2 (some 8) EX8_mownTo fI (oIst 5 (oIld 5 (oConst (.int (-1)) (oCmpeq (oInc 3 1 (oPick [0, 1, 2, 3] k2)) (oAld 0 (oIld 4 (oPut 8 8 .int (oAld 0 (oIld 5 (oAld 0 (oGet 8 7 (oPick [] (BX8_stepTurning_43)))))))))))))
set_option maxRecDepth 20000 in
theorem sBX8_stepTurning_19 {k2 : KT HP} (hk2 : Snd XX8_stepTurning fVH 2 k2 0 0) : Snd XX8_stepTurning fVH 19 (BX8_stepTurning_19 k2) (0) (0) := by
  unfold BX8_stepTurning_19
  refine s_cal0 22 (run_V (X := XX8_stepTurning) rfl clX8 yoX8_mownTo rfl tw_849 tw_851 tw_p28 (by decide) dX8_stepTurning_19) cmX8_mownTo (fun _ _ _ => rfl) rfl ?_
  refine s_Ist 5 24 (by decide) dX8_stepTurning_22 rfl ?_
  refine s_Ild 5 26 dX8_stepTurning_24 rfl ?_
  refine s_iconst 27 (-1) (by decide) dX8_stepTurning_26 rfl ?_
  refine s_cmpeq 47 30 dX8_stepTurning_27 (by decide) rfl ?_ ?_
  · refine s_inc 3 1 50 (by decide) (by decide) dX8_stepTurning_47 rfl ?_
    refine s_goto 2 dX8_stepTurning_50 (by decide) ?_
    exact s_pick hk2
  · refine s_Aldn 0 rfl 31 dX8_stepTurning_30 rfl ?_
    refine s_Ild 4 33 dX8_stepTurning_31 rfl ?_
    refine s_put 8 8 36 clX8 (by decide) rfl rfl pVH tw_320 dX8_stepTurning_33 rfl ?_
    refine s_Aldn 0 rfl 37 dX8_stepTurning_36 rfl ?_
    refine s_Ild 5 39 dX8_stepTurning_37 rfl ?_
    refine s_Aldn 0 rfl 40 dX8_stepTurning_39 rfl ?_
    refine s_get 8 7 43 clX8 (by decide) tw_319 dX8_stepTurning_40 rfl ?_
    exact s_pick (sBX8_stepTurning_43)
def BX8_stepTurning_2 (k2 : KT HP) : KT HP :=
  oIld 3 (oConst (.int 4) (oCmpge (oVretH) (oIld 1 (oIld 2 (oIld 3 (oimul (oiadd (oConst (.int 4) (oirem (oIst 4 (oAld 0 (oIld 4 (oPick [0, 1, 2, 3, 4] (BX8_stepTurning_19 k2))))))))))))))
set_option maxRecDepth 20000 in
theorem sBX8_stepTurning_2 {k2 : KT HP} (hk2 : Snd XX8_stepTurning fVH 2 k2 0 0) : Snd XX8_stepTurning fVH 2 (BX8_stepTurning_2 k2) (0) (0) := by
  unfold BX8_stepTurning_2
  refine s_Ildn 3 rfl 3 dX8_stepTurning_2 rfl ?_
  refine s_iconst 4 4 (by decide) dX8_stepTurning_3 rfl ?_
  refine s_cmpge 53 7 dX8_stepTurning_4 (by decide) rfl ?_ ?_
  · exact s_vretH rfl dX8_stepTurning_53
  · refine s_Ildn 1 rfl 8 dX8_stepTurning_7 rfl ?_
    refine s_Ildn 2 rfl 9 dX8_stepTurning_8 rfl ?_
    refine s_Ildn 3 rfl 10 dX8_stepTurning_9 rfl ?_
    refine s_imul 11 dX8_stepTurning_10 rfl ?_
    refine s_iadd 12 dX8_stepTurning_11 rfl ?_
    refine s_iconst 13 4 (by decide) dX8_stepTurning_12 rfl ?_
    refine s_irem 14 dX8_stepTurning_13 rfl ?_
    refine s_Ist 4 16 (by decide) dX8_stepTurning_14 rfl ?_
    refine s_Aldn 0 rfl 17 dX8_stepTurning_16 rfl ?_
    refine s_Ild 4 19 dX8_stepTurning_17 rfl ?_
    exact s_pick (sBX8_stepTurning_19 hk2)
def BX8_stepTurning_0 : KT HP :=
  oConst (.int 0) (oIst 3 (oPick [0, 1, 2, 3] (lp (BX8_stepTurning_2) FU)))
set_option maxRecDepth 20000 in
theorem sBX8_stepTurning_0 : Snd XX8_stepTurning fVH 0 (BX8_stepTurning_0) (0) (0) := by
  unfold BX8_stepTurning_0
  refine s_iconst 1 0 (by decide) dX8_stepTurning_0 rfl ?_
  refine s_Istn 3 rfl 2 (by decide) dX8_stepTurning_1 rfl ?_
  exact s_pick (s_lp (fun k hk => sBX8_stepTurning_2  hk) FU)
def EX8_stepTurning : List Value → HP → Option HP := en 6 BX8_stepTurning_0
theorem cmX8_stepTurning : CM XX8_stepTurning EX8_stepTurning fVH 0 0 := CM.of rfl (by decide) rfl rfl sBX8_stepTurning_0
theorem yoX8_stepTurning : YO XX8_stepTurning 2 0 0 := ⟨tw_848, rfl, tw_11, (by decide +kernel), rfl, rfl⟩
abbrev XX8_stepOnce : MX := (yX8_stepOnce, cX8_stepOnce, 3, none, Cond.code yX8_stepOnce cX8_stepOnce 3 none :: WS, { frames := 2, cells := 0, slots := 0, locals := 45 })
def BX8_stepOnce_100 : KT HP :=
  oCal 3 (some 8) EX8_enter fVH (oVretH)
set_option maxRecDepth 20000 in
theorem sBX8_stepOnce_100 : Snd XX8_stepOnce fVH 100 (BX8_stepOnce_100) (0) (0) := by
  unfold BX8_stepOnce_100
  refine s_cal0 103 (run_V (X := XX8_stepOnce) rfl clX8 yoX8_enter rfl tw_830 tw_832 tw_p25 (by decide) dX8_stepOnce_100) cmX8_enter (fun _ _ _ => rfl) rfl ?_
  exact s_vretH rfl dX8_stepOnce_103
def BX8_stepOnce_88 : KT HP :=
  oCal 2 none EX10_isIn fZ (oIfeq (oVretH) (oAld 0 (oIld 1 (oAld 0 (oGet 8 7 (oPick [] (BX8_stepOnce_100)))))))
set_option maxRecDepth 20000 in
theorem sBX8_stepOnce_88 : Snd XX8_stepOnce fVH 88 (BX8_stepOnce_88) (0) (0) := by
  unfold BX8_stepOnce_88
  refine s_cal0 91 (run_SN (X := XX8_stepOnce) yoX10_isIn nw_79 tw_631 (by decide) dX8_stepOnce_88) cmX10_isIn (fun _ _ _ => rfl) rfl ?_
  refine s_ifeq 103 94 dX8_stepOnce_91 (by decide) rfl ?_ ?_
  · exact s_vretH rfl dX8_stepOnce_103
  · refine s_Aldn 0 rfl 95 dX8_stepOnce_94 rfl ?_
    refine s_Ildn 1 rfl 96 dX8_stepOnce_95 rfl ?_
    refine s_Aldn 0 rfl 97 dX8_stepOnce_96 rfl ?_
    refine s_get 8 7 100 clX8 (by decide) tw_319 dX8_stepOnce_97 rfl ?_
    exact s_pick (sBX8_stepOnce_100)
def BX8_stepOnce_77 : KT HP :=
  oIst 1 (oIld 1 (oConst (.int (-1)) (oCmpeq (oVretH) (oAld 0 (oGet 8 5 (oIld 1 (oPick [0, 1] (BX8_stepOnce_88))))))))
set_option maxRecDepth 20000 in
theorem sBX8_stepOnce_77 : Snd XX8_stepOnce fVH 77 (BX8_stepOnce_77) (0) (0) := by
  unfold BX8_stepOnce_77
  refine s_Istn 1 rfl 78 (by decide) dX8_stepOnce_77 rfl ?_
  refine s_Ildn 1 rfl 79 dX8_stepOnce_78 rfl ?_
  refine s_iconst 80 (-1) (by decide) dX8_stepOnce_79 rfl ?_
  refine s_cmpeq 103 83 dX8_stepOnce_80 (by decide) rfl ?_ ?_
  · exact s_vretH rfl dX8_stepOnce_103
  · refine s_Aldn 0 rfl 84 dX8_stepOnce_83 rfl ?_
    refine s_get 8 5 87 clX8 (by decide) tw_317 dX8_stepOnce_84 rfl ?_
    refine s_Ildn 1 rfl 88 dX8_stepOnce_87 rfl ?_
    exact s_pick (sBX8_stepOnce_88)
def BX8_stepOnce_76 : KT HP :=
  oConst (.int (-1)) (oPick [0] (BX8_stepOnce_77))
set_option maxRecDepth 20000 in
theorem sBX8_stepOnce_76 : Snd XX8_stepOnce fVH 76 (BX8_stepOnce_76) (0) (0) := by
  unfold BX8_stepOnce_76
  refine s_iconst 77 (-1) (by decide) dX8_stepOnce_76 rfl ?_
  exact s_pick (sBX8_stepOnce_77)
def BX8_stepOnce_35 : KT HP :=
  oCal 3 (some 8) EX8_enter fVH (oVretH)
set_option maxRecDepth 20000 in
theorem sBX8_stepOnce_35 : Snd XX8_stepOnce fVH 35 (BX8_stepOnce_35) (0) (0) := by
  unfold BX8_stepOnce_35
  refine s_cal0 38 (run_V (X := XX8_stepOnce) rfl clX8 yoX8_enter rfl tw_830 tw_832 tw_p25 (by decide) dX8_stepOnce_35) cmX8_enter (fun _ _ _ => rfl) rfl ?_
  exact s_vretH rfl dX8_stepOnce_38
def BX8_stepOnce_23 (k2 : KT HP) : KT HP :=
  oCal 2 none EX10_isIn fZ (oIfne (oInc 1 1 (oPick [0, 1] k2)) (oAld 0 (oIld 2 (oAld 0 (oGet 8 7 (oPick [] (BX8_stepOnce_35)))))))
set_option maxRecDepth 20000 in
theorem sBX8_stepOnce_23 {k2 : KT HP} (hk2 : Snd XX8_stepOnce fVH 2 k2 0 0) : Snd XX8_stepOnce fVH 23 (BX8_stepOnce_23 k2) (0) (0) := by
  unfold BX8_stepOnce_23
  refine s_cal0 26 (run_SN (X := XX8_stepOnce) yoX10_isIn nw_79 tw_631 (by decide) dX8_stepOnce_23) cmX10_isIn (fun _ _ _ => rfl) rfl ?_
  refine s_ifne 39 29 dX8_stepOnce_26 (by decide) rfl ?_ ?_
  · refine s_inc 1 1 42 (by decide) (by decide) dX8_stepOnce_39 rfl ?_
    refine s_goto 2 dX8_stepOnce_42 (by decide) ?_
    exact s_pick hk2
  · refine s_Aldn 0 rfl 30 dX8_stepOnce_29 rfl ?_
    refine s_Ildn 2 rfl 31 dX8_stepOnce_30 rfl ?_
    refine s_Aldn 0 rfl 32 dX8_stepOnce_31 rfl ?_
    refine s_get 8 7 35 clX8 (by decide) tw_319 dX8_stepOnce_32 rfl ?_
    exact s_pick (sBX8_stepOnce_35)
def BX8_stepOnce_9 (k2 : KT HP) : KT HP :=
  oCal 2 (some 8) EX8_mownTo fI (oIst 2 (oIld 2 (oConst (.int (-1)) (oCmpeq (oInc 1 1 (oPick [0, 1] k2)) (oAld 0 (oGet 8 6 (oIld 2 (oPick [0, 1, 2] (BX8_stepOnce_23 k2)))))))))
set_option maxRecDepth 20000 in
theorem sBX8_stepOnce_9 {k2 : KT HP} (hk2 : Snd XX8_stepOnce fVH 2 k2 0 0) : Snd XX8_stepOnce fVH 9 (BX8_stepOnce_9 k2) (0) (0) := by
  unfold BX8_stepOnce_9
  refine s_cal0 12 (run_V (X := XX8_stepOnce) rfl clX8 yoX8_mownTo rfl tw_849 tw_851 tw_p28 (by decide) dX8_stepOnce_9) cmX8_mownTo (fun _ _ _ => rfl) rfl ?_
  refine s_Istn 2 rfl 13 (by decide) dX8_stepOnce_12 rfl ?_
  refine s_Ildn 2 rfl 14 dX8_stepOnce_13 rfl ?_
  refine s_iconst 15 (-1) (by decide) dX8_stepOnce_14 rfl ?_
  refine s_cmpeq 39 18 dX8_stepOnce_15 (by decide) rfl ?_ ?_
  · refine s_inc 1 1 42 (by decide) (by decide) dX8_stepOnce_39 rfl ?_
    refine s_goto 2 dX8_stepOnce_42 (by decide) ?_
    exact s_pick hk2
  · refine s_Aldn 0 rfl 19 dX8_stepOnce_18 rfl ?_
    refine s_get 8 6 22 clX8 (by decide) tw_318 dX8_stepOnce_19 rfl ?_
    refine s_Ildn 2 rfl 23 dX8_stepOnce_22 rfl ?_
    exact s_pick (sBX8_stepOnce_23 hk2)
def BX8_stepOnce_2 (k2 : KT HP) : KT HP :=
  oIld 1 (oConst (.int 4) (oCmpge (oAld 0 (oGet 8 7 (oIflt (oPick [0] (BX8_stepOnce_76)) (oAld 0 (oGet 8 7 (oAld 0 (oGet 8 1 (oLen (oCmpge (oPick [0] (BX8_stepOnce_76)) (oAld 0 (oGet 8 1 (oAld 0 (oGet 8 7 (oIa (oPick [0] (BX8_stepOnce_77)))))))))))))))) (oAld 0 (oIld 1 (oPick [0, 1] (BX8_stepOnce_9 k2))))))
set_option maxRecDepth 20000 in
theorem sBX8_stepOnce_2 {k2 : KT HP} (hk2 : Snd XX8_stepOnce fVH 2 k2 0 0) : Snd XX8_stepOnce fVH 2 (BX8_stepOnce_2 k2) (0) (0) := by
  unfold BX8_stepOnce_2
  refine s_Ildn 1 rfl 3 dX8_stepOnce_2 rfl ?_
  refine s_iconst 4 4 (by decide) dX8_stepOnce_3 rfl ?_
  refine s_cmpge 45 7 dX8_stepOnce_4 (by decide) rfl ?_ ?_
  · refine s_Aldn 0 rfl 46 dX8_stepOnce_45 rfl ?_
    refine s_get 8 7 49 clX8 (by decide) tw_319 dX8_stepOnce_46 rfl ?_
    refine s_iflt 76 52 dX8_stepOnce_49 (by decide) rfl ?_ ?_
    · exact s_pick (sBX8_stepOnce_76)
    · refine s_Aldn 0 rfl 53 dX8_stepOnce_52 rfl ?_
      refine s_get 8 7 56 clX8 (by decide) tw_319 dX8_stepOnce_53 rfl ?_
      refine s_Aldn 0 rfl 57 dX8_stepOnce_56 rfl ?_
      refine s_get 8 1 60 clX8 (by decide) tw_313 dX8_stepOnce_57 rfl ?_
      refine s_len 61 dX8_stepOnce_60 rfl ?_
      refine s_cmpge 76 64 dX8_stepOnce_61 (by decide) rfl ?_ ?_
      · exact s_pick (sBX8_stepOnce_76)
      · refine s_Aldn 0 rfl 65 dX8_stepOnce_64 rfl ?_
        refine s_get 8 1 68 clX8 (by decide) tw_313 dX8_stepOnce_65 rfl ?_
        refine s_Aldn 0 rfl 69 dX8_stepOnce_68 rfl ?_
        refine s_get 8 7 72 clX8 (by decide) tw_319 dX8_stepOnce_69 rfl ?_
        refine s_Ia 73 dX8_stepOnce_72 rfl ?_
        refine s_goto 77 dX8_stepOnce_73 (by decide) ?_
        exact s_pick (sBX8_stepOnce_77)
  · refine s_Aldn 0 rfl 8 dX8_stepOnce_7 rfl ?_
    refine s_Ildn 1 rfl 9 dX8_stepOnce_8 rfl ?_
    exact s_pick (sBX8_stepOnce_9 hk2)
def BX8_stepOnce_0 : KT HP :=
  oConst (.int 0) (oIst 1 (oPick [0, 1] (lp (BX8_stepOnce_2) FU)))
set_option maxRecDepth 20000 in
theorem sBX8_stepOnce_0 : Snd XX8_stepOnce fVH 0 (BX8_stepOnce_0) (0) (0) := by
  unfold BX8_stepOnce_0
  refine s_iconst 1 0 (by decide) dX8_stepOnce_0 rfl ?_
  refine s_Istn 1 rfl 2 (by decide) dX8_stepOnce_1 rfl ?_
  exact s_pick (s_lp (fun k hk => sBX8_stepOnce_2  hk) FU)
def EX8_stepOnce : List Value → HP → Option HP := en 3 BX8_stepOnce_0
theorem cmX8_stepOnce : CM XX8_stepOnce EX8_stepOnce fVH 0 0 := CM.of rfl (by decide) rfl rfl sBX8_stepOnce_0
theorem yoX8_stepOnce : YO XX8_stepOnce 0 0 0 := ⟨tw_860, rfl, tw_11, (by decide +kernel), rfl, rfl⟩
abbrev XX8_stepToNoise : MX := (yX8_stepToNoise, cX8_stepToNoise, 6, none, Cond.code yX8_stepToNoise cX8_stepToNoise 6 none :: WS, { frames := 2, cells := 0, slots := 0, locals := 45 })
def BX8_stepToNoise_97 : KT HP :=
  oCal 3 (some 8) EX8_enter fVH (oVretH)
set_option maxRecDepth 20000 in
theorem sBX8_stepToNoise_97 : Snd XX8_stepToNoise fVH 97 (BX8_stepToNoise_97) (0) (0) := by
  unfold BX8_stepToNoise_97
  refine s_cal0 100 (run_V (X := XX8_stepToNoise) rfl clX8 yoX8_enter rfl tw_830 tw_832 tw_p25 (by decide) dX8_stepToNoise_97) cmX8_enter (fun _ _ _ => rfl) rfl ?_
  exact s_vretH rfl dX8_stepToNoise_100
def BX8_stepToNoise_61 (k22 : KT HP) : KT HP :=
  oIst 5 (oIld 5 (oIflt (oInc 3 1 (oPick [0, 1, 2, 3] k22)) (oIld 5 (oIld 2 (oCmpge (oInc 3 1 (oPick [0, 1, 2, 3] k22)) (oIld 5 (oIst 2 (oIld 4 (oIst 1 (oInc 3 1 (oPick [0, 1, 2, 3] k22)))))))))))
set_option maxRecDepth 20000 in
theorem sBX8_stepToNoise_61 {k22 : KT HP} (hk22 : Snd XX8_stepToNoise fVH 22 k22 0 0) : Snd XX8_stepToNoise fVH 61 (BX8_stepToNoise_61 k22) (0) (0) := by
  unfold BX8_stepToNoise_61
  refine s_Ist 5 63 (by decide) dX8_stepToNoise_61 rfl ?_
  refine s_Ild 5 65 dX8_stepToNoise_63 rfl ?_
  refine s_iflt 80 68 dX8_stepToNoise_65 (by decide) rfl ?_ ?_
  · refine s_inc 3 1 83 (by decide) (by decide) dX8_stepToNoise_80 rfl ?_
    refine s_goto 22 dX8_stepToNoise_83 (by decide) ?_
    exact s_pick hk22
  · refine s_Ild 5 70 dX8_stepToNoise_68 rfl ?_
    refine s_Ildn 2 rfl 71 dX8_stepToNoise_70 rfl ?_
    refine s_cmpge 80 74 dX8_stepToNoise_71 (by decide) rfl ?_ ?_
    · refine s_inc 3 1 83 (by decide) (by decide) dX8_stepToNoise_80 rfl ?_
      refine s_goto 22 dX8_stepToNoise_83 (by decide) ?_
      exact s_pick hk22
    · refine s_Ild 5 76 dX8_stepToNoise_74 rfl ?_
      refine s_Istn 2 rfl 77 (by decide) dX8_stepToNoise_76 rfl ?_
      refine s_Ild 4 79 dX8_stepToNoise_77 rfl ?_
      refine s_Istn 1 rfl 80 (by decide) dX8_stepToNoise_79 rfl ?_
      refine s_inc 3 1 83 (by decide) (by decide) dX8_stepToNoise_80 rfl ?_
      refine s_goto 22 dX8_stepToNoise_83 (by decide) ?_
      exact s_pick hk22
def BX8_stepToNoise_59 (k22 : KT HP) : KT HP :=
  oConst (.int (-2)) (oPick [0, 1, 2, 3, 4] (BX8_stepToNoise_61 k22))
set_option maxRecDepth 20000 in
theorem sBX8_stepToNoise_59 {k22 : KT HP} (hk22 : Snd XX8_stepToNoise fVH 22 k22 0 0) : Snd XX8_stepToNoise fVH 59 (BX8_stepToNoise_59 k22) (0) (0) := by
  unfold BX8_stepToNoise_59
  refine s_bipush 61 (-2) (by decide) dX8_stepToNoise_59 rfl ?_
  exact s_pick (sBX8_stepToNoise_61 hk22)
def BX8_stepToNoise_29 (k22 : KT HP) : KT HP :=
  oCal 2 (some 8) EX8_mownTo fI (oIst 4 (oIld 4 (oIflt (oPick [0, 1, 2, 3, 4] (BX8_stepToNoise_59 k22)) (oIld 4 (oAld 0 (oGet 8 2 (oLen (oCmpge (oPick [0, 1, 2, 3, 4] (BX8_stepToNoise_59 k22)) (oAld 0 (oGet 8 2 (oIld 4 (oIa (oPick [0, 1, 2, 3, 4] (BX8_stepToNoise_61 k22))))))))))))))
set_option maxRecDepth 20000 in
theorem sBX8_stepToNoise_29 {k22 : KT HP} (hk22 : Snd XX8_stepToNoise fVH 22 k22 0 0) : Snd XX8_stepToNoise fVH 29 (BX8_stepToNoise_29 k22) (0) (0) := by
  unfold BX8_stepToNoise_29
  refine s_cal0 32 (run_V (X := XX8_stepToNoise) rfl clX8 yoX8_mownTo rfl tw_849 tw_851 tw_p28 (by decide) dX8_stepToNoise_29) cmX8_mownTo (fun _ _ _ => rfl) rfl ?_
  refine s_Ist 4 34 (by decide) dX8_stepToNoise_32 rfl ?_
  refine s_Ild 4 36 dX8_stepToNoise_34 rfl ?_
  refine s_iflt 59 39 dX8_stepToNoise_36 (by decide) rfl ?_ ?_
  · exact s_pick (sBX8_stepToNoise_59 hk22)
  · refine s_Ild 4 41 dX8_stepToNoise_39 rfl ?_
    refine s_Aldn 0 rfl 42 dX8_stepToNoise_41 rfl ?_
    refine s_get 8 2 45 clX8 (by decide) tw_314 dX8_stepToNoise_42 rfl ?_
    refine s_len 46 dX8_stepToNoise_45 rfl ?_
    refine s_cmpge 59 49 dX8_stepToNoise_46 (by decide) rfl ?_ ?_
    · exact s_pick (sBX8_stepToNoise_59 hk22)
    · refine s_Aldn 0 rfl 50 dX8_stepToNoise_49 rfl ?_
      refine s_get 8 2 53 clX8 (by decide) tw_314 dX8_stepToNoise_50 rfl ?_
      refine s_Ild 4 55 dX8_stepToNoise_53 rfl ?_
      refine s_Ia 56 dX8_stepToNoise_55 rfl ?_
      refine s_goto 61 dX8_stepToNoise_56 (by decide) ?_
      exact s_pick (sBX8_stepToNoise_61 hk22)
def BX8_stepToNoise_22 (k22 : KT HP) : KT HP :=
  oIld 3 (oConst (.int 4) (oCmpge (oIld 1 (oConst (.int (-1)) (oCmpeq (oVretH) (oAld 0 (oIld 1 (oAld 0 (oGet 8 7 (oPick [] (BX8_stepToNoise_97))))))))) (oAld 0 (oIld 3 (oPick [0, 1, 2, 3] (BX8_stepToNoise_29 k22))))))
set_option maxRecDepth 20000 in
theorem sBX8_stepToNoise_22 {k22 : KT HP} (hk22 : Snd XX8_stepToNoise fVH 22 k22 0 0) : Snd XX8_stepToNoise fVH 22 (BX8_stepToNoise_22 k22) (0) (0) := by
  unfold BX8_stepToNoise_22
  refine s_Ildn 3 rfl 23 dX8_stepToNoise_22 rfl ?_
  refine s_iconst 24 4 (by decide) dX8_stepToNoise_23 rfl ?_
  refine s_cmpge 86 27 dX8_stepToNoise_24 (by decide) rfl ?_ ?_
  · refine s_Ildn 1 rfl 87 dX8_stepToNoise_86 rfl ?_
    refine s_iconst 88 (-1) (by decide) dX8_stepToNoise_87 rfl ?_
    refine s_cmpeq 100 91 dX8_stepToNoise_88 (by decide) rfl ?_ ?_
    · exact s_vretH rfl dX8_stepToNoise_100
    · refine s_Aldn 0 rfl 92 dX8_stepToNoise_91 rfl ?_
      refine s_Ildn 1 rfl 93 dX8_stepToNoise_92 rfl ?_
      refine s_Aldn 0 rfl 94 dX8_stepToNoise_93 rfl ?_
      refine s_get 8 7 97 clX8 (by decide) tw_319 dX8_stepToNoise_94 rfl ?_
      exact s_pick (sBX8_stepToNoise_97)
  · refine s_Aldn 0 rfl 28 dX8_stepToNoise_27 rfl ?_
    refine s_Ildn 3 rfl 29 dX8_stepToNoise_28 rfl ?_
    exact s_pick (sBX8_stepToNoise_29 hk22)
def BX8_stepToNoise_0 : KT HP :=
  oAld 0 (oGet 8 7 (oAld 0 (oGet 8 3 (oGet 3 13 (oCmpne (oConst (.int (-1)) (oIst 1 (oConst (.int 48) (oIst 2 (oConst (.int 0) (oIst 3 (oPick [0, 1, 2, 3] (lp (BX8_stepToNoise_22) FU)))))))) (oVretH))))))
set_option maxRecDepth 20000 in
theorem sBX8_stepToNoise_0 : Snd XX8_stepToNoise fVH 0 (BX8_stepToNoise_0) (0) (0) := by
  unfold BX8_stepToNoise_0
  refine s_Aldn 0 rfl 1 dX8_stepToNoise_0 rfl ?_
  refine s_get 8 7 4 clX8 (by decide) tw_319 dX8_stepToNoise_1 rfl ?_
  refine s_Aldn 0 rfl 5 dX8_stepToNoise_4 rfl ?_
  refine s_get 8 3 8 clX8 (by decide) tw_315 dX8_stepToNoise_5 rfl ?_
  refine s_getN 3 13 11 clX3 (by decide) nw_38 dX8_stepToNoise_8 rfl ?_
  refine s_cmpne 15 14 dX8_stepToNoise_11 (by decide) rfl ?_ ?_
  · refine s_iconst 16 (-1) (by decide) dX8_stepToNoise_15 rfl ?_
    refine s_Istn 1 rfl 17 (by decide) dX8_stepToNoise_16 rfl ?_
    refine s_bipush 19 48 (by decide) dX8_stepToNoise_17 rfl ?_
    refine s_Istn 2 rfl 20 (by decide) dX8_stepToNoise_19 rfl ?_
    refine s_iconst 21 0 (by decide) dX8_stepToNoise_20 rfl ?_
    refine s_Istn 3 rfl 22 (by decide) dX8_stepToNoise_21 rfl ?_
    exact s_pick (s_lp (fun k hk => sBX8_stepToNoise_22  hk) FU)
  · exact s_vretH rfl dX8_stepToNoise_14
def EX8_stepToNoise : List Value → HP → Option HP := en 6 BX8_stepToNoise_0
theorem cmX8_stepToNoise : CM XX8_stepToNoise EX8_stepToNoise fVH 0 0 := CM.of rfl (by decide) rfl rfl sBX8_stepToNoise_0
theorem yoX8_stepToNoise : YO XX8_stepToNoise 0 0 0 := ⟨tw_864, rfl, tw_11, (by decide +kernel), rfl, rfl⟩
abbrev XX8_stepByLot : MX := (yX8_stepByLot, cX8_stepByLot, 5, none, Cond.code yX8_stepByLot cX8_stepByLot 5 none :: WS, { frames := 2, cells := 0, slots := 0, locals := 49 })
def BX8_stepByLot_73 : KT HP :=
  oCal 3 (some 8) EX8_enter fVH (oVretH)
set_option maxRecDepth 20000 in
theorem sBX8_stepByLot_73 : Snd XX8_stepByLot fVH 73 (BX8_stepByLot_73) (0) (0) := by
  unfold BX8_stepByLot_73
  refine s_cal0 76 (run_V (X := XX8_stepByLot) rfl clX8 yoX8_enter rfl tw_830 tw_832 tw_p25 (by decide) dX8_stepByLot_73) cmX8_enter (fun _ _ _ => rfl) rfl ?_
  exact s_vretH rfl dX8_stepByLot_76
def BX8_stepByLot_51 (k44 : KT HP) : KT HP :=
  oCal 2 (some 8) EX8_mownTo fI (oIst 4 (oIld 4 (oConst (.int (-1)) (oCmpeq (oInc 3 1 (oPick [0, 2, 3] k44)) (oIld 2 (oIfne (oInc 2 (-1) (oInc 3 1 (oPick [0, 2, 3] k44))) (oAld 0 (oIld 4 (oAld 0 (oGet 8 7 (oPick [] (BX8_stepByLot_73))))))))))))
set_option maxRecDepth 20000 in
theorem sBX8_stepByLot_51 {k44 : KT HP} (hk44 : Snd XX8_stepByLot fVH 44 k44 0 0) : Snd XX8_stepByLot fVH 51 (BX8_stepByLot_51 k44) (0) (0) := by
  unfold BX8_stepByLot_51
  refine s_cal0 54 (run_V (X := XX8_stepByLot) rfl clX8 yoX8_mownTo rfl tw_849 tw_851 tw_p28 (by decide) dX8_stepByLot_51) cmX8_mownTo (fun _ _ _ => rfl) rfl ?_
  refine s_Ist 4 56 (by decide) dX8_stepByLot_54 rfl ?_
  refine s_Ild 4 58 dX8_stepByLot_56 rfl ?_
  refine s_iconst 59 (-1) (by decide) dX8_stepByLot_58 rfl ?_
  refine s_cmpeq 80 62 dX8_stepByLot_59 (by decide) rfl ?_ ?_
  · refine s_inc 3 1 83 (by decide) (by decide) dX8_stepByLot_80 rfl ?_
    refine s_goto 44 dX8_stepByLot_83 (by decide) ?_
    exact s_pick hk44
  · refine s_Ildn 2 rfl 63 dX8_stepByLot_62 rfl ?_
    refine s_ifne 77 66 dX8_stepByLot_63 (by decide) rfl ?_ ?_
    · refine s_inc 2 (-1) 80 (by decide) (by decide) dX8_stepByLot_77 rfl ?_
      refine s_inc 3 1 83 (by decide) (by decide) dX8_stepByLot_80 rfl ?_
      refine s_goto 44 dX8_stepByLot_83 (by decide) ?_
      exact s_pick hk44
    · refine s_Aldn 0 rfl 67 dX8_stepByLot_66 rfl ?_
      refine s_Ild 4 69 dX8_stepByLot_67 rfl ?_
      refine s_Aldn 0 rfl 70 dX8_stepByLot_69 rfl ?_
      refine s_get 8 7 73 clX8 (by decide) tw_319 dX8_stepByLot_70 rfl ?_
      exact s_pick (sBX8_stepByLot_73)
def BX8_stepByLot_44 (k44 : KT HP) : KT HP :=
  oIld 3 (oConst (.int 4) (oCmpge (oVretH) (oAld 0 (oIld 3 (oPick [0, 2, 3] (BX8_stepByLot_51 k44))))))
set_option maxRecDepth 20000 in
theorem sBX8_stepByLot_44 {k44 : KT HP} (hk44 : Snd XX8_stepByLot fVH 44 k44 0 0) : Snd XX8_stepByLot fVH 44 (BX8_stepByLot_44 k44) (0) (0) := by
  unfold BX8_stepByLot_44
  refine s_Ildn 3 rfl 45 dX8_stepByLot_44 rfl ?_
  refine s_iconst 46 4 (by decide) dX8_stepByLot_45 rfl ?_
  refine s_cmpge 86 49 dX8_stepByLot_46 (by decide) rfl ?_ ?_
  · exact s_vretH rfl dX8_stepByLot_86
  · refine s_Aldn 0 rfl 50 dX8_stepByLot_49 rfl ?_
    refine s_Ildn 3 rfl 51 dX8_stepByLot_50 rfl ?_
    exact s_pick (sBX8_stepByLot_51 hk44)
def BX8_stepByLot_0 : KT HP :=
  oAld 0 (oGet 8 3 (oGet 3 0 (oAld 0 (oGet 8 5 (oAld 0 (oGet 8 7 (oCal 3 (some 0) EX0_countBeside fI (oIst 1 (oIld 1 (oIfne (oAld 0 (oAld 0 (oGet 8 9 (oCal 1 none EX10_draw fI (oPut 8 9 .int (oAld 0 (oGet 8 9 (oIld 1 (oirem (oIst 2 (oConst (.int 0) (oIst 3 (oPick [0, 2, 3] (lp (BX8_stepByLot_44) FU)))))))))))))) (oVretH)))))))))))
set_option maxRecDepth 20000 in
theorem sBX8_stepByLot_0 : Snd XX8_stepByLot fVH 0 (BX8_stepByLot_0) (0) (0) := by
  unfold BX8_stepByLot_0
  refine s_Aldn 0 rfl 1 dX8_stepByLot_0 rfl ?_
  refine s_get 8 3 4 clX8 (by decide) tw_315 dX8_stepByLot_1 rfl ?_
  refine s_getN 3 0 7 clX3 (by decide) nw_21 dX8_stepByLot_4 rfl ?_
  refine s_Aldn 0 rfl 8 dX8_stepByLot_7 rfl ?_
  refine s_get 8 5 11 clX8 (by decide) tw_317 dX8_stepByLot_8 rfl ?_
  refine s_Aldn 0 rfl 12 dX8_stepByLot_11 rfl ?_
  refine s_get 8 7 15 clX8 (by decide) tw_319 dX8_stepByLot_12 rfl ?_
  refine s_cal0 18 (run_V (X := XX8_stepByLot) rfl clX0 yoX0_countBeside rfl tw_869 tw_734 tw_735 (by decide) dX8_stepByLot_15) cmX0_countBeside (fun _ _ _ => rfl) rfl ?_
  refine s_Istn 1 rfl 19 (by decide) dX8_stepByLot_18 rfl ?_
  refine s_Ildn 1 rfl 20 dX8_stepByLot_19 rfl ?_
  refine s_ifne 24 23 dX8_stepByLot_20 (by decide) rfl ?_ ?_
  · refine s_Aldn 0 rfl 25 dX8_stepByLot_24 rfl ?_
    refine s_Aldn 0 rfl 26 dX8_stepByLot_25 rfl ?_
    refine s_get 8 9 29 clX8 (by decide) tw_321 dX8_stepByLot_26 rfl ?_
    refine s_cal0 32 (run_SN (X := XX8_stepByLot) yoX10_draw nw_81 tw_871 (by decide) dX8_stepByLot_29) cmX10_draw (fun _ _ _ => rfl) rfl ?_
    refine s_put 8 9 35 clX8 (by decide) rfl rfl pVH tw_321 dX8_stepByLot_32 rfl ?_
    refine s_Aldn 0 rfl 36 dX8_stepByLot_35 rfl ?_
    refine s_get 8 9 39 clX8 (by decide) tw_321 dX8_stepByLot_36 rfl ?_
    refine s_Ildn 1 rfl 40 dX8_stepByLot_39 rfl ?_
    refine s_irem 41 dX8_stepByLot_40 rfl ?_
    refine s_Istn 2 rfl 42 (by decide) dX8_stepByLot_41 rfl ?_
    refine s_iconst 43 0 (by decide) dX8_stepByLot_42 rfl ?_
    refine s_Istn 3 rfl 44 (by decide) dX8_stepByLot_43 rfl ?_
    exact s_pick (s_lp (fun k hk => sBX8_stepByLot_44  hk) FU)
  · exact s_vretH rfl dX8_stepByLot_23
def EX8_stepByLot : List Value → HP → Option HP := en 5 BX8_stepByLot_0
theorem cmX8_stepByLot : CM XX8_stepByLot EX8_stepByLot fVH 0 0 := CM.of rfl (by decide) rfl rfl sBX8_stepByLot_0
theorem yoX8_stepByLot : YO XX8_stepByLot 0 0 0 := ⟨tw_868, rfl, tw_11, (by decide +kernel), rfl, rfl⟩
abbrev XX8_step : MX := (yX8_step, cX8_step, 1, none, Cond.code yX8_step cX8_step 1 none :: WS, { frames := 3, cells := 0, slots := 0, locals := 73 })
def BX8_step_79 : KT HP :=
  oCal 1 (some 8) EX8_stepByLot fVH (oVretH)
set_option maxRecDepth 20000 in
theorem sBX8_step_79 : Snd XX8_step fVH 79 (BX8_step_79) (0) (0) := by
  unfold BX8_step_79
  refine s_cal0 82 (run_V (X := XX8_step) rfl clX8 yoX8_stepByLot rfl tw_865 tw_867 tw_p31 (by decide) dX8_step_79) cmX8_stepByLot (fun _ _ _ => rfl) rfl ?_
  exact s_vretH rfl dX8_step_82
def BX8_step_72 : KT HP :=
  oCal 1 (some 8) EX8_stepToNoise fVH (oVretH)
set_option maxRecDepth 20000 in
theorem sBX8_step_72 : Snd XX8_step fVH 72 (BX8_step_72) (0) (0) := by
  unfold BX8_step_72
  refine s_cal0 75 (run_V (X := XX8_step) rfl clX8 yoX8_stepToNoise rfl tw_861 tw_863 tw_p30 (by decide) dX8_step_72) cmX8_stepToNoise (fun _ _ _ => rfl) rfl ?_
  refine s_goto 82 dX8_step_75 (by decide) ?_
  exact s_vretH rfl dX8_step_82
def BX8_step_65 : KT HP :=
  oCal 1 (some 8) EX8_stepOnce fVH (oVretH)
set_option maxRecDepth 20000 in
theorem sBX8_step_65 : Snd XX8_step fVH 65 (BX8_step_65) (0) (0) := by
  unfold BX8_step_65
  refine s_cal0 68 (run_V (X := XX8_step) rfl clX8 yoX8_stepOnce rfl tw_857 tw_859 tw_p29 (by decide) dX8_step_65) cmX8_stepOnce (fun _ _ _ => rfl) rfl ?_
  refine s_goto 82 dX8_step_68 (by decide) ?_
  exact s_vretH rfl dX8_step_82
def BX8_step_58 : KT HP :=
  oCal 3 (some 8) EX8_stepTurning fVH (oVretH)
set_option maxRecDepth 20000 in
theorem sBX8_step_58 : Snd XX8_step fVH 58 (BX8_step_58) (0) (0) := by
  unfold BX8_step_58
  refine s_cal0 61 (run_V (X := XX8_step) rfl clX8 yoX8_stepTurning rfl tw_845 tw_847 tw_p27 (by decide) dX8_step_58) cmX8_stepTurning (fun _ _ _ => rfl) rfl ?_
  refine s_goto 82 dX8_step_61 (by decide) ?_
  exact s_vretH rfl dX8_step_82
def BX8_step_44 : KT HP :=
  oCal 3 (some 8) EX8_stepTurning fVH (oVretH)
set_option maxRecDepth 20000 in
theorem sBX8_step_44 : Snd XX8_step fVH 44 (BX8_step_44) (0) (0) := by
  unfold BX8_step_44
  refine s_cal0 47 (run_V (X := XX8_step) rfl clX8 yoX8_stepTurning rfl tw_845 tw_847 tw_p27 (by decide) dX8_step_44) cmX8_stepTurning (fun _ _ _ => rfl) rfl ?_
  refine s_goto 82 dX8_step_47 (by decide) ?_
  exact s_vretH rfl dX8_step_82
def BX8_step_0 : KT HP :=
  oAld 0 (oGet 8 4 (oGet 9 1 (oTab 0 [(oAld 0 (oAld 0 (oGet 8 8 (oConst (.int 3) (oiadd (oConst (.int 1) (oPick [] (BX8_step_44)))))))), (oAld 0 (oAld 0 (oGet 8 8 (oConst (.int 5) (oiadd (oConst (.int (-1)) (oPick [] (BX8_step_58)))))))), (oAld 0 (oPick [] (BX8_step_65))), (oAld 0 (oPick [] (BX8_step_72)))] (oAld 0 (oPick [] (BX8_step_79))))))
set_option maxRecDepth 20000 in
theorem sBX8_step_0 : Snd XX8_step fVH 0 (BX8_step_0) (0) (0) := by
  unfold BX8_step_0
  refine s_Aldn 0 rfl 1 dX8_step_0 rfl ?_
  refine s_get 8 4 4 clX8 (by decide) tw_316 dX8_step_1 rfl ?_
  refine s_getN 9 1 7 clX9 (by decide) nw_12 dX8_step_4 rfl ?_
  refine s_tab 0 3 0 [36, 50, 64, 71] 78 dX8_step_7 rfl (by decide) (by decide) (by decide) (by decide) (by decide) ?_ ?_
  · refine s_Aldn 0 rfl 79 dX8_step_78 rfl ?_
    exact s_pick (sBX8_step_79)
  · refine Sall_cons ?_ ?_
    · refine s_Aldn 0 rfl 37 dX8_step_36 rfl ?_
      refine s_Aldn 0 rfl 38 dX8_step_37 rfl ?_
      refine s_get 8 8 41 clX8 (by decide) tw_320 dX8_step_38 rfl ?_
      refine s_iconst 42 3 (by decide) dX8_step_41 rfl ?_
      refine s_iadd 43 dX8_step_42 rfl ?_
      refine s_iconst 44 1 (by decide) dX8_step_43 rfl ?_
      exact s_pick (sBX8_step_44)
    · refine Sall_cons ?_ ?_
      · refine s_Aldn 0 rfl 51 dX8_step_50 rfl ?_
        refine s_Aldn 0 rfl 52 dX8_step_51 rfl ?_
        refine s_get 8 8 55 clX8 (by decide) tw_320 dX8_step_52 rfl ?_
        refine s_iconst 56 5 (by decide) dX8_step_55 rfl ?_
        refine s_iadd 57 dX8_step_56 rfl ?_
        refine s_iconst 58 (-1) (by decide) dX8_step_57 rfl ?_
        exact s_pick (sBX8_step_58)
      · refine Sall_cons ?_ ?_
        · refine s_Aldn 0 rfl 65 dX8_step_64 rfl ?_
          exact s_pick (sBX8_step_65)
        · refine Sall_cons ?_ ?_
          · refine s_Aldn 0 rfl 72 dX8_step_71 rfl ?_
            exact s_pick (sBX8_step_72)
          · exact Sall_nil
def EX8_step : List Value → HP → Option HP := en 1 BX8_step_0
theorem cmX8_step : CM XX8_step EX8_step fVH 0 0 := CM.of rfl (by decide) rfl rfl sBX8_step_0
theorem yoX8_step : YO XX8_step 0 0 0 := ⟨tw_844, rfl, tw_11, (by decide +kernel), rfl, rfl⟩
abbrev XX8_isAtGate : MX := (yX8_isAtGate, cX8_isAtGate, 1, (Option.some .boolean), Cond.code yX8_isAtGate cX8_isAtGate 1 (Option.some .boolean) :: WS, { frames := 1, cells := 0, slots := 0, locals := 22 })
def BX8_isAtGate_11 : KT Bool :=
  oCal 2 none EX10_isIn fZ (oZretP)
set_option maxRecDepth 20000 in
theorem sBX8_isAtGate_11 : Snd XX8_isAtGate fZ 11 (BX8_isAtGate_11) (0) (0) := by
  unfold BX8_isAtGate_11
  refine s_cal0 14 (run_SN (X := XX8_isAtGate) yoX10_isIn nw_79 tw_631 (by decide) dX8_isAtGate_11) cmX10_isIn (fun _ _ _ => rfl) rfl ?_
  exact s_zretP rfl dX8_isAtGate_14
def BX8_isAtGate_0 : KT Bool :=
  oAld 0 (oGet 8 3 (oGet 3 12 (oAld 0 (oGet 8 7 (oPick [] (BX8_isAtGate_11))))))
set_option maxRecDepth 20000 in
theorem sBX8_isAtGate_0 : Snd XX8_isAtGate fZ 0 (BX8_isAtGate_0) (0) (0) := by
  unfold BX8_isAtGate_0
  refine s_Aldn 0 rfl 1 dX8_isAtGate_0 rfl ?_
  refine s_get 8 3 4 clX8 (by decide) tw_315 dX8_isAtGate_1 rfl ?_
  refine s_getN 3 12 7 clX3 (by decide) nw_36 dX8_isAtGate_4 rfl ?_
  refine s_Aldn 0 rfl 8 dX8_isAtGate_7 rfl ?_
  refine s_get 8 7 11 clX8 (by decide) tw_319 dX8_isAtGate_8 rfl ?_
  exact s_pick (sBX8_isAtGate_11)
def EX8_isAtGate : List Value → HP → Option Bool := en 1 BX8_isAtGate_0
theorem cmX8_isAtGate : CM XX8_isAtGate EX8_isAtGate fZ 0 0 := CM.of rfl (by decide) rfl rfl sBX8_isAtGate_0
theorem yoX8_isAtGate : YO XX8_isAtGate 0 0 0 := ⟨tw_877, rfl, tw_11, (by decide +kernel), rfl, rfl⟩
abbrev XX8_goTillDusk : MX := (yX8_goTillDusk, cX8_goTillDusk, 7, none, Cond.code yX8_goTillDusk cX8_goTillDusk 7 none :: WS, { frames := 4, cells := 0, slots := 0, locals := 93 })
def BX8_goTillDusk_101 (k30 : KT HP) : KT HP :=
  oCal 1 (some 8) EX8_isAtGate fZ (oIfeq (oConst (.int (-2)) (oPut 8 10 .int (oInc 6 1 (oPick [0, 6] k30)))) (oIld 6 (oPut 8 10 .int (oInc 6 1 (oPick [0, 6] k30)))))
set_option maxRecDepth 20000 in
theorem sBX8_goTillDusk_101 {k30 : KT HP} (hk30 : Snd XX8_goTillDusk fVH 30 k30 0 0) : Snd XX8_goTillDusk fVH 101 (BX8_goTillDusk_101 k30) (0) (0) := by
  unfold BX8_goTillDusk_101
  refine s_cal0 104 (run_V (X := XX8_goTillDusk) rfl clX8 yoX8_isAtGate rfl tw_874 tw_876 tw_p32 (by decide) dX8_goTillDusk_101) cmX8_isAtGate (fun _ _ _ => rfl) rfl ?_
  refine s_ifeq 112 107 dX8_goTillDusk_104 (by decide) rfl ?_ ?_
  · refine s_bipush 114 (-2) (by decide) dX8_goTillDusk_112 rfl ?_
    refine s_put 8 10 117 clX8 (by decide) rfl rfl pVH tw_322 dX8_goTillDusk_114 rfl ?_
    refine s_inc 6 1 120 (by decide) (by decide) dX8_goTillDusk_117 rfl ?_
    refine s_goto 30 dX8_goTillDusk_120 (by decide) ?_
    exact s_pick hk30
  · refine s_Ild 6 109 dX8_goTillDusk_107 rfl ?_
    refine s_goto 114 dX8_goTillDusk_109 (by decide) ?_
    refine s_put 8 10 117 clX8 (by decide) rfl rfl pVH tw_322 dX8_goTillDusk_114 rfl ?_
    refine s_inc 6 1 120 (by decide) (by decide) dX8_goTillDusk_117 rfl ?_
    refine s_goto 30 dX8_goTillDusk_120 (by decide) ?_
    exact s_pick hk30
def BX8_goTillDusk_93 (k30 : KT HP) : KT HP :=
  oAld 0 (oIld 6 (oPut 8 11 .int (oAld 0 (oAld 0 (oPick [0, 6] (BX8_goTillDusk_101 k30))))))
set_option maxRecDepth 20000 in
theorem sBX8_goTillDusk_93 {k30 : KT HP} (hk30 : Snd XX8_goTillDusk fVH 30 k30 0 0) : Snd XX8_goTillDusk fVH 93 (BX8_goTillDusk_93 k30) (0) (0) := by
  unfold BX8_goTillDusk_93
  refine s_Aldn 0 rfl 94 dX8_goTillDusk_93 rfl ?_
  refine s_Ild 6 96 dX8_goTillDusk_94 rfl ?_
  refine s_put 8 11 99 clX8 (by decide) rfl rfl pVH tw_323 dX8_goTillDusk_96 rfl ?_
  refine s_Aldn 0 rfl 100 dX8_goTillDusk_99 rfl ?_
  refine s_Aldn 0 rfl 101 dX8_goTillDusk_100 rfl ?_
  exact s_pick (sBX8_goTillDusk_101 hk30)
def BX8_goTillDusk_67 (k30 : KT HP) : KT HP :=
  oIld 6 (oIflt (oPick [0, 6] (BX8_goTillDusk_93 k30)) (oIld 6 (oAld 0 (oGet 8 0 (oLen (oCmpge (oPick [0, 6] (BX8_goTillDusk_93 k30)) (oAld 0 (oGet 8 0 (oIld 6 (oAld 0 (oGet 8 7 (oIw (oPick [0, 6] (BX8_goTillDusk_93 k30))))))))))))))
set_option maxRecDepth 20000 in
theorem sBX8_goTillDusk_67 {k30 : KT HP} (hk30 : Snd XX8_goTillDusk fVH 30 k30 0 0) : Snd XX8_goTillDusk fVH 67 (BX8_goTillDusk_67 k30) (0) (0) := by
  unfold BX8_goTillDusk_67
  refine s_Ild 6 69 dX8_goTillDusk_67 rfl ?_
  refine s_iflt 93 72 dX8_goTillDusk_69 (by decide) rfl ?_ ?_
  · exact s_pick (sBX8_goTillDusk_93 hk30)
  · refine s_Ild 6 74 dX8_goTillDusk_72 rfl ?_
    refine s_Aldn 0 rfl 75 dX8_goTillDusk_74 rfl ?_
    refine s_get 8 0 78 clX8 (by decide) tw_312 dX8_goTillDusk_75 rfl ?_
    refine s_len 79 dX8_goTillDusk_78 rfl ?_
    refine s_cmpge 93 82 dX8_goTillDusk_79 (by decide) rfl ?_ ?_
    · exact s_pick (sBX8_goTillDusk_93 hk30)
    · refine s_Aldn 0 rfl 83 dX8_goTillDusk_82 rfl ?_
      refine s_get 8 0 86 clX8 (by decide) tw_312 dX8_goTillDusk_83 rfl ?_
      refine s_Ild 6 88 dX8_goTillDusk_86 rfl ?_
      refine s_Aldn 0 rfl 89 dX8_goTillDusk_88 rfl ?_
      refine s_get 8 7 92 clX8 (by decide) tw_319 dX8_goTillDusk_89 rfl ?_
      refine s_Iw 93 pVH dX8_goTillDusk_92 rfl ?_
      exact s_pick (sBX8_goTillDusk_93 hk30)
def BX8_goTillDusk_64 (k30 : KT HP) : KT HP :=
  oCal 1 (some 8) EX8_step fVH (oPick [0, 6] (BX8_goTillDusk_67 k30))
set_option maxRecDepth 20000 in
theorem sBX8_goTillDusk_64 {k30 : KT HP} (hk30 : Snd XX8_goTillDusk fVH 30 k30 0 0) : Snd XX8_goTillDusk fVH 64 (BX8_goTillDusk_64 k30) (0) (0) := by
  unfold BX8_goTillDusk_64
  refine s_cal0 67 (run_V (X := XX8_goTillDusk) rfl clX8 yoX8_step rfl tw_841 tw_843 tw_p26 (by decide) dX8_goTillDusk_64) cmX8_step (fun _ _ _ => rfl) rfl ?_
  exact s_pick (sBX8_goTillDusk_67 hk30)
def BX8_goTillDusk_30 (k30 : KT HP) : KT HP :=
  oIld 6 (oAld 0 (oGet 8 3 (oGet 3 8 (oCmpgt (oVretH) (oAld 0 (oGet 8 10 (oConst (.int (-2)) (oCmpne (oVretH) (oIld 6 (oAld 0 (oGet 8 4 (oGet 9 4 (oCmple (oPick [0, 6] (BX8_goTillDusk_67 k30)) (oAld 0 (oPick [0, 6] (BX8_goTillDusk_64 k30))))))))))))))))
set_option maxRecDepth 20000 in
theorem sBX8_goTillDusk_30 {k30 : KT HP} (hk30 : Snd XX8_goTillDusk fVH 30 k30 0 0) : Snd XX8_goTillDusk fVH 30 (BX8_goTillDusk_30 k30) (0) (0) := by
  unfold BX8_goTillDusk_30
  refine s_Ild 6 32 dX8_goTillDusk_30 rfl ?_
  refine s_Aldn 0 rfl 33 dX8_goTillDusk_32 rfl ?_
  refine s_get 8 3 36 clX8 (by decide) tw_315 dX8_goTillDusk_33 rfl ?_
  refine s_getN 3 8 39 clX3 (by decide) nw_30 dX8_goTillDusk_36 rfl ?_
  refine s_cmpgt 123 42 dX8_goTillDusk_39 (by decide) rfl ?_ ?_
  · exact s_vretH rfl dX8_goTillDusk_123
  · refine s_Aldn 0 rfl 43 dX8_goTillDusk_42 rfl ?_
    refine s_get 8 10 46 clX8 (by decide) tw_322 dX8_goTillDusk_43 rfl ?_
    refine s_bipush 48 (-2) (by decide) dX8_goTillDusk_46 rfl ?_
    refine s_cmpne 123 51 dX8_goTillDusk_48 (by decide) rfl ?_ ?_
    · exact s_vretH rfl dX8_goTillDusk_123
    · refine s_Ild 6 53 dX8_goTillDusk_51 rfl ?_
      refine s_Aldn 0 rfl 54 dX8_goTillDusk_53 rfl ?_
      refine s_get 8 4 57 clX8 (by decide) tw_316 dX8_goTillDusk_54 rfl ?_
      refine s_getN 9 4 60 clX9 (by decide) nw_19 dX8_goTillDusk_57 rfl ?_
      refine s_cmple 67 63 dX8_goTillDusk_60 (by decide) rfl ?_ ?_
      · exact s_pick (sBX8_goTillDusk_67 hk30)
      · refine s_Aldn 0 rfl 64 dX8_goTillDusk_63 rfl ?_
        exact s_pick (sBX8_goTillDusk_64 hk30)
def BX8_goTillDusk_6 : KT HP :=
  oCal 5 (some 8) EX8_begin fVH (oAld 0 (oConst (.int (-2)) (oPut 8 10 .int (oAld 0 (oConst (.int (-2)) (oPut 8 11 .int (oAld 0 (oGet 8 4 (oGet 9 4 (oIst 6 (oPick [0, 6] (lp (BX8_goTillDusk_30) FU))))))))))))
set_option maxRecDepth 20000 in
theorem sBX8_goTillDusk_6 : Snd XX8_goTillDusk fVH 6 (BX8_goTillDusk_6) (0) (0) := by
  unfold BX8_goTillDusk_6
  refine s_cal0 9 (run_V (X := XX8_goTillDusk) rfl clX8 yoX8_begin rfl tw_825 tw_826 tw_827 (by decide) dX8_goTillDusk_6) cmX8_begin (fun _ _ _ => rfl) rfl ?_
  refine s_Aldn 0 rfl 10 dX8_goTillDusk_9 rfl ?_
  refine s_bipush 12 (-2) (by decide) dX8_goTillDusk_10 rfl ?_
  refine s_put 8 10 15 clX8 (by decide) rfl rfl pVH tw_322 dX8_goTillDusk_12 rfl ?_
  refine s_Aldn 0 rfl 16 dX8_goTillDusk_15 rfl ?_
  refine s_bipush 18 (-2) (by decide) dX8_goTillDusk_16 rfl ?_
  refine s_put 8 11 21 clX8 (by decide) rfl rfl pVH tw_323 dX8_goTillDusk_18 rfl ?_
  refine s_Aldn 0 rfl 22 dX8_goTillDusk_21 rfl ?_
  refine s_get 8 4 25 clX8 (by decide) tw_316 dX8_goTillDusk_22 rfl ?_
  refine s_getN 9 4 28 clX9 (by decide) nw_19 dX8_goTillDusk_25 rfl ?_
  refine s_Ist 6 30 (by decide) dX8_goTillDusk_28 rfl ?_
  exact s_pick (s_lp (fun k hk => sBX8_goTillDusk_30  hk) FU)
def BX8_goTillDusk_0 : KT HP :=
  oAld 0 (oAld 1 (oIld 2 (oLld 3 (oIld 5 (oPick [0] (BX8_goTillDusk_6))))))
set_option maxRecDepth 20000 in
theorem sBX8_goTillDusk_0 : Snd XX8_goTillDusk fVH 0 (BX8_goTillDusk_0) (0) (0) := by
  unfold BX8_goTillDusk_0
  refine s_Aldn 0 rfl 1 dX8_goTillDusk_0 rfl ?_
  refine s_Aldn 1 rfl 2 dX8_goTillDusk_1 rfl ?_
  refine s_Ildn 2 rfl 3 dX8_goTillDusk_2 rfl ?_
  refine s_Lldn 3 rfl 4 dX8_goTillDusk_3 rfl ?_
  refine s_Ild 5 6 dX8_goTillDusk_4 rfl ?_
  exact s_pick (sBX8_goTillDusk_6)
def EX8_goTillDusk : List Value → HP → Option HP := en 7 BX8_goTillDusk_0
theorem cmX8_goTillDusk : CM XX8_goTillDusk EX8_goTillDusk fVH 0 0 := CM.of rfl (by decide) rfl rfl sBX8_goTillDusk_0
theorem yoX8_goTillDusk : YO XX8_goTillDusk 4 0 0 := ⟨tw_824, rfl, tw_11, (by decide +kernel), rfl, rfl⟩
abbrev XX8_cellIn : MX := (yX8_cellIn, cX8_cellIn, 3, (Option.some .int), Cond.code yX8_cellIn cX8_cellIn 3 (Option.some .int) :: WS, { frames := 0, cells := 0, slots := 0, locals := 0 })
def BX8_cellIn_24 : KT Int32 :=
  oIst 2 (oIld 2 (oIfeq (oConst (.int (-2)) (oIretP)) (oIld 1 (oIflt (oConst (.int (-2)) (oIretP)) (oIld 1 (oAld 0 (oGet 8 0 (oLen (oCmpge (oConst (.int (-2)) (oIretP)) (oAld 0 (oGet 8 0 (oIld 1 (oIa (oIretP))))))))))))))
set_option maxRecDepth 20000 in
theorem sBX8_cellIn_24 : Snd XX8_cellIn fI 24 (BX8_cellIn_24) (0) (0) := by
  unfold BX8_cellIn_24
  refine s_Istn 2 rfl 25 (by decide) dX8_cellIn_24 rfl ?_
  refine s_Ildn 2 rfl 26 dX8_cellIn_25 rfl ?_
  refine s_ifeq 51 29 dX8_cellIn_26 (by decide) rfl ?_ ?_
  · refine s_bipush 53 (-2) (by decide) dX8_cellIn_51 rfl ?_
    exact s_iretP rfl dX8_cellIn_53
  · refine s_Ildn 1 rfl 30 dX8_cellIn_29 rfl ?_
    refine s_iflt 51 33 dX8_cellIn_30 (by decide) rfl ?_ ?_
    · refine s_bipush 53 (-2) (by decide) dX8_cellIn_51 rfl ?_
      exact s_iretP rfl dX8_cellIn_53
    · refine s_Ildn 1 rfl 34 dX8_cellIn_33 rfl ?_
      refine s_Aldn 0 rfl 35 dX8_cellIn_34 rfl ?_
      refine s_get 8 0 38 clX8 (by decide) tw_312 dX8_cellIn_35 rfl ?_
      refine s_len 39 dX8_cellIn_38 rfl ?_
      refine s_cmpge 51 42 dX8_cellIn_39 (by decide) rfl ?_ ?_
      · refine s_bipush 53 (-2) (by decide) dX8_cellIn_51 rfl ?_
        exact s_iretP rfl dX8_cellIn_53
      · refine s_Aldn 0 rfl 43 dX8_cellIn_42 rfl ?_
        refine s_get 8 0 46 clX8 (by decide) tw_312 dX8_cellIn_43 rfl ?_
        refine s_Ildn 1 rfl 47 dX8_cellIn_46 rfl ?_
        refine s_Ia 48 dX8_cellIn_47 rfl ?_
        refine s_goto 53 dX8_cellIn_48 (by decide) ?_
        exact s_iretP rfl dX8_cellIn_53
def BX8_cellIn_23 : KT Int32 :=
  oConst (.int 0) (oPick [0, 1] (BX8_cellIn_24))
set_option maxRecDepth 20000 in
theorem sBX8_cellIn_23 : Snd XX8_cellIn fI 23 (BX8_cellIn_23) (0) (0) := by
  unfold BX8_cellIn_23
  refine s_iconst 24 0 (by decide) dX8_cellIn_23 rfl ?_
  exact s_pick (sBX8_cellIn_24)
def BX8_cellIn_0 : KT Int32 :=
  oIld 1 (oAld 0 (oGet 8 4 (oGet 9 4 (oCmplt (oPick [0, 1] (BX8_cellIn_23)) (oIld 1 (oAld 0 (oGet 8 11 (oCmpgt (oPick [0, 1] (BX8_cellIn_23)) (oConst (.int 1) (oPick [0, 1] (BX8_cellIn_24)))))))))))
set_option maxRecDepth 20000 in
theorem sBX8_cellIn_0 : Snd XX8_cellIn fI 0 (BX8_cellIn_0) (0) (0) := by
  unfold BX8_cellIn_0
  refine s_Ildn 1 rfl 1 dX8_cellIn_0 rfl ?_
  refine s_Aldn 0 rfl 2 dX8_cellIn_1 rfl ?_
  refine s_get 8 4 5 clX8 (by decide) tw_316 dX8_cellIn_2 rfl ?_
  refine s_getN 9 4 8 clX9 (by decide) nw_19 dX8_cellIn_5 rfl ?_
  refine s_cmplt 23 11 dX8_cellIn_8 (by decide) rfl ?_ ?_
  · exact s_pick (sBX8_cellIn_23)
  · refine s_Ildn 1 rfl 12 dX8_cellIn_11 rfl ?_
    refine s_Aldn 0 rfl 13 dX8_cellIn_12 rfl ?_
    refine s_get 8 11 16 clX8 (by decide) tw_323 dX8_cellIn_13 rfl ?_
    refine s_cmpgt 23 19 dX8_cellIn_16 (by decide) rfl ?_ ?_
    · exact s_pick (sBX8_cellIn_23)
    · refine s_iconst 20 1 (by decide) dX8_cellIn_19 rfl ?_
      refine s_goto 24 dX8_cellIn_20 (by decide) ?_
      exact s_pick (sBX8_cellIn_24)
def EX8_cellIn : List Value → HP → Option Int32 := en 3 BX8_cellIn_0
theorem cmX8_cellIn : CM XX8_cellIn EX8_cellIn fI 0 0 := CM.of rfl (by decide) rfl rfl sBX8_cellIn_0
theorem yoX8_cellIn : YO XX8_cellIn 1 0 0 := ⟨tw_881, rfl, tw_11, (by decide +kernel), rfl, rfl⟩
abbrev XX8_outIn : MX := (yX8_outIn, cX8_outIn, 1, (Option.some .int), Cond.code yX8_outIn cX8_outIn 1 (Option.some .int) :: WS, { frames := 0, cells := 0, slots := 0, locals := 0 })
def BX8_outIn_0 : KT Int32 :=
  oAld 0 (oGet 8 10 (oIretP))
set_option maxRecDepth 20000 in
theorem sBX8_outIn_0 : Snd XX8_outIn fI 0 (BX8_outIn_0) (0) (0) := by
  unfold BX8_outIn_0
  refine s_Aldn 0 rfl 1 dX8_outIn_0 rfl ?_
  refine s_get 8 10 4 clX8 (by decide) tw_322 dX8_outIn_1 rfl ?_
  exact s_iretP rfl dX8_outIn_4
def EX8_outIn : List Value → HP → Option Int32 := en 1 BX8_outIn_0
theorem cmX8_outIn : CM XX8_outIn EX8_outIn fI 0 0 := CM.of rfl (by decide) rfl rfl sBX8_outIn_0
theorem yoX8_outIn : YO XX8_outIn 0 0 0 := ⟨tw_889, rfl, tw_11, (by decide +kernel), rfl, rfl⟩
abbrev XX8_countShouts : MX := (yX8_countShouts, cX8_countShouts, 2, (Option.some .int), Cond.code yX8_countShouts cX8_countShouts 2 (Option.some .int) :: WS, { frames := 1, cells := 0, slots := 0, locals := 21 })
def BX8_countShouts_0 : KT Int32 :=
  oAld 0 (oGet 8 10 (oConst (.int (-2)) (oCmpne (oAld 0 (oGet 8 10 (oIst 1 (oConst (.int 0) (oIld 1 (oAld 0 (oGet 8 4 (oGet 9 4 (oisub (oMax (oIretP))))))))))) (oAld 0 (oGet 8 3 (oGet 3 8 (oIst 1 (oConst (.int 0) (oIld 1 (oAld 0 (oGet 8 4 (oGet 9 4 (oisub (oMax (oIretP)))))))))))))))
set_option maxRecDepth 20000 in
theorem sBX8_countShouts_0 : Snd XX8_countShouts fI 0 (BX8_countShouts_0) (0) (0) := by
  unfold BX8_countShouts_0
  refine s_Aldn 0 rfl 1 dX8_countShouts_0 rfl ?_
  refine s_get 8 10 4 clX8 (by decide) tw_322 dX8_countShouts_1 rfl ?_
  refine s_bipush 6 (-2) (by decide) dX8_countShouts_4 rfl ?_
  refine s_cmpne 19 9 dX8_countShouts_6 (by decide) rfl ?_ ?_
  · refine s_Aldn 0 rfl 20 dX8_countShouts_19 rfl ?_
    refine s_get 8 10 23 clX8 (by decide) tw_322 dX8_countShouts_20 rfl ?_
    refine s_Istn 1 rfl 24 (by decide) dX8_countShouts_23 rfl ?_
    refine s_iconst 25 0 (by decide) dX8_countShouts_24 rfl ?_
    refine s_Ildn 1 rfl 26 dX8_countShouts_25 rfl ?_
    refine s_Aldn 0 rfl 27 dX8_countShouts_26 rfl ?_
    refine s_get 8 4 30 clX8 (by decide) tw_316 dX8_countShouts_27 rfl ?_
    refine s_getN 9 4 33 clX9 (by decide) nw_19 dX8_countShouts_30 rfl ?_
    refine s_isub 34 dX8_countShouts_33 rfl ?_
    refine s_max 37 tw_924 tw_799 tw_13 tw_800 (by decide) (by decide) dX8_countShouts_34 rfl ?_
    exact s_iretP rfl dX8_countShouts_37
  · refine s_Aldn 0 rfl 10 dX8_countShouts_9 rfl ?_
    refine s_get 8 3 13 clX8 (by decide) tw_315 dX8_countShouts_10 rfl ?_
    refine s_getN 3 8 16 clX3 (by decide) nw_30 dX8_countShouts_13 rfl ?_
    refine s_goto 23 dX8_countShouts_16 (by decide) ?_
    refine s_Istn 1 rfl 24 (by decide) dX8_countShouts_23 rfl ?_
    refine s_iconst 25 0 (by decide) dX8_countShouts_24 rfl ?_
    refine s_Ildn 1 rfl 26 dX8_countShouts_25 rfl ?_
    refine s_Aldn 0 rfl 27 dX8_countShouts_26 rfl ?_
    refine s_get 8 4 30 clX8 (by decide) tw_316 dX8_countShouts_27 rfl ?_
    refine s_getN 9 4 33 clX9 (by decide) nw_19 dX8_countShouts_30 rfl ?_
    refine s_isub 34 dX8_countShouts_33 rfl ?_
    refine s_max 37 tw_924 tw_799 tw_13 tw_800 (by decide) (by decide) dX8_countShouts_34 rfl ?_
    exact s_iretP rfl dX8_countShouts_37
def EX8_countShouts : List Value → HP → Option Int32 := en 2 BX8_countShouts_0
theorem cmX8_countShouts : CM XX8_countShouts EX8_countShouts fI 0 0 := CM.of rfl (by decide) rfl rfl sBX8_countShouts_0
theorem yoX8_countShouts : YO XX8_countShouts 0 0 0 := ⟨tw_923, rfl, tw_11, (by decide +kernel), rfl, rfl⟩
abbrev XX8_countCells : MX := (yX8_countCells, cX8_countCells, 1, (Option.some .int), Cond.code yX8_countCells cX8_countCells 1 (Option.some .int) :: WS, { frames := 1, cells := 0, slots := 0, locals := 21 })
def BX8_countCells_0 : KT Int32 :=
  oAld 0 (oGet 8 4 (oGet 9 4 (oAld 0 (oGet 8 3 (oGet 3 8 (oCmpgt (oConst (.int 0) (oIretP)) (oAld 0 (oGet 8 6 (oCal 1 none EJ13_bitCount_95d88 fI (oIretP))))))))))
set_option maxRecDepth 20000 in
theorem sBX8_countCells_0 : Snd XX8_countCells fI 0 (BX8_countCells_0) (0) (0) := by
  unfold BX8_countCells_0
  refine s_Aldn 0 rfl 1 dX8_countCells_0 rfl ?_
  refine s_get 8 4 4 clX8 (by decide) tw_316 dX8_countCells_1 rfl ?_
  refine s_getN 9 4 7 clX9 (by decide) nw_19 dX8_countCells_4 rfl ?_
  refine s_Aldn 0 rfl 8 dX8_countCells_7 rfl ?_
  refine s_get 8 3 11 clX8 (by decide) tw_315 dX8_countCells_8 rfl ?_
  refine s_getN 3 8 14 clX3 (by decide) nw_30 dX8_countCells_11 rfl ?_
  refine s_cmpgt 27 17 dX8_countCells_14 (by decide) rfl ?_ ?_
  · refine s_iconst 28 0 (by decide) dX8_countCells_27 rfl ?_
    exact s_iretP rfl dX8_countCells_28
  · refine s_Aldn 0 rfl 18 dX8_countCells_17 rfl ?_
    refine s_get 8 6 21 clX8 (by decide) tw_318 dX8_countCells_18 rfl ?_
    refine s_cal0 24 (run_S (X := XX8_countCells) yoJ13_bitCount_95d88 tw_933 tw_697 (by decide) dX8_countCells_21) cmJ13_bitCount_95d88 (fun _ _ _ => rfl) rfl ?_
    refine s_goto 28 dX8_countCells_24 (by decide) ?_
    exact s_iretP rfl dX8_countCells_28
def EX8_countCells : List Value → HP → Option Int32 := en 1 BX8_countCells_0
theorem cmX8_countCells : CM XX8_countCells EX8_countCells fI 0 0 := CM.of rfl (by decide) rfl rfl sBX8_countCells_0
theorem yoX8_countCells : YO XX8_countCells 0 0 0 := ⟨tw_932, rfl, tw_11, (by decide +kernel), rfl, rfl⟩
abbrev XX8_isOutSometime : MX := (yX8_isOutSometime, cX8_isOutSometime, 2, (Option.some .boolean), Cond.code yX8_isOutSometime cX8_isOutSometime 2 (Option.some .boolean) :: WS, { frames := 4, cells := 0, slots := 0, locals := 93 })
def BX8_isOutSometime_27 : KT (Bool × HP) :=
  oCal 1 (some 8) EX8_isAtGate fZ (oZretH)
set_option maxRecDepth 20000 in
theorem sBX8_isOutSometime_27 : Snd XX8_isOutSometime fZH 27 (BX8_isOutSometime_27) (0) (0) := by
  unfold BX8_isOutSometime_27
  refine s_cal0 30 (run_V (X := XX8_isOutSometime) rfl clX8 yoX8_isAtGate rfl tw_874 tw_876 tw_p32 (by decide) dX8_isOutSometime_27) cmX8_isAtGate (fun _ _ _ => rfl) rfl ?_
  exact s_zretH rfl dX8_isOutSometime_30
def BX8_isOutSometime_17 (k2 : KT (Bool × HP)) : KT (Bool × HP) :=
  oCal 1 (some 8) EX8_step fVH (oInc 1 1 (oPick [0, 1] k2))
set_option maxRecDepth 20000 in
theorem sBX8_isOutSometime_17 {k2 : KT (Bool × HP)} (hk2 : Snd XX8_isOutSometime fZH 2 k2 0 0) : Snd XX8_isOutSometime fZH 17 (BX8_isOutSometime_17 k2) (0) (0) := by
  unfold BX8_isOutSometime_17
  refine s_cal0 20 (run_V (X := XX8_isOutSometime) rfl clX8 yoX8_step rfl tw_841 tw_843 tw_p26 (by decide) dX8_isOutSometime_17) cmX8_step (fun _ _ _ => rfl) rfl ?_
  refine s_inc 1 1 23 (by decide) (by decide) dX8_isOutSometime_20 rfl ?_
  refine s_goto 2 dX8_isOutSometime_23 (by decide) ?_
  exact s_pick hk2
def BX8_isOutSometime_10 (k2 : KT (Bool × HP)) : KT (Bool × HP) :=
  oCal 1 (some 8) EX8_isAtGate fZ (oIfne (oAld 0 (oPick [] (BX8_isOutSometime_27))) (oAld 0 (oPick [0, 1] (BX8_isOutSometime_17 k2))))
set_option maxRecDepth 20000 in
theorem sBX8_isOutSometime_10 {k2 : KT (Bool × HP)} (hk2 : Snd XX8_isOutSometime fZH 2 k2 0 0) : Snd XX8_isOutSometime fZH 10 (BX8_isOutSometime_10 k2) (0) (0) := by
  unfold BX8_isOutSometime_10
  refine s_cal0 13 (run_V (X := XX8_isOutSometime) rfl clX8 yoX8_isAtGate rfl tw_874 tw_876 tw_p32 (by decide) dX8_isOutSometime_10) cmX8_isAtGate (fun _ _ _ => rfl) rfl ?_
  refine s_ifne 26 16 dX8_isOutSometime_13 (by decide) rfl ?_ ?_
  · refine s_Aldn 0 rfl 27 dX8_isOutSometime_26 rfl ?_
    exact s_pick (sBX8_isOutSometime_27)
  · refine s_Aldn 0 rfl 17 dX8_isOutSometime_16 rfl ?_
    exact s_pick (sBX8_isOutSometime_17 hk2)
def BX8_isOutSometime_2 (k2 : KT (Bool × HP)) : KT (Bool × HP) :=
  oIld 1 (oConst (.int 192) (oCmpge (oAld 0 (oPick [] (BX8_isOutSometime_27))) (oAld 0 (oPick [0, 1] (BX8_isOutSometime_10 k2)))))
set_option maxRecDepth 20000 in
theorem sBX8_isOutSometime_2 {k2 : KT (Bool × HP)} (hk2 : Snd XX8_isOutSometime fZH 2 k2 0 0) : Snd XX8_isOutSometime fZH 2 (BX8_isOutSometime_2 k2) (0) (0) := by
  unfold BX8_isOutSometime_2
  refine s_Ildn 1 rfl 3 dX8_isOutSometime_2 rfl ?_
  refine s_sipush 6 192 (by decide) dX8_isOutSometime_3 rfl ?_
  refine s_cmpge 26 9 dX8_isOutSometime_6 (by decide) rfl ?_ ?_
  · refine s_Aldn 0 rfl 27 dX8_isOutSometime_26 rfl ?_
    exact s_pick (sBX8_isOutSometime_27)
  · refine s_Aldn 0 rfl 10 dX8_isOutSometime_9 rfl ?_
    exact s_pick (sBX8_isOutSometime_10 hk2)
def BX8_isOutSometime_0 : KT (Bool × HP) :=
  oConst (.int 0) (oIst 1 (oPick [0, 1] (lp (BX8_isOutSometime_2) FU)))
set_option maxRecDepth 20000 in
theorem sBX8_isOutSometime_0 : Snd XX8_isOutSometime fZH 0 (BX8_isOutSometime_0) (0) (0) := by
  unfold BX8_isOutSometime_0
  refine s_iconst 1 0 (by decide) dX8_isOutSometime_0 rfl ?_
  refine s_Istn 1 rfl 2 (by decide) dX8_isOutSometime_1 rfl ?_
  exact s_pick (s_lp (fun k hk => sBX8_isOutSometime_2  hk) FU)
def EX8_isOutSometime : List Value → HP → Option (Bool × HP) := en 2 BX8_isOutSometime_0
theorem cmX8_isOutSometime : CM XX8_isOutSometime EX8_isOutSometime fZH 0 0 := CM.of rfl (by decide) rfl rfl sBX8_isOutSometime_0
theorem yoX8_isOutSometime : YO XX8_isOutSometime 0 0 0 := ⟨tw_903, rfl, tw_11, (by decide +kernel), rfl, rfl⟩
abbrev XX8_ringLength : MX := (yX8_ringLength, cX8_ringLength, 4, (Option.some .int), Cond.code yX8_ringLength cX8_ringLength 4 (Option.some .int) :: WS, { frames := 4, cells := 0, slots := 0, locals := 93 })
def BX8_ringLength_20 (k12 : KT (Int32 × HP)) : KT (Int32 × HP) :=
  oCal 1 (some 8) EX8_step fVH (oAld 0 (oGet 8 7 (oIld 1 (oCmpne (oInc 3 1 (oPick [0, 1, 2, 3] k12)) (oAld 0 (oGet 8 8 (oIld 2 (oCmpne (oInc 3 1 (oPick [0, 1, 2, 3] k12)) (oIld 3 (oIretH))))))))))
set_option maxRecDepth 20000 in
theorem sBX8_ringLength_20 {k12 : KT (Int32 × HP)} (hk12 : Snd XX8_ringLength fIH 12 k12 0 0) : Snd XX8_ringLength fIH 20 (BX8_ringLength_20 k12) (0) (0) := by
  unfold BX8_ringLength_20
  refine s_cal0 23 (run_V (X := XX8_ringLength) rfl clX8 yoX8_step rfl tw_841 tw_843 tw_p26 (by decide) dX8_ringLength_20) cmX8_step (fun _ _ _ => rfl) rfl ?_
  refine s_Aldn 0 rfl 24 dX8_ringLength_23 rfl ?_
  refine s_get 8 7 27 clX8 (by decide) tw_319 dX8_ringLength_24 rfl ?_
  refine s_Ildn 1 rfl 28 dX8_ringLength_27 rfl ?_
  refine s_cmpne 41 31 dX8_ringLength_28 (by decide) rfl ?_ ?_
  · refine s_inc 3 1 44 (by decide) (by decide) dX8_ringLength_41 rfl ?_
    refine s_goto 12 dX8_ringLength_44 (by decide) ?_
    exact s_pick hk12
  · refine s_Aldn 0 rfl 32 dX8_ringLength_31 rfl ?_
    refine s_get 8 8 35 clX8 (by decide) tw_320 dX8_ringLength_32 rfl ?_
    refine s_Ildn 2 rfl 36 dX8_ringLength_35 rfl ?_
    refine s_cmpne 41 39 dX8_ringLength_36 (by decide) rfl ?_ ?_
    · refine s_inc 3 1 44 (by decide) (by decide) dX8_ringLength_41 rfl ?_
      refine s_goto 12 dX8_ringLength_44 (by decide) ?_
      exact s_pick hk12
    · refine s_Ildn 3 rfl 40 dX8_ringLength_39 rfl ?_
      exact s_iretH rfl dX8_ringLength_40
def BX8_ringLength_12 (k12 : KT (Int32 × HP)) : KT (Int32 × HP) :=
  oIld 3 (oConst (.int 192) (oCmpge (oConst (.int 192) (oIretH)) (oAld 0 (oPick [0, 1, 2, 3] (BX8_ringLength_20 k12)))))
set_option maxRecDepth 20000 in
theorem sBX8_ringLength_12 {k12 : KT (Int32 × HP)} (hk12 : Snd XX8_ringLength fIH 12 k12 0 0) : Snd XX8_ringLength fIH 12 (BX8_ringLength_12 k12) (0) (0) := by
  unfold BX8_ringLength_12
  refine s_Ildn 3 rfl 13 dX8_ringLength_12 rfl ?_
  refine s_sipush 16 192 (by decide) dX8_ringLength_13 rfl ?_
  refine s_cmpge 47 19 dX8_ringLength_16 (by decide) rfl ?_ ?_
  · refine s_sipush 50 192 (by decide) dX8_ringLength_47 rfl ?_
    exact s_iretH rfl dX8_ringLength_50
  · refine s_Aldn 0 rfl 20 dX8_ringLength_19 rfl ?_
    exact s_pick (sBX8_ringLength_20 hk12)
def BX8_ringLength_0 : KT (Int32 × HP) :=
  oAld 0 (oGet 8 7 (oIst 1 (oAld 0 (oGet 8 8 (oIst 2 (oConst (.int 1) (oIst 3 (oPick [0, 1, 2, 3] (lp (BX8_ringLength_12) FU)))))))))
set_option maxRecDepth 20000 in
theorem sBX8_ringLength_0 : Snd XX8_ringLength fIH 0 (BX8_ringLength_0) (0) (0) := by
  unfold BX8_ringLength_0
  refine s_Aldn 0 rfl 1 dX8_ringLength_0 rfl ?_
  refine s_get 8 7 4 clX8 (by decide) tw_319 dX8_ringLength_1 rfl ?_
  refine s_Istn 1 rfl 5 (by decide) dX8_ringLength_4 rfl ?_
  refine s_Aldn 0 rfl 6 dX8_ringLength_5 rfl ?_
  refine s_get 8 8 9 clX8 (by decide) tw_320 dX8_ringLength_6 rfl ?_
  refine s_Istn 2 rfl 10 (by decide) dX8_ringLength_9 rfl ?_
  refine s_iconst 11 1 (by decide) dX8_ringLength_10 rfl ?_
  refine s_Istn 3 rfl 12 (by decide) dX8_ringLength_11 rfl ?_
  exact s_pick (s_lp (fun k hk => sBX8_ringLength_12  hk) FU)
def EX8_ringLength : List Value → HP → Option (Int32 × HP) := en 4 BX8_ringLength_0
theorem cmX8_ringLength : CM XX8_ringLength EX8_ringLength fIH 0 0 := CM.of rfl (by decide) rfl rfl sBX8_ringLength_0
theorem yoX8_ringLength : YO XX8_ringLength 0 0 0 := ⟨tw_911, rfl, tw_11, (by decide +kernel), rfl, rfl⟩
end
