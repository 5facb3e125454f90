abbrev XX0_besideAll : MX := (yX0_besideAll, cX0_besideAll, 7, (Option.some .long), Cond.code yX0_besideAll cX0_besideAll 7 (Option.some .long) :: WS, { frames := 0, cells := 0, slots := 0, locals := 0 })
def BX0_besideAll_0 : KT Int64 :=
  oLld 1 (oAld 0 (oGet 0 6 (oConst (.long (-1)) (olxor (oland (oConst (.int 1) (olshl (oLst 3 (oLld 1 (oAld 0 (oGet 0 5 (oConst (.long (-1)) (olxor (oland (oConst (.int 1) (olushr (oLst 5 (oLld 3 (oLld 5 (olor (oLld 1 (oAld 0 (oGet 0 1 (olshl (olor (oLld 1 (oAld 0 (oGet 0 1 (olushr (olor (oAld 0 (oGet 0 4 (oland (oLretP))))))))))))))))))))))))))))))))))
set_option maxRecDepth 20000 in
theorem sBX0_besideAll_0 : Snd XX0_besideAll fL 0 (BX0_besideAll_0) 0 0 := by
  unfold BX0_besideAll_0
  refine s_Lldn 1 rfl 1 dX0_besideAll_0 rfl ?_
  refine s_Aldn 0 rfl 2 dX0_besideAll_1 rfl ?_
  refine s_get 0 6 5 clX0 (by decide) tw_168 dX0_besideAll_2 rfl ?_
  refine s_ldc2 8 (-1) tw_741 dX0_besideAll_5 rfl ?_
  refine s_lxor 9 dX0_besideAll_8 rfl ?_
  refine s_land 10 dX0_besideAll_9 rfl ?_
  refine s_iconst 11 1 (by decide) dX0_besideAll_10 rfl ?_
  refine s_lshl 12 dX0_besideAll_11 rfl ?_
  refine s_Lstn 3 rfl 13 (by decide) dX0_besideAll_12 rfl ?_
  refine s_Lldn 1 rfl 14 dX0_besideAll_13 rfl ?_
  refine s_Aldn 0 rfl 15 dX0_besideAll_14 rfl ?_
  refine s_get 0 5 18 clX0 (by decide) tw_167 dX0_besideAll_15 rfl ?_
  refine s_ldc2 21 (-1) tw_741 dX0_besideAll_18 rfl ?_
  refine s_lxor 22 dX0_besideAll_21 rfl ?_
  refine s_land 23 dX0_besideAll_22 rfl ?_
  refine s_iconst 24 1 (by decide) dX0_besideAll_23 rfl ?_
  refine s_lushr 25 dX0_besideAll_24 rfl ?_
  refine s_Lst 5 27 (by decide) dX0_besideAll_25 rfl ?_
  refine s_Lldn 3 rfl 28 dX0_besideAll_27 rfl ?_
  refine s_Lld 5 30 dX0_besideAll_28 rfl ?_
  refine s_lor 31 dX0_besideAll_30 rfl ?_
  refine s_Lldn 1 rfl 32 dX0_besideAll_31 rfl ?_
  refine s_Aldn 0 rfl 33 dX0_besideAll_32 rfl ?_
  refine s_get 0 1 36 clX0 (by decide) tw_156 dX0_besideAll_33 rfl ?_
  refine s_lshl 37 dX0_besideAll_36 rfl ?_
  refine s_lor 38 dX0_besideAll_37 rfl ?_
  refine s_Lldn 1 rfl 39 dX0_besideAll_38 rfl ?_
  refine s_Aldn 0 rfl 40 dX0_besideAll_39 rfl ?_
  refine s_get 0 1 43 clX0 (by decide) tw_156 dX0_besideAll_40 rfl ?_
  refine s_lushr 44 dX0_besideAll_43 rfl ?_
  refine s_lor 45 dX0_besideAll_44 rfl ?_
  refine s_Aldn 0 rfl 46 dX0_besideAll_45 rfl ?_
  refine s_get 0 4 49 clX0 (by decide) tw_165 dX0_besideAll_46 rfl ?_
  refine s_land 50 dX0_besideAll_49 rfl ?_
  exact s_lretP rfl dX0_besideAll_50
def EX0_besideAll : List Value → HP → Option Int64 := en 7 BX0_besideAll_0
theorem cmX0_besideAll : CM XX0_besideAll EX0_besideAll fL 0 0 := CM.of rfl (by decide) rfl rfl sBX0_besideAll_0
theorem yoX0_besideAll : YO XX0_besideAll 1 0 0 := ⟨tw_740, rfl, tw_8, (by decide +kernel), rfl, rfl⟩
abbrev XX0_flood : MX := (yX0_flood, cX0_flood, 10, (Option.some .long), Cond.code yX0_flood cX0_flood 10 (Option.some .long) :: WS, { frames := 1, cells := 0, slots := 0, locals := 26 })
def BX0_flood_9 (k9 : KT Int64) : KT Int64 :=
  oIld 9 (oConst (.int 48) (oCmpge (oLld 5 (oLretP)) (oLld 7 (oConst (.long 0) (olcmp (oIfeq (oLld 5 (oLretP)) (oAld 0 (oLld 7 (oCal 2 (some 0) EX0_besideAll fL (oLld 1 (oland (oLld 5 (oConst (.long (-1)) (olxor (oland (oLst 7 (oLld 5 (oLld 7 (olor (oLst 5 (oInc 9 1 (oPick [0, 1, 5, 7, 9] k9))))))))))))))))))))))
set_option maxRecDepth 20000 in
theorem sBX0_flood_9 {k9 : KT Int64} (hk9 : Snd XX0_flood fL 9 k9 0 0) : Snd XX0_flood fL 9 (BX0_flood_9 k9) 0 0 := by
  unfold BX0_flood_9
  refine s_Ild 9 11 dX0_flood_9 rfl ?_
  refine s_bipush 13 48 (by decide) dX0_flood_11 rfl ?_
  refine s_cmpge 53 16 dX0_flood_13 (by decide) rfl ?_ ?_
  · refine s_Lld 5 55 dX0_flood_53 rfl ?_
    exact s_lretP rfl dX0_flood_55
  · refine s_Lld 7 18 dX0_flood_16 rfl ?_
    refine s_lconst 19 0 (by decide) dX0_flood_18 rfl ?_
    refine s_lcmp 20 dX0_flood_19 rfl ?_
    refine s_ifeq 53 23 dX0_flood_20 (by decide) rfl ?_ ?_
    · refine s_Lld 5 55 dX0_flood_53 rfl ?_
      exact s_lretP rfl dX0_flood_55
    · refine s_Aldn 0 rfl 24 dX0_flood_23 rfl ?_
      refine s_Lld 7 26 dX0_flood_24 rfl ?_
      refine s_cal0 29 (run_V (X := XX0_flood) clX0 yoX0_besideAll rfl tw_737 tw_738 tw_739 (by decide) dX0_flood_26) cmX0_besideAll (fun _ _ _ => rfl) rfl ?_
      refine s_Lldn 1 rfl 30 dX0_flood_29 rfl ?_
      refine s_land 31 dX0_flood_30 rfl ?_
      refine s_Lld 5 33 dX0_flood_31 rfl ?_
      refine s_ldc2 36 (-1) tw_741 dX0_flood_33 rfl ?_
      refine s_lxor 37 dX0_flood_36 rfl ?_
      refine s_land 38 dX0_flood_37 rfl ?_
      refine s_Lst 7 40 (by decide) dX0_flood_38 rfl ?_
      refine s_Lld 5 42 dX0_flood_40 rfl ?_
      refine s_Lld 7 44 dX0_flood_42 rfl ?_
      refine s_lor 45 dX0_flood_44 rfl ?_
      refine s_Lst 5 47 (by decide) dX0_flood_45 rfl ?_
      refine s_inc 9 1 50 (by decide) (by decide) dX0_flood_47 rfl ?_
      refine s_goto 9 dX0_flood_50 (by decide) ?_
      exact s_pick hk9
def BX0_flood_0 : KT Int64 :=
  oLld 3 (oLst 5 (oLld 3 (oLst 7 (oConst (.int 0) (oIst 9 (oPick [0, 1, 5, 7, 9] (lp (BX0_flood_9) FU)))))))
set_option maxRecDepth 20000 in
theorem sBX0_flood_0 : Snd XX0_flood fL 0 (BX0_flood_0) 0 0 := by
  unfold BX0_flood_0
  refine s_Lldn 3 rfl 1 dX0_flood_0 rfl ?_
  refine s_Lst 5 3 (by decide) dX0_flood_1 rfl ?_
  refine s_Lldn 3 rfl 4 dX0_flood_3 rfl ?_
  refine s_Lst 7 6 (by decide) dX0_flood_4 rfl ?_
  refine s_iconst 7 0 (by decide) dX0_flood_6 rfl ?_
  refine s_Ist 9 9 (by decide) dX0_flood_7 rfl ?_
  exact s_pick (s_lp (fun k hk => sBX0_flood_9  hk) FU)
def EX0_flood : List Value → HP → Option Int64 := en 10 BX0_flood_0
theorem cmX0_flood : CM XX0_flood EX0_flood fL 0 0 := CM.of rfl (by decide) rfl rfl sBX0_flood_0
theorem yoX0_flood : YO XX0_flood 2 0 0 := ⟨tw_754, rfl, tw_8, (by decide +kernel), rfl, rfl⟩
abbrev XX10_bit : MX := (yX10_bit, cX10_bit, 1, (Option.some .long), Cond.code yX10_bit cX10_bit 1 (Option.some .long) :: WS, { frames := 0, cells := 0, slots := 0, locals := 0 })
def BX10_bit_0 : KT Int64 :=
  oConst (.long 1) (oIld 0 (olshl (oLretP)))
set_option maxRecDepth 20000 in
theorem sBX10_bit_0 : Snd XX10_bit fL 0 (BX10_bit_0) 0 0 := by
  unfold BX10_bit_0
  refine s_lconst 1 1 (by decide) dX10_bit_0 rfl ?_
  refine s_Ildn 0 rfl 2 dX10_bit_1 rfl ?_
  refine s_lshl 3 dX10_bit_2 rfl ?_
  exact s_lretP rfl dX10_bit_3
def EX10_bit : List Value → HP → Option Int64 := en 1 BX10_bit_0
theorem cmX10_bit : CM XX10_bit EX10_bit fL 0 0 := CM.of rfl (by decide) rfl rfl sBX10_bit_0
theorem yoX10_bit : YO XX10_bit 1 0 0 := ⟨tw_433, rfl, tw_1, (by decide +kernel), rfl, rfl⟩
abbrev XX10_isIn : MX := (yX10_isIn, cX10_isIn, 3, (Option.some .boolean), Cond.code yX10_isIn cX10_isIn 3 (Option.some .boolean) :: WS, { frames := 0, cells := 0, slots := 0, locals := 0 })
def BX10_isIn_0 : KT Bool :=
  oLld 0 (oIld 2 (olushr (oConst (.long 1) (oland (oConst (.long 0) (olcmp (oIfeq (oConst (.int 0) (oZretP)) (oConst (.int 1) (oZretP)))))))))
set_option maxRecDepth 20000 in
theorem sBX10_isIn_0 : Snd XX10_isIn fZ 0 (BX10_isIn_0) 0 0 := by
  unfold BX10_isIn_0
  refine s_Lldn 0 rfl 1 dX10_isIn_0 rfl ?_
  refine s_Ildn 2 rfl 2 dX10_isIn_1 rfl ?_
  refine s_lushr 3 dX10_isIn_2 rfl ?_
  refine s_lconst 4 1 (by decide) dX10_isIn_3 rfl ?_
  refine s_land 5 dX10_isIn_4 rfl ?_
  refine s_lconst 6 0 (by decide) dX10_isIn_5 rfl ?_
  refine s_lcmp 7 dX10_isIn_6 rfl ?_
  refine s_ifeq 14 10 dX10_isIn_7 (by decide) rfl ?_ ?_
  · refine s_iconst 15 0 (by decide) dX10_isIn_14 rfl ?_
    exact s_zretP rfl dX10_isIn_15
  · refine s_iconst 11 1 (by decide) dX10_isIn_10 rfl ?_
    refine s_goto 15 dX10_isIn_11 (by decide) ?_
    exact s_zretP rfl dX10_isIn_15
def EX10_isIn : List Value → HP → Option Bool := en 3 BX10_isIn_0
theorem cmX10_isIn : CM XX10_isIn EX10_isIn fZ 0 0 := CM.of rfl (by decide) rfl rfl sBX10_isIn_0
theorem yoX10_isIn : YO XX10_isIn 2 0 0 := ⟨tw_632, rfl, tw_1, (by decide +kernel), rfl, rfl⟩
abbrev XX0_isParting : MX := (yX0_isParting, cX0_isParting, 8, (Option.some .boolean), Cond.code yX0_isParting cX0_isParting 8 (Option.some .boolean) :: WS, { frames := 2, cells := 0, slots := 0, locals := 55 })
def BX0_isParting_0 : KT Bool :=
  oLld 1 (oIld 3 (oCal 1 none EX10_bit fL (oConst (.long (-1)) (olxor (oland (oLst 4 (oAld 0 (oIld 3 (oCal 1 none EX10_bit fL (oCal 2 (some 0) EX0_besideAll fL (oLld 4 (oland (oLst 6 (oLld 1 (oIld 3 (oCal 2 none EX10_isIn fZ (oIfeq (oConst (.int 0) (oZretP)) (oLld 6 (oAld 0 (oLld 4 (oLld 6 (oLld 6 (olneg (oland (oCal 3 (some 0) EX0_flood fL (oConst (.long (-1)) (olxor (oland (oConst (.long 0) (olcmp (oIfeq (oConst (.int 0) (oZretP)) (oConst (.int 1) (oZretP)))))))))))))))))))))))))))))))))
set_option maxRecDepth 20000 in
theorem sBX0_isParting_0 : Snd XX0_isParting fZ 0 (BX0_isParting_0) 0 0 := by
  unfold BX0_isParting_0
  refine s_Lldn 1 rfl 1 dX0_isParting_0 rfl ?_
  refine s_Ildn 3 rfl 2 dX0_isParting_1 rfl ?_
  refine s_cal0 5 (run_SN (X := XX0_isParting) yoX10_bit nw_74 tw_432 (by decide) dX0_isParting_2) cmX10_bit (fun _ _ _ => rfl) rfl ?_
  refine s_ldc2 8 (-1) tw_741 dX0_isParting_5 rfl ?_
  refine s_lxor 9 dX0_isParting_8 rfl ?_
  refine s_land 10 dX0_isParting_9 rfl ?_
  refine s_Lst 4 12 (by decide) dX0_isParting_10 rfl ?_
  refine s_Aldn 0 rfl 13 dX0_isParting_12 rfl ?_
  refine s_Ildn 3 rfl 14 dX0_isParting_13 rfl ?_
  refine s_cal0 17 (run_SN (X := XX0_isParting) yoX10_bit nw_74 tw_432 (by decide) dX0_isParting_14) cmX10_bit (fun _ _ _ => rfl) rfl ?_
  refine s_cal0 20 (run_V (X := XX0_isParting) clX0 yoX0_besideAll rfl tw_737 tw_738 tw_739 (by decide) dX0_isParting_17) cmX0_besideAll (fun _ _ _ => rfl) rfl ?_
  refine s_Lld 4 22 dX0_isParting_20 rfl ?_
  refine s_land 23 dX0_isParting_22 rfl ?_
  refine s_Lst 6 25 (by decide) dX0_isParting_23 rfl ?_
  refine s_Lldn 1 rfl 26 dX0_isParting_25 rfl ?_
  refine s_Ildn 3 rfl 27 dX0_isParting_26 rfl ?_
  refine s_cal0 30 (run_SN (X := XX0_isParting) yoX10_isIn nw_78 tw_631 (by decide) dX0_isParting_27) cmX10_isIn (fun _ _ _ => rfl) rfl ?_
  refine s_ifeq 61 33 dX0_isParting_30 (by decide) rfl ?_ ?_
  · refine s_iconst 62 0 (by decide) dX0_isParting_61 rfl ?_
    exact s_zretP rfl dX0_isParting_62
  · refine s_Lld 6 35 dX0_isParting_33 rfl ?_
    refine s_Aldn 0 rfl 36 dX0_isParting_35 rfl ?_
    refine s_Lld 4 38 dX0_isParting_36 rfl ?_
    refine s_Lld 6 40 dX0_isParting_38 rfl ?_
    refine s_Lld 6 42 dX0_isParting_40 rfl ?_
    refine s_lneg 43 dX0_isParting_42 rfl ?_
    refine s_land 44 dX0_isParting_43 rfl ?_
    refine s_cal0 47 (run_V (X := XX0_isParting) clX0 yoX0_flood rfl tw_751 tw_752 tw_753 (by decide) dX0_isParting_44) cmX0_flood (fun _ _ _ => rfl) rfl ?_
    refine s_ldc2 50 (-1) tw_741 dX0_isParting_47 rfl ?_
    refine s_lxor 51 dX0_isParting_50 rfl ?_
    refine s_land 52 dX0_isParting_51 rfl ?_
    refine s_lconst 53 0 (by decide) dX0_isParting_52 rfl ?_
    refine s_lcmp 54 dX0_isParting_53 rfl ?_
    refine s_ifeq 61 57 dX0_isParting_54 (by decide) rfl ?_ ?_
    · refine s_iconst 62 0 (by decide) dX0_isParting_61 rfl ?_
      exact s_zretP rfl dX0_isParting_62
    · refine s_iconst 58 1 (by decide) dX0_isParting_57 rfl ?_
      refine s_goto 62 dX0_isParting_58 (by decide) ?_
      exact s_zretP rfl dX0_isParting_62
def EX0_isParting : List Value → HP → Option Bool := en 8 BX0_isParting_0
theorem cmX0_isParting : CM XX0_isParting EX0_isParting fZ 0 0 := CM.of rfl (by decide) rfl rfl sBX0_isParting_0
theorem yoX0_isParting : YO XX0_isParting 2 0 0 := ⟨tw_808, rfl, tw_8, (by decide +kernel), rfl, rfl⟩
abbrev XX0_stepsBetween : MX := (yX0_stepsBetween, cX0_stepsBetween, 10, (Option.some .int), Cond.code yX0_stepsBetween cX0_stepsBetween 10 (Option.some .int) :: WS, { frames := 1, cells := 0, slots := 0, locals := 26 })
def BX0_stepsBetween_15 (k15 : KT Int32) : KT Int32 :=
  oIld 9 (oConst (.int 48) (oCmpge (oConst (.int (-2)) (oIretP)) (oLld 5 (oIld 4 (oCal 2 none EX10_isIn fZ (oIfeq (oAld 0 (oLld 5 (oCal 2 (some 0) EX0_besideAll fL (oLld 1 (oland (oLld 7 (oConst (.long (-1)) (olxor (oland (oLst 5 (oLld 7 (oLld 5 (olor (oLst 7 (oInc 9 1 (oPick [0, 1, 4, 5, 7, 9] k15)))))))))))))))) (oIld 9 (oIretP))))))))
set_option maxRecDepth 20000 in
theorem sBX0_stepsBetween_15 {k15 : KT Int32} (hk15 : Snd XX0_stepsBetween fI 15 k15 0 0) : Snd XX0_stepsBetween fI 15 (BX0_stepsBetween_15 k15) 0 0 := by
  unfold BX0_stepsBetween_15
  refine s_Ild 9 17 dX0_stepsBetween_15 rfl ?_
  refine s_bipush 19 48 (by decide) dX0_stepsBetween_17 rfl ?_
  refine s_cmpge 65 22 dX0_stepsBetween_19 (by decide) rfl ?_ ?_
  · refine s_bipush 67 (-2) (by decide) dX0_stepsBetween_65 rfl ?_
    exact s_iretP rfl dX0_stepsBetween_67
  · refine s_Lld 5 24 dX0_stepsBetween_22 rfl ?_
    refine s_Ild 4 26 dX0_stepsBetween_24 rfl ?_
    refine s_cal0 29 (run_SN (X := XX0_stepsBetween) yoX10_isIn nw_78 tw_631 (by decide) dX0_stepsBetween_26) cmX10_isIn (fun _ _ _ => rfl) rfl ?_
    refine s_ifeq 35 32 dX0_stepsBetween_29 (by decide) rfl ?_ ?_
    · refine s_Aldn 0 rfl 36 dX0_stepsBetween_35 rfl ?_
      refine s_Lld 5 38 dX0_stepsBetween_36 rfl ?_
      refine s_cal0 41 (run_V (X := XX0_stepsBetween) clX0 yoX0_besideAll rfl tw_737 tw_738 tw_739 (by decide) dX0_stepsBetween_38) cmX0_besideAll (fun _ _ _ => rfl) rfl ?_
      refine s_Lldn 1 rfl 42 dX0_stepsBetween_41 rfl ?_
      refine s_land 43 dX0_stepsBetween_42 rfl ?_
      refine s_Lld 7 45 dX0_stepsBetween_43 rfl ?_
      refine s_ldc2 48 (-1) tw_741 dX0_stepsBetween_45 rfl ?_
      refine s_lxor 49 dX0_stepsBetween_48 rfl ?_
      refine s_land 50 dX0_stepsBetween_49 rfl ?_
      refine s_Lst 5 52 (by decide) dX0_stepsBetween_50 rfl ?_
      refine s_Lld 7 54 dX0_stepsBetween_52 rfl ?_
      refine s_Lld 5 56 dX0_stepsBetween_54 rfl ?_
      refine s_lor 57 dX0_stepsBetween_56 rfl ?_
      refine s_Lst 7 59 (by decide) dX0_stepsBetween_57 rfl ?_
      refine s_inc 9 1 62 (by decide) (by decide) dX0_stepsBetween_59 rfl ?_
      refine s_goto 15 dX0_stepsBetween_62 (by decide) ?_
      exact s_pick hk15
    · refine s_Ild 9 34 dX0_stepsBetween_32 rfl ?_
      exact s_iretP rfl dX0_stepsBetween_34
def BX0_stepsBetween_0 : KT Int32 :=
  oIld 3 (oCal 1 none EX10_bit fL (oLld 1 (oland (oLst 5 (oLld 5 (oLst 7 (oConst (.int 0) (oIst 9 (oPick [0, 1, 4, 5, 7, 9] (lp (BX0_stepsBetween_15) FU))))))))))
set_option maxRecDepth 20000 in
theorem sBX0_stepsBetween_0 : Snd XX0_stepsBetween fI 0 (BX0_stepsBetween_0) 0 0 := by
  unfold BX0_stepsBetween_0
  refine s_Ildn 3 rfl 1 dX0_stepsBetween_0 rfl ?_
  refine s_cal0 4 (run_SN (X := XX0_stepsBetween) yoX10_bit nw_74 tw_432 (by decide) dX0_stepsBetween_1) cmX10_bit (fun _ _ _ => rfl) rfl ?_
  refine s_Lldn 1 rfl 5 dX0_stepsBetween_4 rfl ?_
  refine s_land 6 dX0_stepsBetween_5 rfl ?_
  refine s_Lst 5 8 (by decide) dX0_stepsBetween_6 rfl ?_
  refine s_Lld 5 10 dX0_stepsBetween_8 rfl ?_
  refine s_Lst 7 12 (by decide) dX0_stepsBetween_10 rfl ?_
  refine s_iconst 13 0 (by decide) dX0_stepsBetween_12 rfl ?_
  refine s_Ist 9 15 (by decide) dX0_stepsBetween_13 rfl ?_
  exact s_pick (s_lp (fun k hk => sBX0_stepsBetween_15  hk) FU)
def EX0_stepsBetween : List Value → HP → Option Int32 := en 10 BX0_stepsBetween_0
theorem cmX0_stepsBetween : CM XX0_stepsBetween EX0_stepsBetween fI 0 0 := CM.of rfl (by decide) rfl rfl sBX0_stepsBetween_0
theorem yoX0_stepsBetween : YO XX0_stepsBetween 3 0 0 := ⟨tw_785, rfl, tw_8, (by decide +kernel), rfl, rfl⟩
abbrev XX0_measure : MX := (yX0_measure, cX0_measure, 11, none, Cond.code yX0_measure cX0_measure 11 none :: WS, { frames := 1, cells := 0, slots := 0, locals := 26 })
def BX0_measure_56 (k39 : KT HP) (k56 : KT HP) : KT HP :=
  oIld 10 (oAld 4 (oLen (oCmpge (oAld 0 (oLld 5 (oCal 2 (some 0) EX0_besideAll fL (oLld 1 (oland (oLld 7 (oConst (.long (-1)) (olxor (oland (oLst 5 (oLld 7 (oLld 5 (olor (oLst 7 (oInc 9 1 (oPick [0, 1, 4, 5, 7, 9] k39)))))))))))))))) (oLld 5 (oIld 10 (oCal 2 none EX10_isIn fZ (oIfeq (oInc 10 1 (oPick [0, 1, 4, 5, 7, 9, 10] k56)) (oAld 4 (oIld 10 (oIld 9 (oIw (oInc 10 1 (oPick [0, 1, 4, 5, 7, 9, 10] k56)))))))))))))
set_option maxRecDepth 20000 in
theorem sBX0_measure_56 {k39 : KT HP} (hk39 : Snd XX0_measure fVH 39 k39 0 0) {k56 : KT HP} (hk56 : Snd XX0_measure fVH 56 k56 0 0) : Snd XX0_measure fVH 56 (BX0_measure_56 k39 k56) 0 0 := by
  unfold BX0_measure_56
  refine s_Ild 10 58 dX0_measure_56 rfl ?_
  refine s_Ald 4 60 dX0_measure_58 rfl ?_
  refine s_len 61 dX0_measure_60 rfl ?_
  refine s_cmpge 87 64 dX0_measure_61 (by decide) rfl ?_ ?_
  · refine s_Aldn 0 rfl 88 dX0_measure_87 rfl ?_
    refine s_Lld 5 90 dX0_measure_88 rfl ?_
    refine s_cal0 93 (run_V (X := XX0_measure) clX0 yoX0_besideAll rfl tw_737 tw_738 tw_739 (by decide) dX0_measure_90) cmX0_besideAll (fun _ _ _ => rfl) rfl ?_
    refine s_Lldn 1 rfl 94 dX0_measure_93 rfl ?_
    refine s_land 95 dX0_measure_94 rfl ?_
    refine s_Lld 7 97 dX0_measure_95 rfl ?_
    refine s_ldc2 100 (-1) tw_741 dX0_measure_97 rfl ?_
    refine s_lxor 101 dX0_measure_100 rfl ?_
    refine s_land 102 dX0_measure_101 rfl ?_
    refine s_Lst 5 104 (by decide) dX0_measure_102 rfl ?_
    refine s_Lld 7 106 dX0_measure_104 rfl ?_
    refine s_Lld 5 108 dX0_measure_106 rfl ?_
    refine s_lor 109 dX0_measure_108 rfl ?_
    refine s_Lst 7 111 (by decide) dX0_measure_109 rfl ?_
    refine s_inc 9 1 114 (by decide) (by decide) dX0_measure_111 rfl ?_
    refine s_goto 39 dX0_measure_114 (by decide) ?_
    exact s_pick hk39
  · refine s_Lld 5 66 dX0_measure_64 rfl ?_
    refine s_Ild 10 68 dX0_measure_66 rfl ?_
    refine s_cal0 71 (run_SN (X := XX0_measure) yoX10_isIn nw_78 tw_631 (by decide) dX0_measure_68) cmX10_isIn (fun _ _ _ => rfl) rfl ?_
    refine s_ifeq 81 74 dX0_measure_71 (by decide) rfl ?_ ?_
    · refine s_inc 10 1 84 (by decide) (by decide) dX0_measure_81 rfl ?_
      refine s_goto 56 dX0_measure_84 (by decide) ?_
      exact s_pick hk56
    · refine s_Ald 4 76 dX0_measure_74 rfl ?_
      refine s_Ild 10 78 dX0_measure_76 rfl ?_
      refine s_Ild 9 80 dX0_measure_78 rfl ?_
      refine s_Iw 81 pVH dX0_measure_80 rfl ?_
      refine s_inc 10 1 84 (by decide) (by decide) dX0_measure_81 rfl ?_
      refine s_goto 56 dX0_measure_84 (by decide) ?_
      exact s_pick hk56
def BX0_measure_39 (k39 : KT HP) : KT HP :=
  oIld 9 (oConst (.int 48) (oCmpge (oVretH) (oLld 5 (oConst (.long 0) (olcmp (oIfeq (oVretH) (oConst (.int 0) (oIst 10 (oPick [0, 1, 4, 5, 7, 9, 10] (lp (BX0_measure_56 k39) FU))))))))))
set_option maxRecDepth 20000 in
theorem sBX0_measure_39 {k39 : KT HP} (hk39 : Snd XX0_measure fVH 39 k39 0 0) : Snd XX0_measure fVH 39 (BX0_measure_39 k39) 0 0 := by
  unfold BX0_measure_39
  refine s_Ild 9 41 dX0_measure_39 rfl ?_
  refine s_bipush 43 48 (by decide) dX0_measure_41 rfl ?_
  refine s_cmpge 117 46 dX0_measure_43 (by decide) rfl ?_ ?_
  · exact s_vretH rfl dX0_measure_117
  · refine s_Lld 5 48 dX0_measure_46 rfl ?_
    refine s_lconst 49 0 (by decide) dX0_measure_48 rfl ?_
    refine s_lcmp 50 dX0_measure_49 rfl ?_
    refine s_ifeq 117 53 dX0_measure_50 (by decide) rfl ?_ ?_
    · exact s_vretH rfl dX0_measure_117
    · refine s_iconst 54 0 (by decide) dX0_measure_53 rfl ?_
      refine s_Ist 10 56 (by decide) dX0_measure_54 rfl ?_
      exact s_pick (s_lp (fun k hk => sBX0_measure_56 hk39 hk) FU)
def BX0_measure_3 (k3 : KT HP) : KT HP :=
  oIld 5 (oAld 4 (oLen (oCmpge (oIld 3 (oCal 1 none EX10_bit fL (oLld 1 (oland (oLst 5 (oLld 5 (oLst 7 (oConst (.int 0) (oIst 9 (oPick [0, 1, 4, 5, 7, 9] (lp (BX0_measure_39) FU))))))))))) (oAld 4 (oIld 5 (oConst (.int (-2)) (oIw (oInc 5 1 (oPick [0, 1, 3, 4, 5] k3)))))))))
set_option maxRecDepth 20000 in
theorem sBX0_measure_3 {k3 : KT HP} (hk3 : Snd XX0_measure fVH 3 k3 0 0) : Snd XX0_measure fVH 3 (BX0_measure_3 k3) 0 0 := by
  unfold BX0_measure_3
  refine s_Ild 5 5 dX0_measure_3 rfl ?_
  refine s_Ald 4 7 dX0_measure_5 rfl ?_
  refine s_len 8 dX0_measure_7 rfl ?_
  refine s_cmpge 24 11 dX0_measure_8 (by decide) rfl ?_ ?_
  · refine s_Ildn 3 rfl 25 dX0_measure_24 rfl ?_
    refine s_cal0 28 (run_SN (X := XX0_measure) yoX10_bit nw_74 tw_432 (by decide) dX0_measure_25) cmX10_bit (fun _ _ _ => rfl) rfl ?_
    refine s_Lldn 1 rfl 29 dX0_measure_28 rfl ?_
    refine s_land 30 dX0_measure_29 rfl ?_
    refine s_Lst 5 32 (by decide) dX0_measure_30 rfl ?_
    refine s_Lld 5 34 dX0_measure_32 rfl ?_
    refine s_Lst 7 36 (by decide) dX0_measure_34 rfl ?_
    refine s_iconst 37 0 (by decide) dX0_measure_36 rfl ?_
    refine s_Ist 9 39 (by decide) dX0_measure_37 rfl ?_
    exact s_pick (s_lp (fun k hk => sBX0_measure_39  hk) FU)
  · refine s_Ald 4 13 dX0_measure_11 rfl ?_
    refine s_Ild 5 15 dX0_measure_13 rfl ?_
    refine s_bipush 17 (-2) (by decide) dX0_measure_15 rfl ?_
    refine s_Iw 18 pVH dX0_measure_17 rfl ?_
    refine s_inc 5 1 21 (by decide) (by decide) dX0_measure_18 rfl ?_
    refine s_goto 3 dX0_measure_21 (by decide) ?_
    exact s_pick hk3
def BX0_measure_0 : KT HP :=
  oConst (.int 0) (oIst 5 (oPick [0, 1, 3, 4, 5] (lp (BX0_measure_3) FU)))
set_option maxRecDepth 20000 in
theorem sBX0_measure_0 : Snd XX0_measure fVH 0 (BX0_measure_0) 0 0 := by
  unfold BX0_measure_0
  refine s_iconst 1 0 (by decide) dX0_measure_0 rfl ?_
  refine s_Ist 5 3 (by decide) dX0_measure_1 rfl ?_
  exact s_pick (s_lp (fun k hk => sBX0_measure_3  hk) FU)
def EX0_measure : List Value → HP → Option HP := en 11 BX0_measure_0
theorem cmX0_measure : CM XX0_measure EX0_measure fVH 0 0 := CM.of rfl (by decide) rfl rfl sBX0_measure_0
theorem yoX0_measure : YO XX0_measure 3 0 0 := ⟨tw_840, rfl, tw_8, (by decide +kernel), rfl, rfl⟩
abbrev XJ13_bitCount_95d88 : MX := (yJ13_bitCount_95d88, cJ13_bitCount_95d88, 2, (Option.some .int), Cond.code yJ13_bitCount_95d88 cJ13_bitCount_95d88 2 (Option.some .int) :: WS, { frames := 0, cells := 0, slots := 0, locals := 0 })
def BJ13_bitCount_95d88_0 : KT Int32 :=
  oLld 0 (oLld 0 (oConst (.int 1) (olushr (oConst (.long 6148914691236517205) (oland (olsub (oLst 0 (oLld 0 (oConst (.long 3689348814741910323) (oland (oLld 0 (oConst (.int 2) (olushr (oConst (.long 3689348814741910323) (oland (oladd (oLst 0 (oLld 0 (oLld 0 (oConst (.int 4) (olushr (oladd (oConst (.long 1085102592571150095) (oland (oLst 0 (oLld 0 (oLld 0 (oConst (.int 8) (olushr (oladd (oLst 0 (oLld 0 (oLld 0 (oConst (.int 16) (olushr (oladd (oLst 0 (oLld 0 (oLld 0 (oConst (.int 32) (olushr (oladd (oLst 0 (oLld 0 (ol2i (oConst (.int 127) (oiand (oIretP))))))))))))))))))))))))))))))))))))))))))))))))
set_option maxRecDepth 20000 in
theorem sBJ13_bitCount_95d88_0 : Snd XJ13_bitCount_95d88 fI 0 (BJ13_bitCount_95d88_0) 0 0 := by
  unfold BJ13_bitCount_95d88_0
  refine s_Lldn 0 rfl 1 dJ13_bitCount_95d88_0 rfl ?_
  refine s_Lldn 0 rfl 2 dJ13_bitCount_95d88_1 rfl ?_
  refine s_iconst 3 1 (by decide) dJ13_bitCount_95d88_2 rfl ?_
  refine s_lushr 4 dJ13_bitCount_95d88_3 rfl ?_
  refine s_ldc2 7 6148914691236517205 tw_699 dJ13_bitCount_95d88_4 rfl ?_
  refine s_land 8 dJ13_bitCount_95d88_7 rfl ?_
  refine s_lsub 9 dJ13_bitCount_95d88_8 rfl ?_
  refine s_Lstn 0 rfl 10 (by decide) dJ13_bitCount_95d88_9 rfl ?_
  refine s_Lldn 0 rfl 11 dJ13_bitCount_95d88_10 rfl ?_
  refine s_ldc2 14 3689348814741910323 tw_700 dJ13_bitCount_95d88_11 rfl ?_
  refine s_land 15 dJ13_bitCount_95d88_14 rfl ?_
  refine s_Lldn 0 rfl 16 dJ13_bitCount_95d88_15 rfl ?_
  refine s_iconst 17 2 (by decide) dJ13_bitCount_95d88_16 rfl ?_
  refine s_lushr 18 dJ13_bitCount_95d88_17 rfl ?_
  refine s_ldc2 21 3689348814741910323 tw_700 dJ13_bitCount_95d88_18 rfl ?_
  refine s_land 22 dJ13_bitCount_95d88_21 rfl ?_
  refine s_ladd 23 dJ13_bitCount_95d88_22 rfl ?_
  refine s_Lstn 0 rfl 24 (by decide) dJ13_bitCount_95d88_23 rfl ?_
  refine s_Lldn 0 rfl 25 dJ13_bitCount_95d88_24 rfl ?_
  refine s_Lldn 0 rfl 26 dJ13_bitCount_95d88_25 rfl ?_
  refine s_iconst 27 4 (by decide) dJ13_bitCount_95d88_26 rfl ?_
  refine s_lushr 28 dJ13_bitCount_95d88_27 rfl ?_
  refine s_ladd 29 dJ13_bitCount_95d88_28 rfl ?_
  refine s_ldc2 32 1085102592571150095 tw_701 dJ13_bitCount_95d88_29 rfl ?_
  refine s_land 33 dJ13_bitCount_95d88_32 rfl ?_
  refine s_Lstn 0 rfl 34 (by decide) dJ13_bitCount_95d88_33 rfl ?_
  refine s_Lldn 0 rfl 35 dJ13_bitCount_95d88_34 rfl ?_
  refine s_Lldn 0 rfl 36 dJ13_bitCount_95d88_35 rfl ?_
  refine s_bipush 38 8 (by decide) dJ13_bitCount_95d88_36 rfl ?_
  refine s_lushr 39 dJ13_bitCount_95d88_38 rfl ?_
  refine s_ladd 40 dJ13_bitCount_95d88_39 rfl ?_
  refine s_Lstn 0 rfl 41 (by decide) dJ13_bitCount_95d88_40 rfl ?_
  refine s_Lldn 0 rfl 42 dJ13_bitCount_95d88_41 rfl ?_
  refine s_Lldn 0 rfl 43 dJ13_bitCount_95d88_42 rfl ?_
  refine s_bipush 45 16 (by decide) dJ13_bitCount_95d88_43 rfl ?_
  refine s_lushr 46 dJ13_bitCount_95d88_45 rfl ?_
  refine s_ladd 47 dJ13_bitCount_95d88_46 rfl ?_
  refine s_Lstn 0 rfl 48 (by decide) dJ13_bitCount_95d88_47 rfl ?_
  refine s_Lldn 0 rfl 49 dJ13_bitCount_95d88_48 rfl ?_
  refine s_Lldn 0 rfl 50 dJ13_bitCount_95d88_49 rfl ?_
  refine s_bipush 52 32 (by decide) dJ13_bitCount_95d88_50 rfl ?_
  refine s_lushr 53 dJ13_bitCount_95d88_52 rfl ?_
  refine s_ladd 54 dJ13_bitCount_95d88_53 rfl ?_
  refine s_Lstn 0 rfl 55 (by decide) dJ13_bitCount_95d88_54 rfl ?_
  refine s_Lldn 0 rfl 56 dJ13_bitCount_95d88_55 rfl ?_
  refine s_l2i 57 dJ13_bitCount_95d88_56 rfl ?_
  refine s_bipush 59 127 (by decide) dJ13_bitCount_95d88_57 rfl ?_
  refine s_iand 60 dJ13_bitCount_95d88_59 rfl ?_
  exact s_iretP rfl dJ13_bitCount_95d88_60
def EJ13_bitCount_95d88 : List Value → HP → Option Int32 := en 2 BJ13_bitCount_95d88_0
theorem cmJ13_bitCount_95d88 : CM XJ13_bitCount_95d88 EJ13_bitCount_95d88 fI 0 0 := CM.of rfl (by decide) rfl rfl sBJ13_bitCount_95d88_0
theorem yoJ13_bitCount_95d88 : YO XJ13_bitCount_95d88 1 0 0 := ⟨tw_698, rfl, tw_18, (by decide +kernel), rfl, rfl⟩
abbrev XX0_countBeside : MX := (yX0_countBeside, cX0_countBeside, 4, (Option.some .int), Cond.code yX0_countBeside cX0_countBeside 4 (Option.some .int) :: WS, { frames := 1, cells := 0, slots := 0, locals := 26 })
def BX0_countBeside_0 : KT Int32 :=
  oAld 0 (oIld 3 (oCal 1 none EX10_bit fL (oCal 2 (some 0) EX0_besideAll fL (oLld 1 (oland (oCal 1 none EJ13_bitCount_95d88 fI (oIretP)))))))
set_option maxRecDepth 20000 in
theorem sBX0_countBeside_0 : Snd XX0_countBeside fI 0 (BX0_countBeside_0) 0 0 := by
  unfold BX0_countBeside_0
  refine s_Aldn 0 rfl 1 dX0_countBeside_0 rfl ?_
  refine s_Ildn 3 rfl 2 dX0_countBeside_1 rfl ?_
  refine s_cal0 5 (run_SN (X := XX0_countBeside) yoX10_bit nw_74 tw_432 (by decide) dX0_countBeside_2) cmX10_bit (fun _ _ _ => rfl) rfl ?_
  refine s_cal0 8 (run_V (X := XX0_countBeside) clX0 yoX0_besideAll rfl tw_737 tw_738 tw_739 (by decide) dX0_countBeside_5) cmX0_besideAll (fun _ _ _ => rfl) rfl ?_
  refine s_Lldn 1 rfl 9 dX0_countBeside_8 rfl ?_
  refine s_land 10 dX0_countBeside_9 rfl ?_
  refine s_cal0 13 (run_S (X := XX0_countBeside) yoJ13_bitCount_95d88 tw_742 tw_697 (by decide) dX0_countBeside_10) cmJ13_bitCount_95d88 (fun _ _ _ => rfl) rfl ?_
  exact s_iretP rfl dX0_countBeside_13
def EX0_countBeside : List Value → HP → Option Int32 := en 4 BX0_countBeside_0
theorem cmX0_countBeside : CM XX0_countBeside EX0_countBeside fI 0 0 := CM.of rfl (by decide) rfl rfl sBX0_countBeside_0
theorem yoX0_countBeside : YO XX0_countBeside 2 0 0 := ⟨tw_736, rfl, tw_8, (by decide +kernel), rfl, rfl⟩
abbrev XX0_countEnds : MX := (yX0_countEnds, cX0_countEnds, 5, (Option.some .int), Cond.code yX0_countEnds cX0_countEnds 5 (Option.some .int) :: WS, { frames := 2, cells := 0, slots := 0, locals := 49 })
def BX0_countEnds_5 (k5 : KT Int32) : KT Int32 :=
  oIld 4 (oAld 0 (oGet 0 3 (oCmpge (oIld 3 (oIretP)) (oLld 1 (oIld 4 (oCal 2 none EX10_isIn fZ (oIfeq (oInc 4 1 (oPick [0, 1, 3, 4] k5)) (oAld 0 (oLld 1 (oIld 4 (oCal 3 (some 0) EX0_countBeside fI (oConst (.int 1) (oCmpne (oInc 4 1 (oPick [0, 1, 3, 4] k5)) (oInc 3 1 (oInc 4 1 (oPick [0, 1, 3, 4] k5))))))))))))))))
set_option maxRecDepth 20000 in
theorem sBX0_countEnds_5 {k5 : KT Int32} (hk5 : Snd XX0_countEnds fI 5 k5 0 0) : Snd XX0_countEnds fI 5 (BX0_countEnds_5 k5) 0 0 := by
  unfold BX0_countEnds_5
  refine s_Ild 4 7 dX0_countEnds_5 rfl ?_
  refine s_Aldn 0 rfl 8 dX0_countEnds_7 rfl ?_
  refine s_get 0 3 11 clX0 (by decide) tw_162 dX0_countEnds_8 rfl ?_
  refine s_cmpge 43 14 dX0_countEnds_11 (by decide) rfl ?_ ?_
  · refine s_Ildn 3 rfl 44 dX0_countEnds_43 rfl ?_
    exact s_iretP rfl dX0_countEnds_44
  · refine s_Lldn 1 rfl 15 dX0_countEnds_14 rfl ?_
    refine s_Ild 4 17 dX0_countEnds_15 rfl ?_
    refine s_cal0 20 (run_SN (X := XX0_countEnds) yoX10_isIn nw_78 tw_631 (by decide) dX0_countEnds_17) cmX10_isIn (fun _ _ _ => rfl) rfl ?_
    refine s_ifeq 37 23 dX0_countEnds_20 (by decide) rfl ?_ ?_
    · refine s_inc 4 1 40 (by decide) (by decide) dX0_countEnds_37 rfl ?_
      refine s_goto 5 dX0_countEnds_40 (by decide) ?_
      exact s_pick hk5
    · refine s_Aldn 0 rfl 24 dX0_countEnds_23 rfl ?_
      refine s_Lldn 1 rfl 25 dX0_countEnds_24 rfl ?_
      refine s_Ild 4 27 dX0_countEnds_25 rfl ?_
      refine s_cal0 30 (run_V (X := XX0_countEnds) clX0 yoX0_countBeside rfl tw_773 tw_734 tw_735 (by decide) dX0_countEnds_27) cmX0_countBeside (fun _ _ _ => rfl) rfl ?_
      refine s_iconst 31 1 (by decide) dX0_countEnds_30 rfl ?_
      refine s_cmpne 37 34 dX0_countEnds_31 (by decide) rfl ?_ ?_
      · refine s_inc 4 1 40 (by decide) (by decide) dX0_countEnds_37 rfl ?_
        refine s_goto 5 dX0_countEnds_40 (by decide) ?_
        exact s_pick hk5
      · refine s_inc 3 1 37 (by decide) (by decide) dX0_countEnds_34 rfl ?_
        refine s_inc 4 1 40 (by decide) (by decide) dX0_countEnds_37 rfl ?_
        refine s_goto 5 dX0_countEnds_40 (by decide) ?_
        exact s_pick hk5
def BX0_countEnds_0 : KT Int32 :=
  oConst (.int 0) (oIst 3 (oConst (.int 0) (oIst 4 (oPick [0, 1, 3, 4] (lp (BX0_countEnds_5) FU)))))
set_option maxRecDepth 20000 in
theorem sBX0_countEnds_0 : Snd XX0_countEnds fI 0 (BX0_countEnds_0) 0 0 := by
  unfold BX0_countEnds_0
  refine s_iconst 1 0 (by decide) dX0_countEnds_0 rfl ?_
  refine s_Istn 3 rfl 2 (by decide) dX0_countEnds_1 rfl ?_
  refine s_iconst 3 0 (by decide) dX0_countEnds_2 rfl ?_
  refine s_Ist 4 5 (by decide) dX0_countEnds_3 rfl ?_
  exact s_pick (s_lp (fun k hk => sBX0_countEnds_5  hk) FU)
def EX0_countEnds : List Value → HP → Option Int32 := en 5 BX0_countEnds_0
theorem cmX0_countEnds : CM XX0_countEnds EX0_countEnds fI 0 0 := CM.of rfl (by decide) rfl rfl sBX0_countEnds_0
theorem yoX0_countEnds : YO XX0_countEnds 1 0 0 := ⟨tw_771, rfl, tw_8, (by decide +kernel), rfl, rfl⟩
