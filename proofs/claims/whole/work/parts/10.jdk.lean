noncomputable section
abbrev XX10_bit : MX := (yX10_bit, cX10_bit, 1, (Option.some .long), Cond.code yX10_bit cX10_bit 1 (Option.some .long) :: WS, { frames := 0, cells := 0, slots := 0, locals := 0 })
def BX10_bit_0 : KT Int64 :=
  oConst (.long 1) (oIld 0 (olshl (oLretP)))
set_option maxRecDepth 20000 in
theorem sBX10_bit_0 : Snd XX10_bit fL 0 (BX10_bit_0) (0) (0) := by
  unfold BX10_bit_0
  refine s_lconst 1 1 (by decide) dX10_bit_0 rfl ?_
  refine s_Ildn 0 rfl 2 dX10_bit_1 rfl ?_
  refine s_lshl 3 dX10_bit_2 rfl ?_
  exact s_lretP rfl dX10_bit_3
def EX10_bit : List Value → HP → Option Int64 := en 1 BX10_bit_0
theorem cmX10_bit : CM XX10_bit EX10_bit fL 0 0 := CM.of rfl (by decide) rfl rfl sBX10_bit_0
theorem yoX10_bit : YO XX10_bit 1 0 0 := ⟨tw_433, rfl, tw_1, (by decide +kernel), rfl, rfl⟩
abbrev XJ13_bitCount_95d88 : MX := (yJ13_bitCount_95d88, cJ13_bitCount_95d88, 2, (Option.some .int), Cond.code yJ13_bitCount_95d88 cJ13_bitCount_95d88 2 (Option.some .int) :: WS, { frames := 0, cells := 0, slots := 0, locals := 0 })
def BJ13_bitCount_95d88_0 : KT Int32 :=
  oLld 0 (oLld 0 (oConst (.int 1) (olushr (oConst (.long 6148914691236517205) (oland (olsub (oLst 0 (oLld 0 (oConst (.long 3689348814741910323) (oland (oLld 0 (oConst (.int 2) (olushr (oConst (.long 3689348814741910323) (oland (oladd (oLst 0 (oLld 0 (oLld 0 (oConst (.int 4) (olushr (oladd (oConst (.long 1085102592571150095) (oland (oLst 0 (oLld 0 (oLld 0 (oConst (.int 8) (olushr (oladd (oLst 0 (oLld 0 (oLld 0 (oConst (.int 16) (olushr (oladd (oLst 0 (oLld 0 (oLld 0 (oConst (.int 32) (olushr (oladd (oLst 0 (oLld 0 (ol2i (oConst (.int 127) (oiand (oIretP))))))))))))))))))))))))))))))))))))))))))))))))
set_option maxRecDepth 20000 in
theorem sBJ13_bitCount_95d88_0 : Snd XJ13_bitCount_95d88 fI 0 (BJ13_bitCount_95d88_0) (0) (0) := by
  unfold BJ13_bitCount_95d88_0
  refine s_Lldn 0 rfl 1 dJ13_bitCount_95d88_0 rfl ?_
  refine s_Lldn 0 rfl 2 dJ13_bitCount_95d88_1 rfl ?_
  refine s_iconst 3 1 (by decide) dJ13_bitCount_95d88_2 rfl ?_
  refine s_lushr 4 dJ13_bitCount_95d88_3 rfl ?_
  refine s_ldc2 7 6148914691236517205 tw_699 dJ13_bitCount_95d88_4 rfl ?_
  refine s_land 8 dJ13_bitCount_95d88_7 rfl ?_
  refine s_lsub 9 dJ13_bitCount_95d88_8 rfl ?_
  refine s_Lstn 0 rfl 10 (by decide) dJ13_bitCount_95d88_9 rfl ?_
  refine s_Lldn 0 rfl 11 dJ13_bitCount_95d88_10 rfl ?_
  refine s_ldc2 14 3689348814741910323 tw_700 dJ13_bitCount_95d88_11 rfl ?_
  refine s_land 15 dJ13_bitCount_95d88_14 rfl ?_
  refine s_Lldn 0 rfl 16 dJ13_bitCount_95d88_15 rfl ?_
  refine s_iconst 17 2 (by decide) dJ13_bitCount_95d88_16 rfl ?_
  refine s_lushr 18 dJ13_bitCount_95d88_17 rfl ?_
  refine s_ldc2 21 3689348814741910323 tw_700 dJ13_bitCount_95d88_18 rfl ?_
  refine s_land 22 dJ13_bitCount_95d88_21 rfl ?_
  refine s_ladd 23 dJ13_bitCount_95d88_22 rfl ?_
  refine s_Lstn 0 rfl 24 (by decide) dJ13_bitCount_95d88_23 rfl ?_
  refine s_Lldn 0 rfl 25 dJ13_bitCount_95d88_24 rfl ?_
  refine s_Lldn 0 rfl 26 dJ13_bitCount_95d88_25 rfl ?_
  refine s_iconst 27 4 (by decide) dJ13_bitCount_95d88_26 rfl ?_
  refine s_lushr 28 dJ13_bitCount_95d88_27 rfl ?_
  refine s_ladd 29 dJ13_bitCount_95d88_28 rfl ?_
  refine s_ldc2 32 1085102592571150095 tw_701 dJ13_bitCount_95d88_29 rfl ?_
  refine s_land 33 dJ13_bitCount_95d88_32 rfl ?_
  refine s_Lstn 0 rfl 34 (by decide) dJ13_bitCount_95d88_33 rfl ?_
  refine s_Lldn 0 rfl 35 dJ13_bitCount_95d88_34 rfl ?_
  refine s_Lldn 0 rfl 36 dJ13_bitCount_95d88_35 rfl ?_
  refine s_bipush 38 8 (by decide) dJ13_bitCount_95d88_36 rfl ?_
  refine s_lushr 39 dJ13_bitCount_95d88_38 rfl ?_
  refine s_ladd 40 dJ13_bitCount_95d88_39 rfl ?_
  refine s_Lstn 0 rfl 41 (by decide) dJ13_bitCount_95d88_40 rfl ?_
  refine s_Lldn 0 rfl 42 dJ13_bitCount_95d88_41 rfl ?_
  refine s_Lldn 0 rfl 43 dJ13_bitCount_95d88_42 rfl ?_
  refine s_bipush 45 16 (by decide) dJ13_bitCount_95d88_43 rfl ?_
  refine s_lushr 46 dJ13_bitCount_95d88_45 rfl ?_
  refine s_ladd 47 dJ13_bitCount_95d88_46 rfl ?_
  refine s_Lstn 0 rfl 48 (by decide) dJ13_bitCount_95d88_47 rfl ?_
  refine s_Lldn 0 rfl 49 dJ13_bitCount_95d88_48 rfl ?_
  refine s_Lldn 0 rfl 50 dJ13_bitCount_95d88_49 rfl ?_
  refine s_bipush 52 32 (by decide) dJ13_bitCount_95d88_50 rfl ?_
  refine s_lushr 53 dJ13_bitCount_95d88_52 rfl ?_
  refine s_ladd 54 dJ13_bitCount_95d88_53 rfl ?_
  refine s_Lstn 0 rfl 55 (by decide) dJ13_bitCount_95d88_54 rfl ?_
  refine s_Lldn 0 rfl 56 dJ13_bitCount_95d88_55 rfl ?_
  refine s_l2i 57 dJ13_bitCount_95d88_56 rfl ?_
  refine s_bipush 59 127 (by decide) dJ13_bitCount_95d88_57 rfl ?_
  refine s_iand 60 dJ13_bitCount_95d88_59 rfl ?_
  exact s_iretP rfl dJ13_bitCount_95d88_60
def EJ13_bitCount_95d88 : List Value → HP → Option Int32 := en 2 BJ13_bitCount_95d88_0
theorem cmJ13_bitCount_95d88 : CM XJ13_bitCount_95d88 EJ13_bitCount_95d88 fI 0 0 := CM.of rfl (by decide) rfl rfl sBJ13_bitCount_95d88_0
theorem yoJ13_bitCount_95d88 : YO XJ13_bitCount_95d88 1 0 0 := ⟨tw_698, rfl, tw_18, (by decide +kernel), rfl, rfl⟩
abbrev XX10_isIn : MX := (yX10_isIn, cX10_isIn, 3, (Option.some .boolean), Cond.code yX10_isIn cX10_isIn 3 (Option.some .boolean) :: WS, { frames := 0, cells := 0, slots := 0, locals := 0 })
def BX10_isIn_0 : KT Bool :=
  oLld 0 (oIld 2 (olushr (oConst (.long 1) (oland (oConst (.long 0) (olcmp (oIfeq (oConst (.int 0) (oZretP)) (oConst (.int 1) (oZretP)))))))))
set_option maxRecDepth 20000 in
theorem sBX10_isIn_0 : Snd XX10_isIn fZ 0 (BX10_isIn_0) (0) (0) := by
  unfold BX10_isIn_0
  refine s_Lldn 0 rfl 1 dX10_isIn_0 rfl ?_
  refine s_Ildn 2 rfl 2 dX10_isIn_1 rfl ?_
  refine s_lushr 3 dX10_isIn_2 rfl ?_
  refine s_lconst 4 1 (by decide) dX10_isIn_3 rfl ?_
  refine s_land 5 dX10_isIn_4 rfl ?_
  refine s_lconst 6 0 (by decide) dX10_isIn_5 rfl ?_
  refine s_lcmp 7 dX10_isIn_6 rfl ?_
  refine s_ifeq 14 10 dX10_isIn_7 (by decide) rfl ?_ ?_
  · refine s_iconst 15 0 (by decide) dX10_isIn_14 rfl ?_
    exact s_zretP rfl dX10_isIn_15
  · refine s_iconst 11 1 (by decide) dX10_isIn_10 rfl ?_
    refine s_goto 15 dX10_isIn_11 (by decide) ?_
    exact s_zretP rfl dX10_isIn_15
def EX10_isIn : List Value → HP → Option Bool := en 3 BX10_isIn_0
theorem cmX10_isIn : CM XX10_isIn EX10_isIn fZ 0 0 := CM.of rfl (by decide) rfl rfl sBX10_isIn_0
theorem yoX10_isIn : YO XX10_isIn 2 0 0 := ⟨tw_632, rfl, tw_1, (by decide +kernel), rfl, rfl⟩
abbrev XJ0_coder_7d493 : MX := (yJ0_coder_7d493, cJ0_coder_7d493, 1, (Option.some .byte), Cond.code yJ0_coder_7d493 cJ0_coder_7d493 1 (Option.some .byte) :: WS, { frames := 0, cells := 0, slots := 0, locals := 0 })
def BJ0_coder_7d493_0 : KT Int32 :=
  oConst (.int 1) (oIfeq (oConst (.int 1) (oBretP)) (oAld 0 (oScd (oBretP))))
set_option maxRecDepth 20000 in
theorem sBJ0_coder_7d493_0 : Snd XJ0_coder_7d493 fI 0 (BJ0_coder_7d493_0) (0) (0) := by
  unfold BJ0_coder_7d493_0
  refine s_gcs 3 tw_490 dJ0_coder_7d493_0 rfl ?_
  refine s_ifeq 13 6 dJ0_coder_7d493_3 (by decide) rfl ?_ ?_
  · refine s_iconst 14 1 (by decide) dJ0_coder_7d493_13 rfl ?_
    exact s_bretP rfl dJ0_coder_7d493_14
  · refine s_Aldn 0 rfl 7 dJ0_coder_7d493_6 rfl ?_
    refine s_scd 10 tw_2053 dJ0_coder_7d493_7 rfl ?_
    refine s_goto 14 dJ0_coder_7d493_10 (by decide) ?_
    exact s_bretP rfl dJ0_coder_7d493_14
def EJ0_coder_7d493 : List Value → HP → Option Int32 := en 1 BJ0_coder_7d493_0
theorem cmJ0_coder_7d493 : CM XJ0_coder_7d493 EJ0_coder_7d493 fI 0 0 := CM.of rfl (by decide) rfl rfl sBJ0_coder_7d493_0
theorem yoJ0_coder_7d493 : YO XJ0_coder_7d493 0 0 0 := ⟨tw_489, rfl, tw_14, (by decide +kernel), rfl, rfl⟩
abbrev XJ0_length_8abf5 : MX := (yJ0_length_8abf5, cJ0_length_8abf5, 1, (Option.some .int), Cond.code yJ0_length_8abf5 cJ0_length_8abf5 1 (Option.some .int) :: WS, { frames := 1, cells := 0, slots := 0, locals := 20 })
def BJ0_length_8abf5_0 : KT Int32 :=
  oAld 0 (oSvl (oSln (oAld 0 (oCal 1 (some 99) EJ0_coder_7d493 fI (oishr (oIretP))))))
set_option maxRecDepth 20000 in
theorem sBJ0_length_8abf5_0 : Snd XJ0_length_8abf5 fI 0 (BJ0_length_8abf5_0) (0) (0) := by
  unfold BJ0_length_8abf5_0
  refine s_Aldn 0 rfl 1 dJ0_length_8abf5_0 rfl ?_
  refine s_svl 4 tw_2052 dJ0_length_8abf5_1 rfl ?_
  refine s_sln 5 dJ0_length_8abf5_4 rfl ?_
  refine s_Aldn 0 rfl 6 dJ0_length_8abf5_5 rfl ?_
  refine s_cal0 9 (run_VS (X := XJ0_length_8abf5) yoJ0_coder_7d493 rfl tw_486 tw_487 tw_488 (by decide) dJ0_length_8abf5_6) cmJ0_coder_7d493 (fun _ _ _ => rfl) rfl ?_
  refine s_ishr 10 dJ0_length_8abf5_9 rfl ?_
  exact s_iretP rfl dJ0_length_8abf5_10
def EJ0_length_8abf5 : List Value → HP → Option Int32 := en 1 BJ0_length_8abf5_0
theorem cmJ0_length_8abf5 : CM XJ0_length_8abf5 EJ0_length_8abf5 fI 0 0 := CM.of rfl (by decide) rfl rfl sBJ0_length_8abf5_0
theorem yoJ0_length_8abf5 : YO XJ0_length_8abf5 0 0 0 := ⟨tw_485, rfl, tw_14, (by decide +kernel), rfl, rfl⟩
abbrev XJ0_isLatin1_aae02 : MX := (yJ0_isLatin1_aae02, cJ0_isLatin1_aae02, 1, (Option.some .boolean), Cond.code yJ0_isLatin1_aae02 cJ0_isLatin1_aae02 1 (Option.some .boolean) :: WS, { frames := 0, cells := 0, slots := 0, locals := 0 })
def BJ0_isLatin1_aae02_0 : KT Bool :=
  oConst (.int 1) (oIfeq (oConst (.int 0) (oZretP)) (oAld 0 (oScd (oIfne (oConst (.int 0) (oZretP)) (oConst (.int 1) (oZretP))))))
set_option maxRecDepth 20000 in
theorem sBJ0_isLatin1_aae02_0 : Snd XJ0_isLatin1_aae02 fZ 0 (BJ0_isLatin1_aae02_0) (0) (0) := by
  unfold BJ0_isLatin1_aae02_0
  refine s_gcs 3 tw_490 dJ0_isLatin1_aae02_0 rfl ?_
  refine s_ifeq 17 6 dJ0_isLatin1_aae02_3 (by decide) rfl ?_ ?_
  · refine s_iconst 18 0 (by decide) dJ0_isLatin1_aae02_17 rfl ?_
    exact s_zretP rfl dJ0_isLatin1_aae02_18
  · refine s_Aldn 0 rfl 7 dJ0_isLatin1_aae02_6 rfl ?_
    refine s_scd 10 tw_2053 dJ0_isLatin1_aae02_7 rfl ?_
    refine s_ifne 17 13 dJ0_isLatin1_aae02_10 (by decide) rfl ?_ ?_
    · refine s_iconst 18 0 (by decide) dJ0_isLatin1_aae02_17 rfl ?_
      exact s_zretP rfl dJ0_isLatin1_aae02_18
    · refine s_iconst 14 1 (by decide) dJ0_isLatin1_aae02_13 rfl ?_
      refine s_goto 18 dJ0_isLatin1_aae02_14 (by decide) ?_
      exact s_zretP rfl dJ0_isLatin1_aae02_18
def EJ0_isLatin1_aae02 : List Value → HP → Option Bool := en 1 BJ0_isLatin1_aae02_0
theorem cmJ0_isLatin1_aae02 : CM XJ0_isLatin1_aae02 EJ0_isLatin1_aae02 fZ 0 0 := CM.of rfl (by decide) rfl rfl sBJ0_isLatin1_aae02_0
theorem yoJ0_isLatin1_aae02 : YO XJ0_isLatin1_aae02 0 0 0 := ⟨tw_499, rfl, tw_14, (by decide +kernel), rfl, rfl⟩
abbrev XJ3_checkIndex_8e157 : MX := (yJ3_checkIndex_8e157, cJ3_checkIndex_8e157, 3, (Option.some .int), Cond.code yJ3_checkIndex_8e157 cJ3_checkIndex_8e157 3 (Option.some .int) :: WS, { frames := 0, cells := 0, slots := 0, locals := 0 })
def BJ3_checkIndex_8e157_0 : KT Int32 :=
  oIld 0 (oIflt (kN) (oIld 0 (oIld 1 (oCmplt (oIld 0 (oIretP)) (kN)))))
set_option maxRecDepth 20000 in
theorem sBJ3_checkIndex_8e157_0 : Snd XJ3_checkIndex_8e157 fI 0 (BJ3_checkIndex_8e157_0) (0) (0) := by
  unfold BJ3_checkIndex_8e157_0
  refine s_Ildn 0 rfl 1 dJ3_checkIndex_8e157_0 rfl ?_
  refine s_iflt 9 4 dJ3_checkIndex_8e157_1 (by decide) rfl ?_ ?_
  · exact s_none
  · refine s_Ildn 0 rfl 5 dJ3_checkIndex_8e157_4 rfl ?_
    refine s_Ildn 1 rfl 6 dJ3_checkIndex_8e157_5 rfl ?_
    refine s_cmplt 16 9 dJ3_checkIndex_8e157_6 (by decide) rfl ?_ ?_
    · refine s_Ildn 0 rfl 17 dJ3_checkIndex_8e157_16 rfl ?_
      exact s_iretP rfl dJ3_checkIndex_8e157_17
    · exact s_none
def EJ3_checkIndex_8e157 : List Value → HP → Option Int32 := en 3 BJ3_checkIndex_8e157_0
theorem cmJ3_checkIndex_8e157 : CM XJ3_checkIndex_8e157 EJ3_checkIndex_8e157 fI 0 0 := CM.of rfl (by decide) rfl rfl sBJ3_checkIndex_8e157_0
theorem yoJ3_checkIndex_8e157 : YO XJ3_checkIndex_8e157 3 0 0 := ⟨tw_510, rfl, tw_16, (by decide +kernel), rfl, rfl⟩
abbrev XJ0_checkIndex_df160 : MX := (yJ0_checkIndex_df160, cJ0_checkIndex_df160, 2, none, Cond.code yJ0_checkIndex_df160 cJ0_checkIndex_df160 2 none :: WS, { frames := 1, cells := 0, slots := 0, locals := 22 })
def BJ0_checkIndex_df160_0 : KT Unit :=
  oIld 0 (oIld 1 (oGsf (oCal 3 none EJ3_checkIndex_8e157 fI (opop (oUretP)))))
set_option maxRecDepth 20000 in
theorem sBJ0_checkIndex_df160_0 : Snd XJ0_checkIndex_df160 fU 0 (BJ0_checkIndex_df160_0) (0) (0) := by
  unfold BJ0_checkIndex_df160_0
  refine s_Ildn 0 rfl 1 dJ0_checkIndex_df160_0 rfl ?_
  refine s_Ildn 1 rfl 2 dJ0_checkIndex_df160_1 rfl ?_
  refine s_gsf 5 (fun _ _ _ _ => rfl) tw_506 dJ0_checkIndex_df160_2 rfl ?_
  refine s_cal0 8 (run_S (X := XJ0_checkIndex_df160) yoJ3_checkIndex_8e157 tw_508 tw_509 (by decide) dJ0_checkIndex_df160_5) cmJ3_checkIndex_8e157 (fun _ _ _ => rfl) rfl ?_
  refine s_pop 9 dJ0_checkIndex_df160_8 rfl ?_
  exact s_uretP rfl dJ0_checkIndex_df160_9
def EJ0_checkIndex_df160 : List Value → HP → Option Unit := en 2 BJ0_checkIndex_df160_0
theorem cmJ0_checkIndex_df160 : CM XJ0_checkIndex_df160 EJ0_checkIndex_df160 fU 0 0 := CM.of rfl (by decide) rfl rfl sBJ0_checkIndex_df160_0
theorem yoJ0_checkIndex_df160 : YO XJ0_checkIndex_df160 2 0 0 := ⟨tw_505, rfl, tw_14, (by decide +kernel), rfl, rfl⟩
abbrev XJ1_charAt_3b067 : MX := (yJ1_charAt_3b067, cJ1_charAt_3b067, 2, (Option.some .char), Cond.code yJ1_charAt_3b067 cJ1_charAt_3b067 2 (Option.some .char) :: WS, { frames := 2, cells := 0, slots := 0, locals := 43 })
def BJ1_charAt_3b067_0 : KT Int32 :=
  oIld 1 (oAld 0 (oSln (oCal 2 none EJ0_checkIndex_df160 fU (oAld 0 (oIld 1 (oSat (oConst (.int 255) (oiand (oi2c (oCretP))))))))))
set_option maxRecDepth 20000 in
theorem sBJ1_charAt_3b067_0 : Snd XJ1_charAt_3b067 fI 0 (BJ1_charAt_3b067_0) (0) (0) := by
  unfold BJ1_charAt_3b067_0
  refine s_Ildn 1 rfl 1 dJ1_charAt_3b067_0 rfl ?_
  refine s_Aldn 0 rfl 2 dJ1_charAt_3b067_1 rfl ?_
  refine s_sln 3 dJ1_charAt_3b067_2 rfl ?_
  refine s_cal0 6 (run_S (X := XJ1_charAt_3b067) yoJ0_checkIndex_df160 tw_503 tw_504 (by decide) dJ1_charAt_3b067_3) cmJ0_checkIndex_df160 (fun _ _ _ => rfl) rfl ?_
  refine s_Aldn 0 rfl 7 dJ1_charAt_3b067_6 rfl ?_
  refine s_Ildn 1 rfl 8 dJ1_charAt_3b067_7 rfl ?_
  refine s_sat 9 dJ1_charAt_3b067_8 rfl ?_
  refine s_sipush 12 255 (by decide) dJ1_charAt_3b067_9 rfl ?_
  refine s_iand 13 dJ1_charAt_3b067_12 rfl ?_
  refine s_i2c 14 dJ1_charAt_3b067_13 rfl ?_
  exact s_cretP rfl dJ1_charAt_3b067_14
def EJ1_charAt_3b067 : List Value → HP → Option Int32 := en 2 BJ1_charAt_3b067_0
theorem cmJ1_charAt_3b067 : CM XJ1_charAt_3b067 EJ1_charAt_3b067 fI 0 0 := CM.of rfl (by decide) rfl rfl sBJ1_charAt_3b067_0
theorem yoJ1_charAt_3b067 : YO XJ1_charAt_3b067 2 0 0 := ⟨tw_502, rfl, tw_15, (by decide +kernel), rfl, rfl⟩
abbrev XJ0_charAt_5068e : MX := (yJ0_charAt_5068e, cJ0_charAt_5068e, 2, (Option.some .char), Cond.code yJ0_charAt_5068e cJ0_charAt_5068e 2 (Option.some .char) :: WS, { frames := 3, cells := 0, slots := 0, locals := 64 })
def BJ0_charAt_5068e_0 : KT Int32 :=
  oAld 0 (oCal 1 (some 99) EJ0_isLatin1_aae02 fZ (oIfeq (kN) (oAld 0 (oSvl (oIld 1 (oCal 2 none EJ1_charAt_3b067 fI (oCretP)))))))
set_option maxRecDepth 20000 in
theorem sBJ0_charAt_5068e_0 : Snd XJ0_charAt_5068e fI 0 (BJ0_charAt_5068e_0) (0) (0) := by
  unfold BJ0_charAt_5068e_0
  refine s_Aldn 0 rfl 1 dJ0_charAt_5068e_0 rfl ?_
  refine s_cal0 4 (run_VS (X := XJ0_charAt_5068e) yoJ0_isLatin1_aae02 rfl tw_496 tw_497 tw_498 (by decide) dJ0_charAt_5068e_1) cmJ0_isLatin1_aae02 (fun _ _ _ => rfl) rfl ?_
  refine s_ifeq 16 7 dJ0_charAt_5068e_4 (by decide) rfl ?_ ?_
  · exact s_none
  · refine s_Aldn 0 rfl 8 dJ0_charAt_5068e_7 rfl ?_
    refine s_svl 11 tw_2052 dJ0_charAt_5068e_8 rfl ?_
    refine s_Ildn 1 rfl 12 dJ0_charAt_5068e_11 rfl ?_
    refine s_cal0 15 (run_S (X := XJ0_charAt_5068e) yoJ1_charAt_3b067 tw_500 tw_501 (by decide) dJ0_charAt_5068e_12) cmJ1_charAt_3b067 (fun _ _ _ => rfl) rfl ?_
    exact s_cretP rfl dJ0_charAt_5068e_15
def EJ0_charAt_5068e : List Value → HP → Option Int32 := en 2 BJ0_charAt_5068e_0
theorem cmJ0_charAt_5068e : CM XJ0_charAt_5068e EJ0_charAt_5068e fI 0 0 := CM.of rfl (by decide) rfl rfl sBJ0_charAt_5068e_0
theorem yoJ0_charAt_5068e : YO XJ0_charAt_5068e 1 0 0 := ⟨tw_495, rfl, tw_14, (by decide +kernel), rfl, rfl⟩
abbrev XX10_nthCell : MX := (yX10_nthCell, cX10_nthCell, 5, (Option.some .int), Cond.code yX10_nthCell cX10_nthCell 5 (Option.some .int) :: WS, { frames := 1, cells := 0, slots := 0, locals := 22 })
def BX10_nthCell_15 (k5 : KT Int32) : KT Int32 :=
  oCal 2 none EX10_isIn fZ (oIfeq (oInc 4 1 (oPick [0, 2, 3, 4] k5)) (oIld 3 (oIld 2 (oCmpne (oInc 3 1 (oInc 4 1 (oPick [0, 2, 3, 4] k5))) (oIld 4 (oIretP))))))
set_option maxRecDepth 20000 in
theorem sBX10_nthCell_15 {k5 : KT Int32} (hk5 : Snd XX10_nthCell fI 5 k5 0 0) : Snd XX10_nthCell fI 15 (BX10_nthCell_15 k5) (0) (0) := by
  unfold BX10_nthCell_15
  refine s_cal0 18 (run_S (X := XX10_nthCell) yoX10_isIn tw_728 tw_631 (by decide) dX10_nthCell_15) cmX10_isIn (fun _ _ _ => rfl) rfl ?_
  refine s_ifeq 32 21 dX10_nthCell_18 (by decide) rfl ?_ ?_
  · refine s_inc 4 1 35 (by decide) (by decide) dX10_nthCell_32 rfl ?_
    refine s_goto 5 dX10_nthCell_35 (by decide) ?_
    exact s_pick hk5
  · refine s_Ildn 3 rfl 22 dX10_nthCell_21 rfl ?_
    refine s_Ildn 2 rfl 23 dX10_nthCell_22 rfl ?_
    refine s_cmpne 29 26 dX10_nthCell_23 (by decide) rfl ?_ ?_
    · refine s_inc 3 1 32 (by decide) (by decide) dX10_nthCell_29 rfl ?_
      refine s_inc 4 1 35 (by decide) (by decide) dX10_nthCell_32 rfl ?_
      refine s_goto 5 dX10_nthCell_35 (by decide) ?_
      exact s_pick hk5
    · refine s_Ild 4 28 dX10_nthCell_26 rfl ?_
      exact s_iretP rfl dX10_nthCell_28
def BX10_nthCell_5 (k5 : KT Int32) : KT Int32 :=
  oIld 4 (oConst (.int 48) (oCmpge (oConst (.int (-2)) (oIretP)) (oLld 0 (oIld 4 (oPick [0, 2, 3, 4] (BX10_nthCell_15 k5))))))
set_option maxRecDepth 20000 in
theorem sBX10_nthCell_5 {k5 : KT Int32} (hk5 : Snd XX10_nthCell fI 5 k5 0 0) : Snd XX10_nthCell fI 5 (BX10_nthCell_5 k5) (0) (0) := by
  unfold BX10_nthCell_5
  refine s_Ild 4 7 dX10_nthCell_5 rfl ?_
  refine s_bipush 9 48 (by decide) dX10_nthCell_7 rfl ?_
  refine s_cmpge 38 12 dX10_nthCell_9 (by decide) rfl ?_ ?_
  · refine s_bipush 40 (-2) (by decide) dX10_nthCell_38 rfl ?_
    exact s_iretP rfl dX10_nthCell_40
  · refine s_Lldn 0 rfl 13 dX10_nthCell_12 rfl ?_
    refine s_Ild 4 15 dX10_nthCell_13 rfl ?_
    exact s_pick (sBX10_nthCell_15 hk5)
def BX10_nthCell_0 : KT Int32 :=
  oConst (.int 0) (oIst 3 (oConst (.int 0) (oIst 4 (oPick [0, 2, 3, 4] (lp (BX10_nthCell_5) FU)))))
set_option maxRecDepth 20000 in
theorem sBX10_nthCell_0 : Snd XX10_nthCell fI 0 (BX10_nthCell_0) (0) (0) := by
  unfold BX10_nthCell_0
  refine s_iconst 1 0 (by decide) dX10_nthCell_0 rfl ?_
  refine s_Istn 3 rfl 2 (by decide) dX10_nthCell_1 rfl ?_
  refine s_iconst 3 0 (by decide) dX10_nthCell_2 rfl ?_
  refine s_Ist 4 5 (by decide) dX10_nthCell_3 rfl ?_
  exact s_pick (s_lp (fun k hk => sBX10_nthCell_5  hk) FU)
def EX10_nthCell : List Value → HP → Option Int32 := en 5 BX10_nthCell_0
theorem cmX10_nthCell : CM XX10_nthCell EX10_nthCell fI 0 0 := CM.of rfl (by decide) rfl rfl sBX10_nthCell_0
theorem yoX10_nthCell : YO XX10_nthCell 2 0 0 := ⟨tw_970, rfl, tw_1, (by decide +kernel), rfl, rfl⟩
abbrev XX10_draw : MX := (yX10_draw, cX10_draw, 1, (Option.some .int), Cond.code yX10_draw cX10_draw 1 (Option.some .int) :: WS, { frames := 0, cells := 0, slots := 0, locals := 0 })
def BX10_draw_0 : KT Int32 :=
  oConst (.int 75) (oIld 0 (oimul (oConst (.int 74) (oiadd (oConst (.int 65537) (oirem (oIretP)))))))
set_option maxRecDepth 20000 in
theorem sBX10_draw_0 : Snd XX10_draw fI 0 (BX10_draw_0) (0) (0) := by
  unfold BX10_draw_0
  refine s_bipush 2 75 (by decide) dX10_draw_0 rfl ?_
  refine s_Ildn 0 rfl 3 dX10_draw_2 rfl ?_
  refine s_imul 4 dX10_draw_3 rfl ?_
  refine s_bipush 6 74 (by decide) dX10_draw_4 rfl ?_
  refine s_iadd 7 dX10_draw_6 rfl ?_
  refine s_ldcw 10 65537 tw_873 dX10_draw_7 rfl ?_
  refine s_irem 11 dX10_draw_10 rfl ?_
  exact s_iretP rfl dX10_draw_11
def EX10_draw : List Value → HP → Option Int32 := en 1 BX10_draw_0
theorem cmX10_draw : CM XX10_draw EX10_draw fI 0 0 := CM.of rfl (by decide) rfl rfl sBX10_draw_0
theorem yoX10_draw : YO XX10_draw 1 0 0 := ⟨tw_872, rfl, tw_1, (by decide +kernel), rfl, rfl⟩
end
