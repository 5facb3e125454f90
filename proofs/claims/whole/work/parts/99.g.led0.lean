noncomputable section
abbrev XX10_led : MX := (yX10_led, cX10_led, 4, (Option.some .int), Cond.code yX10_led cX10_led 4 (Option.some .int) :: WS, { frames := 4, cells := 0, slots := 0, locals := 95 })
def BX10_led_24 (k4 : KT Int32) : KT Int32 :=
  oCal 2 (some 10) EX10_isGateSeen fZ (oIfne (oInc 3 1 (oPick [0, 1, 2, 3] k4)) (oIld 2 (oIld 1 (oCmpne (oInc 2 1 (oInc 3 1 (oPick [0, 1, 2, 3] k4))) (oIld 3 (oIretP))))))
set_option maxRecDepth 20000 in
theorem sBX10_led_24 {k4 : KT Int32} (hk4 : Snd XX10_led fI 4 k4 0 0) : Snd XX10_led fI 24 (BX10_led_24 k4) (0) (0) := by
  unfold BX10_led_24
  refine s_cal0 27 (run_V (X := XX10_led) rfl clX10 yoX10_isGateSeen rfl tw_1052 tw_1054 tw_p41 (by decide) dX10_led_24) cmX10_isGateSeen (fun _ _ _ => rfl) rfl ?_
  refine s_ifne 40 30 dX10_led_27 (by decide) rfl ?_ ?_
  · refine s_inc 3 1 43 (by decide) (by decide) dX10_led_40 rfl ?_
    refine s_goto 4 dX10_led_43 (by decide) ?_
    exact s_pick hk4
  · refine s_Ildn 2 rfl 31 dX10_led_30 rfl ?_
    refine s_Ildn 1 rfl 32 dX10_led_31 rfl ?_
    refine s_cmpne 37 35 dX10_led_32 (by decide) rfl ?_ ?_
    · refine s_inc 2 1 40 (by decide) (by decide) dX10_led_37 rfl ?_
      refine s_inc 3 1 43 (by decide) (by decide) dX10_led_40 rfl ?_
      refine s_goto 4 dX10_led_43 (by decide) ?_
      exact s_pick hk4
    · refine s_Ildn 3 rfl 36 dX10_led_35 rfl ?_
      exact s_iretP rfl dX10_led_36
def BX10_led_4 (k4 : KT Int32) : KT Int32 :=
  oAld 0 (oGet 10 9 (oIfeq (kN) (oIld 3 (oAld 0 (oGet 10 7 (oGet 3 11 (oCmpge (kN) (oAld 0 (oIld 3 (oPick [0, 1, 2, 3] (BX10_led_24 k4)))))))))))
set_option maxRecDepth 20000 in
theorem sBX10_led_4 {k4 : KT Int32} (hk4 : Snd XX10_led fI 4 k4 0 0) : Snd XX10_led fI 4 (BX10_led_4 k4) (0) (0) := by
  unfold BX10_led_4
  refine s_Aldn 0 rfl 5 dX10_led_4 rfl ?_
  refine s_get 10 9 8 clX10 (by decide) tw_358 dX10_led_5 rfl ?_
  refine s_ifeq 46 11 dX10_led_8 (by decide) rfl ?_ ?_
  · exact s_none
  · refine s_Ildn 3 rfl 12 dX10_led_11 rfl ?_
    refine s_Aldn 0 rfl 13 dX10_led_12 rfl ?_
    refine s_get 10 7 16 clX10 (by decide) tw_356 dX10_led_13 rfl ?_
    refine s_getN 3 11 19 clX3 (by decide) nw_34 dX10_led_16 rfl ?_
    refine s_cmpge 46 22 dX10_led_19 (by decide) rfl ?_ ?_
    · exact s_none
    · refine s_Aldn 0 rfl 23 dX10_led_22 rfl ?_
      refine s_Ildn 3 rfl 24 dX10_led_23 rfl ?_
      exact s_pick (sBX10_led_24 hk4)
def BX10_led_0 : KT Int32 :=
  oConst (.int 0) (oIst 2 (oConst (.int 0) (oIst 3 (oPick [0, 1, 2, 3] (lp (BX10_led_4) FU)))))
set_option maxRecDepth 20000 in
theorem sBX10_led_0 : Snd XX10_led fI 0 (BX10_led_0) (0) (0) := by
  unfold BX10_led_0
  refine s_iconst 1 0 (by decide) dX10_led_0 rfl ?_
  refine s_Istn 2 rfl 2 (by decide) dX10_led_1 rfl ?_
  refine s_iconst 3 0 (by decide) dX10_led_2 rfl ?_
  refine s_Istn 3 rfl 4 (by decide) dX10_led_3 rfl ?_
  exact s_pick (s_lp (fun k hk => sBX10_led_4  hk) FU)
def EX10_led : List Value → HP → Option Int32 := en 4 BX10_led_0
theorem cmX10_led : CM XX10_led EX10_led fI 0 0 := CM.of rfl (by decide) rfl rfl sBX10_led_0
theorem yoX10_led : YO XX10_led 1 0 0 := ⟨tw_1215, rfl, tw_1, (by decide +kernel), rfl, rfl⟩
end
section
variable (cl : Int64) (se tr fa fp : Int32) (tp : TpS) (tk : TkS) (rd : RdS) (hi : HiS) (sc : ScS) (pl : PlS) (dr : PlS) (wa : WaS) (wb : WaS) (rc : (Nat → Int32))
theorem eX10_led_s_1 (i : Int32) : EX10_led [.ref 0, .int i] (CH (1, cl, se, tr, fa, fp) tp tk rd hi sc pl dr wa wb rc) = BX10_led_0 [(0, .ref 0), (1, .int i)] [] (CH (1, cl, se, tr, fa, fp) tp tk rd hi sc pl dr wa wb rc) := rfl
theorem qX10_led_0_1 (i : Int32) : BX10_led_0 [(0, .ref 0), (1, .int i)] [] (CH (1, cl, se, tr, fa, fp) tp tk rd hi sc pl dr wa wb rc) =
    lp (BX10_led_4) FU [(0, .ref 0), (1, .int i), (2, .int 0), (3, .int 0)] [] (CH (1, cl, se, tr, fa, fp) tp tk rd hi sc pl dr wa wb rc) := rfl
theorem qX10_led_4_1 (k4 : KT Int32) (i : Int32) (v2 : Int32) (v3 : Int32) : BX10_led_4 k4 [(0, .ref 0), (1, .int i), (2, .int v2), (3, .int v3)] [] (CH (1, cl, se, tr, fa, fp) tp tk rd hi sc pl dr wa wb rc) =
    (if pl.2.2.2.2.2.2.2.1 ≤ v3 then none else (BX10_led_24 k4) [(0, .ref 0), (1, .int i), (2, .int v2), (3, .int v3)] [.int v3, .ref 0] (CH (1, cl, se, tr, fa, fp) tp tk rd hi sc pl dr wa wb rc)) := rfl
theorem qX10_led_24_1 (k4 : KT Int32) (i : Int32) (v2 : Int32) (v3 : Int32) (s0 : Int32) {r : Bool} (h : EX10_isGateSeen [.ref 0, .int s0] (CH (1, cl, se, tr, fa, fp) tp tk rd hi sc pl dr wa wb rc) = some r) : BX10_led_24 k4 [(0, .ref 0), (1, .int i), (2, .int v2), (3, .int v3)] [.int s0, .ref 0] (CH (1, cl, se, tr, fa, fp) tp tk rd hi sc pl dr wa wb rc) =
    (if (b2i r) = 0 then (if v2 = i then some v3 else k4 [(0, .ref 0), (1, .int i), (2, .int (v2 + 1)), (3, .int (v3 + 1))] [] (CH (1, cl, se, tr, fa, fp) tp tk rd hi sc pl dr wa wb rc)) else k4 [(0, .ref 0), (1, .int i), (2, .int v2), (3, .int (v3 + 1))] [] (CH (1, cl, se, tr, fa, fp) tp tk rd hi sc pl dr wa wb rc)) := (cal_eq h rfl rfl (chk_rf _ _ _)).trans rfl
theorem eX10_led_s_0 (i : Int32) : EX10_led [.ref 0, .int i] (CH (0, cl, se, tr, fa, fp) tp tk rd hi sc pl dr wa wb rc) = BX10_led_0 [(0, .ref 0), (1, .int i)] [] (CH (0, cl, se, tr, fa, fp) tp tk rd hi sc pl dr wa wb rc) := rfl
theorem qX10_led_0_0 (i : Int32) : BX10_led_0 [(0, .ref 0), (1, .int i)] [] (CH (0, cl, se, tr, fa, fp) tp tk rd hi sc pl dr wa wb rc) =
    lp (BX10_led_4) FU [(0, .ref 0), (1, .int i), (2, .int 0), (3, .int 0)] [] (CH (0, cl, se, tr, fa, fp) tp tk rd hi sc pl dr wa wb rc) := rfl
theorem qX10_led_4_0 (k4 : KT Int32) (i : Int32) (v2 : Int32) (v3 : Int32) : BX10_led_4 k4 [(0, .ref 0), (1, .int i), (2, .int v2), (3, .int v3)] [] (CH (0, cl, se, tr, fa, fp) tp tk rd hi sc pl dr wa wb rc) =
    none := rfl
end
section
variable (th mtr wh ta mfa : Int32) (mo : Int64) (sd ac mk : Int32) (mq : MsS) (ma : MaS) (me : MeS) (rdv : Value)
theorem eX12_led_s_1 (i : Int32) : EX12_led [.ref 0, .int i] (M1 (th, mtr, wh, ta, mfa, mo, sd, ac, mk) mq ma me rdv) = BX12_led_0 [(0, .ref 0), (1, .int i)] [] (M1 (th, mtr, wh, ta, mfa, mo, sd, ac, mk) mq ma me rdv) := rfl
theorem qX12_led_0_1 (i : Int32) : BX12_led_0 [(0, .ref 0), (1, .int i)] [] (M1 (th, mtr, wh, ta, mfa, mo, sd, ac, mk) mq ma me rdv) =
    lp (BX12_led_9) FU [(0, .ref 0), (1, .int i), (2, .int 0), (3, .int 0)] [] (M1 (0, mtr, wh, ta, mfa, mo, sd, ac, mk) mq ma me rdv) := rfl
theorem qX12_led_9_1 (k9 : KT (Int32 × HP)) (i : Int32) (v2 : Int32) (v3 : Int32) : BX12_led_9 k9 [(0, .ref 0), (1, .int i), (2, .int v2), (3, .int v3)] [] (M1 (th, mtr, wh, ta, mfa, mo, sd, ac, mk) mq ma me rdv) =
    (if me.1.2.2.2.2.2.2.2.2.1 ≤ v3 then some (0, (M1 (1, mtr, wh, ta, mfa, mo, sd, ac, mk) mq ma me rdv)) else (if v3 < 0 ∨ 4 ≤ v3.toNatClampNeg then none else (BX12_led_37 k9) [(0, .ref 0), (1, .int i), (2, .int v2), (3, .int v3)] [.int (me.2.2.1 v3.toNatClampNeg), .ref 0] (M1 (th, mtr, wh, ta, mfa, mo, sd, ac, mk) mq ma me rdv))) := rfl
theorem qX12_led_37_1 (k9 : KT (Int32 × HP)) (i : Int32) (v2 : Int32) (v3 : Int32) (s0 : Int32) {r : Int32} (h : EX12_seenNow [.ref 0, .int s0] (M1 (th, mtr, wh, ta, mfa, mo, sd, ac, mk) mq ma me rdv) = some r) : BX12_led_37 k9 [(0, .ref 0), (1, .int i), (2, .int v2), (3, .int v3)] [.int s0, .ref 0] (M1 (th, mtr, wh, ta, mfa, mo, sd, ac, mk) mq ma me rdv) =
    (if r = 0 then (if v2 = i then some (v3, (M1 (th, mtr, wh, ta, mfa, mo, sd, ac, mk) mq ma me rdv)) else k9 [(0, .ref 0), (1, .int i), (2, .int (v2 + 1)), (3, .int (v3 + 1))] [] (M1 (th, mtr, wh, ta, mfa, mo, sd, ac, mk) mq ma me rdv)) else k9 [(0, .ref 0), (1, .int i), (2, .int v2), (3, .int (v3 + 1))] [] (M1 (th, mtr, wh, ta, mfa, mo, sd, ac, mk) mq ma me rdv)) := (cal_eq h rfl rfl (chk_rf _ _ _)).trans rfl
theorem eX12_thrown_s_1 : EX12_thrown [.ref 0] (M1 (th, mtr, wh, ta, mfa, mo, sd, ac, mk) mq ma me rdv) = BX12_thrown_0 [(0, .ref 0)] [] (M1 (th, mtr, wh, ta, mfa, mo, sd, ac, mk) mq ma me rdv) := rfl
theorem qX12_thrown_0_1 : BX12_thrown_0 [(0, .ref 0)] [] (M1 (th, mtr, wh, ta, mfa, mo, sd, ac, mk) mq ma me rdv) =
    some th := rfl
end
section
variable (th mtr wh ta mfa : Int32) (mo : Int64) (sd ac mk : Int32) (mq : MsS) (ma : MaS) (rdv : Value)
theorem eX12_led_s_0 (i : Int32) : EX12_led [.ref 0, .int i] (M0 (th, mtr, wh, ta, mfa, mo, sd, ac, mk) mq ma rdv) = BX12_led_0 [(0, .ref 0), (1, .int i)] [] (M0 (th, mtr, wh, ta, mfa, mo, sd, ac, mk) mq ma rdv) := rfl
theorem qX12_led_0_0 (i : Int32) : BX12_led_0 [(0, .ref 0), (1, .int i)] [] (M0 (th, mtr, wh, ta, mfa, mo, sd, ac, mk) mq ma rdv) =
    lp (BX12_led_9) FU [(0, .ref 0), (1, .int i), (2, .int 0), (3, .int 0)] [] (M0 (0, mtr, wh, ta, mfa, mo, sd, ac, mk) mq ma rdv) := rfl
theorem qX12_led_9_0 (k9 : KT (Int32 × HP)) (i : Int32) (v2 : Int32) (v3 : Int32) : BX12_led_9 k9 [(0, .ref 0), (1, .int i), (2, .int v2), (3, .int v3)] [] (M0 (th, mtr, wh, ta, mfa, mo, sd, ac, mk) mq ma rdv) =
    some (0, (M0 (1, mtr, wh, ta, mfa, mo, sd, ac, mk) mq ma rdv)) := rfl
theorem eX12_thrown_s_0 : EX12_thrown [.ref 0] (M0 (th, mtr, wh, ta, mfa, mo, sd, ac, mk) mq ma rdv) = BX12_thrown_0 [(0, .ref 0)] [] (M0 (th, mtr, wh, ta, mfa, mo, sd, ac, mk) mq ma rdv) := rfl
theorem qX12_thrown_0_0 : BX12_thrown_0 [(0, .ref 0)] [] (M0 (th, mtr, wh, ta, mfa, mo, sd, ac, mk) mq ma rdv) =
    some th := rfl
end
