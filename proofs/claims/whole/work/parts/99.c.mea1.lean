/-! meadow: what its blocks come to. -/
def CHs (mz : MzS) (tp : TpS) (tk : TkS) (rd : RdS) (hi : HiS) (sc : ScS) (pl dr : PlS) (wa wb : WaS) (rc : Nat → Int32) : HP :=
  (.inr (10, [.ref 1, .ref 3, .ref 5, .ref 10, .ref 44, .ref 48, .ref 52, .ref 29, .ref 14, .int mz.1, .long mz.2.1, .int mz.2.2.1, .int mz.2.2.2.1, .int mz.2.2.2.2.1, .int mz.2.2.2.2.2])) :: (CH mz tp tk rd hi sc pl dr wa wb rc).tail
section
variable {la : Int32} {cl : Int64} {se tr fa fp : Int32} {tp : TpS} {tk : TkS} {rd : RdS} {hi : HiS} {sc : ScS} {pl dr : PlS} {wa wb : WaS} {rc : Nat → Int32}
theorem c_mea0 (n : Int32) : EX10_meadow [.ref 0, .int n] (CH (la, cl, se, tr, fa, fp) tp tk rd hi sc pl dr wa wb rc) = (if n < 0 then some (-1, CH (la, cl, se, 2, fa, fp) tp tk rd hi sc pl dr wa wb rc) else if n ≤ tp.2 then BX10_meadow_30 [(0, .ref 0)] [.int n, .ref 29, .ref 3] (CH (la, cl, se, tr, fa, fp) tp tk rd hi sc pl dr wa wb rc) else some (-1, CH (la, cl, se, 2, fa, fp) tp tk rd hi sc pl dr wa wb rc)) := rfl
theorem c_meaF (n : Int32) {tk2 : TkS} {rd2 : RdS} {dr2 : PlS} (h : EX4_read [.ref 3, .ref 29, .int n] (CH (la, cl, se, tr, fa, fp) tp tk rd hi sc pl dr wa wb rc) = some (false, CH (la, cl, se, tr, fa, fp) tp tk2 rd2 hi sc pl dr2 wa wb rc)) : BX10_meadow_30 [(0, .ref 0)] [.int n, .ref 29, .ref 3] (CH (la, cl, se, tr, fa, fp) tp tk rd hi sc pl dr wa wb rc) = some (-1, CH (la, cl, se, 4, rd2.1, rd2.2.1) (tp.1, 0) tk2 rd2 hi sc pl dr2 wa wb rc) := (cal_eq h rfl rfl rfl).trans rfl
theorem c_meaT (n : Int32) {tk2 : TkS} {rd2 : RdS} {dr2 : PlS} (h : EX4_read [.ref 3, .ref 29, .int n] (CH (la, cl, se, tr, fa, fp) tp tk rd hi sc pl dr wa wb rc) = some (true, CH (la, cl, se, tr, fa, fp) tp tk2 rd2 hi sc pl dr2 wa wb rc)) : BX10_meadow_30 [(0, .ref 0)] [.int n, .ref 29, .ref 3] (CH (la, cl, se, tr, fa, fp) tp tk rd hi sc pl dr wa wb rc) = some (bcnt dr2.2.1.1.1, CHs (1, dr2.2.1.1.1, 0, 0, rd2.1, rd2.2.1) (tp.1, 0) tk2 rd2 (hi.1, hi.2.1, hi.2.2.1, hi.2.2.2.1, 0, 0) sc pl dr2 wa wb rc) := (cal_eq h rfl rfl rfl).trans rfl
end
def me0 : MeS := ((0, 0, 0, 0, 0, 0, 0, 0, 0, 0, 0, -2), (0, 0, 0, 0, 0, 0), (zI, zI, zI, zI, zI, zI, zI, zJ))
def M4 (mp : MpS) (mq : MsS) (ma : MaS) (me re : MeS) : HP := ((M3 mp mq ma me re).set 0 (.inr (12, [.int mp.1, .int mp.2.1, .int mp.2.2.1, .ref 25, .ref 25, .ref 1, .int mp.2.2.2.1, .int mq.1.1, .int mq.1.2.1, .int mq.1.2.2.1, .int mq.1.2.2.2.1, .int mq.1.2.2.2.2.1, .int mq.1.2.2.2.2.2.1, .int mq.1.2.2.2.2.2.2.1, .int mp.2.2.2.2.1, .int mq.2.1.1, .ref 2, .long mq.1.2.2.2.2.2.2.2, .long mq.2.1.2.1, .long mq.2.1.2.2, .long mp.2.2.2.2.2.1, .int mp.2.2.2.2.2.2.1, .ref 3, .ref 4, .int mq.2.2.1, .int mq.2.2.2.1, .int mq.2.2.2.2.1, .ref 5, .ref 6, .ref 7, .ref 8, .int mq.2.2.2.2.2.1, .ref 9, .int mq.2.2.2.2.2.2.1, .ref 10, .ref 11, .int mq.2.2.2.2.2.2.2, .ref 12, .ref 13, .ref 14, .ref 15, .int mp.2.2.2.2.2.2.2.1, .int mp.2.2.2.2.2.2.2.2])))
def MN (o : Option MeS) (mp : MpS) (mq : MsS) (ma : MaS) (re : MeS) : HP := match o with
  | none => M1 mp mq ma re (.ref 16)
  | some me => M4 mp mq ma me re
section
variable {th mtr wh ta mfa : Int32} {mo : Int64} {sd ac mk : Int32} {mq : MsS} {ma : MaS} {me re re2 : MeS} {rdv : Value} {o : Option MeS} {mq2 : MsS} {ma2 : MaS} {f : Int32}
theorem m_mea0 (n : Int32) : EX12_meadow [.ref 0, .int n] (M0 (th, mtr, wh, ta, mfa, mo, sd, ac, mk) mq ma rdv) = (if n < 0 then some (-1, M0 (0, 2, -1, ta, mfa, mo, sd, ac, mk) mq ma rdv) else if n ≤ ta then BX12_meadow_60 [(0, .ref 0)] [.ref 0] (MM none (0, mtr, wh, 0, 0, mo, sd, ac, mk) ((n, 0, 0, mq.1.2.2.2), mq.2) ma me0) else some (-1, M0 (0, 2, -1, ta, mfa, mo, sd, ac, mk) mq ma rdv)) := rfl
theorem m_mea1 (n : Int32) : EX12_meadow [.ref 0, .int n] (M1 (th, mtr, wh, ta, mfa, mo, sd, ac, mk) mq ma me rdv) = (if n < 0 then some (-1, M1 (0, 2, -1, ta, mfa, mo, sd, ac, mk) mq ma me rdv) else if n ≤ ta then BX12_meadow_60 [(0, .ref 0)] [.ref 0] (MM (some me) (0, mtr, wh, 0, 0, mo, sd, ac, mk) ((n, 0, 0, mq.1.2.2.2), mq.2) ma me0) else some (-1, M1 (0, 2, -1, ta, mfa, mo, sd, ac, mk) mq ma me rdv)) := rfl
theorem m_mea60 (h : EX12_goesOn [.ref 0] (MM o (th, mtr, wh, ta, mfa, mo, sd, ac, mk) mq ma re) = some (MM o (th, mtr, wh, ta, mfa, mo, sd, ac, mk) mq2 ma2 re)) : BX12_meadow_60 [(0, .ref 0)] [.ref 0] (MM o (th, mtr, wh, ta, mfa, mo, sd, ac, mk) mq ma re) = BX12_meadow_64 [(0, .ref 0)] [.ref 0] (MM o (th, mtr, wh, ta, mfa, mo, sd, ac, mk) mq2 ma2 re) := by
  cases o with
  | none => exact (cal_eq h rfl rfl rfl).trans rfl
  | some me => exact (cal_eq h rfl rfl rfl).trans rfl
theorem m_mea64 (h : EX12_readAll [.ref 0] (MM o (th, mtr, wh, ta, mfa, mo, sd, ac, mk) mq ma re) = some (MM o (th, mtr, wh, ta, f, mo, sd, ac, mk) mq2 ma2 re2)) : BX12_meadow_64 [(0, .ref 0)] [.ref 0] (MM o (th, mtr, wh, ta, mfa, mo, sd, ac, mk) mq ma re) = (if f ≤ 0 then BX12_meadow_128 [] [.long re2.2.1.1, .ref 0] (MN o (th, mtr, wh, ta, f, re2.2.1.1, 0, 0, 0) mq2 ma2 re2) else some (-1, MM o (th, 4, mq2.2.1.1, ta, f, mo, sd, ac, mk) mq2 ma2 re2)) := by
  cases o with
  | none => exact (cal_eq h rfl rfl rfl).trans rfl
  | some me => exact (cal_eq h rfl rfl rfl).trans rfl
theorem m_mea128 (x : Int64) {r : Int32} (h : EX12_bits [.long x] (MN o (th, mtr, wh, ta, mfa, mo, sd, ac, mk) mq ma re) = some r) : BX12_meadow_128 [] [.long x, .ref 0] (MN o (th, mtr, wh, ta, mfa, mo, sd, ac, mk) mq ma re) = some (r, MN o (th, 0, -1, ta, mfa, mo, sd, ac, mk) mq ma re) := by
  cases o with
  | none => exact (cal_eq h rfl rfl (chk_rf _ _ _)).trans rfl
  | some me => exact (cal_eq h rfl rfl (chk_rf _ _ _)).trans rfl
end
