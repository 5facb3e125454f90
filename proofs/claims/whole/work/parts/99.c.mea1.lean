/-! meadow: what its blocks come to. -/
def CHs (mz : MzS) (tp : TpS) (tk : TkS) (rd : RdS) (hi : HiS) (sc : ScS) (pl dr : PlS) (wa wb : WaS) (rc : Nat → Int32) : HP :=
  (.inr (10, [.ref 1, .ref 3, .ref 5, .ref 10, .ref 44, .ref 48, .ref 52, .ref 29, .ref 14, .int mz.1, .long mz.2.1, .int mz.2.2.1, .int mz.2.2.2.1, .int mz.2.2.2.2.1, .int mz.2.2.2.2.2])) :: (CH mz tp tk rd hi sc pl dr wa wb rc).tail
section
variable {la : Int32} {cl : Int64} {se tr fa fp : Int32} {tp : TpS} {tk : TkS} {rd : RdS} {hi : HiS} {sc : ScS} {pl dr : PlS} {wa wb : WaS} {rc : Nat → Int32}
theorem c_mea0 (n : Int32) : EX10_meadow [.ref 0, .int n] (CH (la, cl, se, tr, fa, fp) tp tk rd hi sc pl dr wa wb rc) = (if n < 0 then some (-1, CH (la, cl, se, 2, fa, fp) tp tk rd hi sc pl dr wa wb rc) else if n ≤ tp.2 then BX10_meadow_30 [(0, .ref 0)] [.int n, .ref 29, .ref 3] (CH (la, cl, se, tr, fa, fp) tp tk rd hi sc pl dr wa wb rc) else some (-1, CH (la, cl, se, 2, fa, fp) tp tk rd hi sc pl dr wa wb rc)) := rfl
theorem c_meaF (n : Int32) {tk2 : TkS} {rd2 : RdS} {dr2 : PlS} (h : EX4_read [.ref 3, .ref 29, .int n] (CH (la, cl, se, tr, fa, fp) tp tk rd hi sc pl dr wa wb rc) = some (false, CH (la, cl, se, tr, fa, fp) tp tk2 rd2 hi sc pl dr2 wa wb rc)) : BX10_meadow_30 [(0, .ref 0)] [.int n, .ref 29, .ref 3] (CH (la, cl, se, tr, fa, fp) tp tk rd hi sc pl dr wa wb rc) = some (-1, CH (la, cl, se, 4, rd2.1, rd2.2.1) (tp.1, 0) tk2 rd2 hi sc pl dr2 wa wb rc) := (cal_eq h rfl rfl rfl).trans rfl
theorem c_meaT (n : Int32) {tk2 : TkS} {rd2 : RdS} {dr2 : PlS} (h : EX4_read [.ref 3, .ref 29, .int n] (CH (la, cl, se, tr, fa, fp) tp tk rd hi sc pl dr wa wb rc) = some (true, CH (la, cl, se, tr, fa, fp) tp tk2 rd2 hi sc pl dr2 wa wb rc)) : BX10_meadow_30 [(0, .ref 0)] [.int n, .ref 29, .ref 3] (CH (la, cl, se, tr, fa, fp) tp tk rd hi sc pl dr wa wb rc) = some (bcnt dr2.2.1.1.1, CHs (1, dr2.2.1.1.1, 0, 0, rd2.1, rd2.2.1) (tp.1, 0) tk2 rd2 (hi.1, hi.2.1, hi.2.2.1, hi.2.2.2.1, 0, 0) sc pl dr2 wa wb rc) := (cal_eq h rfl rfl rfl).trans rfl
end
/-- a stale place where no new cell will lie -/
def okR (v : Value) : Prop := match v with
  | .ref a => a = 1999
  | _ => True
def me0 : MeS := ((0, 0, 0, 0, 0, 0, 0, 0, 0, 0, 0, -2), (0, 0, 0, 0, 0, 0), (fun _ => 0, fun _ => 0, fun _ => 0, fun _ => 0, fun _ => 0, fun _ => 0, fun _ => 0, fun _ => 0))
/-! New cells, step by step. -/
theorem z_ald {β : Type} {K : KT β} (a : Nat) (lv : LV) (st : List Value) (hp : HP) : oAld 0 K ((0, .ref a) :: lv) st hp = K ((0, .ref a) :: lv) (.ref a :: st) hp := rfl
theorem z_pop {β : Type} {K : KT β} (a : Nat) (lv : LV) (hp : HP) : oPopA K lv [.ref a] hp = K lv [] hp := rfl
theorem z_con {β : Type} {K : KT β} (v : Value) (lv : LV) (st : List Value) (hp : HP) : oConst v K lv st hp = K lv (v :: st) hp := rfl
theorem z_put {β : Type} {ci k : Nat} {ty : FieldType} {K : KT β} {lv : LV} {v : Value} {r : List Value} {L R : HP} {n0 : Nat} {fs : List Value} (hL : L.length = n0) (hk : (Nat.blt k fs.length && okV ty v) = true) : oPut ci k ty K lv (v :: .ref n0 :: r) (L ++ .inr (ci, fs) :: R) = K lv r (L ++ .inr (ci, fs.set k v) :: R) := by
  have h1 : (L ++ .inr (ci, fs) :: R)[n0]? = some (.inr (ci, fs)) := by
    rw [List.getElem?_append_right (by omega), hL, Nat.sub_self]
    rfl
  have h2 : (L ++ .inr (ci, fs) :: R).set n0 (.inr (ci, fs.set k v)) = L ++ .inr (ci, fs.set k v) :: R := by
    rw [List.set_append_right _ _ (by omega), hL, Nat.sub_self]
    rfl
  unfold oPut
  dsimp only
  rw [h1]
  dsimp only
  rw [Nat.beq_refl, hk, h2]
  rfl
theorem z_nar {β : Type} {kd N m : Nat} {z : (Nat → Int32) ⊕ (Nat → Int64) ⊕ (Nat → UInt32) ⊕ (Nat → UInt64) ⊕ (Nat → Option Nat)} {K : KT β} {lv : LV} {n : Int32} {r : List Value} {L R : HP} (hl : (L ++ R).length = m) (hm : Nat.blt m 2000 = true) (hf : (lv.all (fun q => nrv m q.2) && r.all (nrv m)) = true) (hA : L.all (nre m) = true) (hR : R.all (nre m) = true) (hn : (!(decide (n < 0)) && Nat.beq n.toNatClampNeg N) = true) : oNar kd z N K lv (.int n :: r) (L ++ R) = K lv (.ref m :: r) (L ++ (R ++ [.inl (kd, N, z)])) := by
  have h1 : fresh lv r (L ++ R) = true := by
    unfold fresh
    rw [Bool.and_eq_true] at hf
    rw [hl, hm, hf.1, hf.2, List.all_append, hA, hR]
    rfl
  unfold oNar
  dsimp only
  rw [h1, hn, hl, List.append_assoc]
  rfl
abbrev FR11 : List Value := [.int 0, .int 0, .int 0, .int 0, .int 0, .int 0, .int 0, .int 0, .int 0, .int 0, .int 0, .int 0, .long 0, .long 0, .long 0, .long 0, .long 0, .long 0, .null, .null, .null, .null, .null, .null, .null, .null]
def R16 : HP := [.inr (11, [.int 0, .int 0, .int 0, .int 0, .int 0, .int 0, .int 0, .int 0, .int 0, .int 0, .int 0, .int (-2), .long 0, .long 0, .long 0, .long 0, .long 0, .long 0, .ref 17, .ref 18, .ref 19, .ref 20, .ref 21, .ref 22, .ref 23, .ref 24]), aI 4 (fun _ => 0), aI 5 (fun _ => 0), aI 5 (fun _ => 0), aI 5 (fun _ => 0), aI 5 (fun _ => 0), aI 5 (fun _ => 0), aI 5 (fun _ => 0), aJ 5 (fun _ => 0)]
theorem e_init16 {L : HP} (hL : L.length = 16) (hA : ∀ m, 16 < m → m < 25 → L.all (nre m) = true) : EX11_init [.ref 16] (L ++ [.inr (11, FR11)]) = some (L ++ R16) := by
  have hl : ∀ (R : HP), (L ++ R).length = 16 + R.length := fun R => by rw [List.length_append, hL]
  show BX11_init_0 [(0, .ref 16)] [] (L ++ [.inr (11, FR11)]) = some (L ++ R16)
  unfold BX11_init_0
  rw [z_ald, z_pop, z_ald, z_con, z_put hL rfl]
  rw [z_ald, z_con, z_nar (m := 17) (hl _) rfl rfl (hA _ (by omega) (by omega)) rfl rfl]
  refine (z_put hL rfl).trans ?_
  rw [z_ald, z_con, z_nar (m := 18) (hl _) rfl rfl (hA _ (by omega) (by omega)) rfl rfl]
  refine (z_put hL rfl).trans ?_
  rw [z_ald, z_con, z_nar (m := 19) (hl _) rfl rfl (hA _ (by omega) (by omega)) rfl rfl]
  refine (z_put hL rfl).trans ?_
  rw [z_ald, z_con, z_nar (m := 20) (hl _) rfl rfl (hA _ (by omega) (by omega)) rfl rfl]
  refine (z_put hL rfl).trans ?_
  rw [z_ald, z_con, z_nar (m := 21) (hl _) rfl rfl (hA _ (by omega) (by omega)) rfl rfl]
  refine (z_put hL rfl).trans ?_
  rw [z_ald, z_con, z_nar (m := 22) (hl _) rfl rfl (hA _ (by omega) (by omega)) rfl rfl]
  refine (z_put hL rfl).trans ?_
  rw [z_ald, z_con, z_nar (m := 23) (hl _) rfl rfl (hA _ (by omega) (by omega)) rfl rfl]
  refine (z_put hL rfl).trans ?_
  rw [z_ald, z_con, z_nar (m := 24) (hl _) rfl rfl (hA _ (by omega) (by omega)) rfl rfl]
  refine (z_put hL rfl).trans ?_
  rfl
def R25 : HP := [.inr (11, [.int 0, .int 0, .int 0, .int 0, .int 0, .int 0, .int 0, .int 0, .int 0, .int 0, .int 0, .int (-2), .long 0, .long 0, .long 0, .long 0, .long 0, .long 0, .ref 26, .ref 27, .ref 28, .ref 29, .ref 30, .ref 31, .ref 32, .ref 33]), aI 4 (fun _ => 0), aI 5 (fun _ => 0), aI 5 (fun _ => 0), aI 5 (fun _ => 0), aI 5 (fun _ => 0), aI 5 (fun _ => 0), aI 5 (fun _ => 0), aJ 5 (fun _ => 0)]
theorem e_init25 {L : HP} (hL : L.length = 25) (hA : ∀ m, 25 < m → m < 34 → L.all (nre m) = true) : EX11_init [.ref 25] (L ++ [.inr (11, FR11)]) = some (L ++ R25) := by
  have hl : ∀ (R : HP), (L ++ R).length = 25 + R.length := fun R => by rw [List.length_append, hL]
  show BX11_init_0 [(0, .ref 25)] [] (L ++ [.inr (11, FR11)]) = some (L ++ R25)
  unfold BX11_init_0
  rw [z_ald, z_pop, z_ald, z_con, z_put hL rfl]
  rw [z_ald, z_con, z_nar (m := 26) (hl _) rfl rfl (hA _ (by omega) (by omega)) rfl rfl]
  refine (z_put hL rfl).trans ?_
  rw [z_ald, z_con, z_nar (m := 27) (hl _) rfl rfl (hA _ (by omega) (by omega)) rfl rfl]
  refine (z_put hL rfl).trans ?_
  rw [z_ald, z_con, z_nar (m := 28) (hl _) rfl rfl (hA _ (by omega) (by omega)) rfl rfl]
  refine (z_put hL rfl).trans ?_
  rw [z_ald, z_con, z_nar (m := 29) (hl _) rfl rfl (hA _ (by omega) (by omega)) rfl rfl]
  refine (z_put hL rfl).trans ?_
  rw [z_ald, z_con, z_nar (m := 30) (hl _) rfl rfl (hA _ (by omega) (by omega)) rfl rfl]
  refine (z_put hL rfl).trans ?_
  rw [z_ald, z_con, z_nar (m := 31) (hl _) rfl rfl (hA _ (by omega) (by omega)) rfl rfl]
  refine (z_put hL rfl).trans ?_
  rw [z_ald, z_con, z_nar (m := 32) (hl _) rfl rfl (hA _ (by omega) (by omega)) rfl rfl]
  refine (z_put hL rfl).trans ?_
  rw [z_ald, z_con, z_nar (m := 33) (hl _) rfl rfl (hA _ (by omega) (by omega)) rfl rfl]
  refine (z_put hL rfl).trans ?_
  rfl
theorem nrv_o9 {v : Value} (h : okR v) {m : Nat} (hm : m < 1999) : nrv m v = true := by
  cases v <;> first | rfl | skip
  rename_i a
  have h : a = 1999 := h
  subst h
  show (!(Nat.beq 1999 m)) = true
  cases hb : Nat.beq 1999 m with
  | false => rfl
  | true => exact absurd (Nat.eq_of_beq_eq_true hb) (by omega)
theorem b_ne {a m : Nat} (h : a < m) : (!(Nat.beq a m)) = true := by
  cases hb : Nat.beq a m with
  | false => rfl
  | true => exact absurd (Nat.eq_of_beq_eq_true hb) (by omega)
theorem M0_nre (mp : MpS) (mq : MsS) (ma : MaS) {rdv : Value} (h : okR rdv) {m : Nat} (h1 : 16 ≤ m) (h2 : m < 1999) : (M0 mp mq ma rdv).all (nre m) = true := by
  have hv := nrv_o9 h h2
  unfold M0
  simp only [List.all_append, List.all_cons, List.all_nil, nrv, nre, hv, Bool.and_true, Bool.true_and, b_ne (show 1 < m by omega), b_ne (show 2 < m by omega), b_ne (show 3 < m by omega), b_ne (show 4 < m by omega), b_ne (show 5 < m by omega), b_ne (show 6 < m by omega), b_ne (show 7 < m by omega), b_ne (show 8 < m by omega), b_ne (show 9 < m by omega), b_ne (show 10 < m by omega), b_ne (show 11 < m by omega), b_ne (show 12 < m by omega), b_ne (show 13 < m by omega), b_ne (show 14 < m by omega), b_ne (show 15 < m by omega)]
  exact hv
theorem M1_nre (mp : MpS) (mq : MsS) (ma : MaS) (me : MeS) {rdv : Value} (h : okR rdv) {m : Nat} (h1 : 25 ≤ m) (h2 : m < 1999) : (M1 mp mq ma me rdv).all (nre m) = true := by
  have hv := nrv_o9 h h2
  unfold M1
  simp only [List.all_append, List.all_cons, List.all_nil, nrv, nre, hv, Bool.and_true, Bool.true_and, b_ne (show 1 < m by omega), b_ne (show 2 < m by omega), b_ne (show 3 < m by omega), b_ne (show 4 < m by omega), b_ne (show 5 < m by omega), b_ne (show 6 < m by omega), b_ne (show 7 < m by omega), b_ne (show 8 < m by omega), b_ne (show 9 < m by omega), b_ne (show 10 < m by omega), b_ne (show 11 < m by omega), b_ne (show 12 < m by omega), b_ne (show 13 < m by omega), b_ne (show 14 < m by omega), b_ne (show 15 < m by omega), b_ne (show 16 < m by omega), b_ne (show 17 < m by omega), b_ne (show 18 < m by omega), b_ne (show 19 < m by omega), b_ne (show 20 < m by omega), b_ne (show 21 < m by omega), b_ne (show 22 < m by omega), b_ne (show 23 < m by omega), b_ne (show 24 < m by omega)]
  exact hv
section
variable {th mtr wh ta mfa : Int32} {mo : Int64} {sd ac mk : Int32} {mq : MsS} {ma : MaS} {me : MeS} {rdv : Value}
theorem e_mea (n : Int32) (hp : HP) : EX12_meadow [.ref 0, .int n] hp = BX12_meadow_0 [(0, .ref 0), (1, .int n)] [] hp := rfl
theorem z_mea : BX12_meadow_0 = (oAld 0 (oConst (.int 0) (oPut 12 0 .int (oIld 1 (oIflt (oAld 0 (oConst (.int 2) (oCal 2 (some 12) EX12_refused fIH (oIretH)))) (oIld 1 (oAld 0 (oGet 12 6 (oCmple (oAld 0 (oIld 1 (oPut 12 7 .int (oAld 0 (oConst (.int 0) (oPut 12 6 .int (oAld 0 (oConst (.int 0) (oPut 12 8 .int (oAld 0 (oConst (.int 0) (oPut 12 14 .int (oAld 0 (oNew 11 FR11 (odup (oCal 1 (some 11) EX11_init fVH (oPut 12 4 (.object "MownMazeModel$Meadow") (oAld 0 (oConst (.int 0) (oPut 12 9 .int (oAld 0 (oPick [0] (BX12_meadow_60))))))))))))))))))))))) (oAld 0 (oConst (.int 2) (oCal 2 (some 12) EX12_refused fIH (oIretH))))))))))))) := rfl
theorem z_first16 (n : Int32) (K0 : KT (Int32 × HP)) : (oAld 0 (oConst (.int 0) (oPut 12 0 .int (oIld 1 (oIflt (oAld 0 (oConst (.int 2) (oCal 2 (some 12) EX12_refused fIH (oIretH)))) (oIld 1 (oAld 0 (oGet 12 6 (oCmple (oAld 0 (oIld 1 (oPut 12 7 .int (oAld 0 (oConst (.int 0) (oPut 12 6 .int (oAld 0 (oConst (.int 0) (oPut 12 8 .int (oAld 0 (oConst (.int 0) (oPut 12 14 .int (oAld 0 K0))))))))))))) (oAld 0 (oConst (.int 2) (oCal 2 (some 12) EX12_refused fIH (oIretH))))))))))))) [(0, .ref 0), (1, .int n)] [] (M0 (th, mtr, wh, ta, mfa, mo, sd, ac, mk) mq ma rdv) = (if n < 0 then some (-1, (M0 (0, 2, -1, ta, mfa, mo, sd, ac, mk) mq ma rdv)) else if n ≤ ta then K0 [(0, .ref 0), (1, .int n)] [.ref 0] (M0 (0, mtr, wh, 0, 0, mo, sd, ac, mk) ((n, 0, mq.1.2.2), mq.2) ma rdv) else some (-1, (M0 (0, 2, -1, ta, mfa, mo, sd, ac, mk) mq ma rdv))) := rfl
theorem z_last16 (n : Int32) (K2 : KT (Int32 × HP)) (R : HP) : (oPut 12 4 (.object "MownMazeModel$Meadow") (oAld 0 (oConst (.int 0) (oPut 12 9 .int (oAld 0 (oPick [0] K2)))))) [(0, .ref 0), (1, .int n)] [.ref 16, .ref 0] ((M0 (th, mtr, wh, ta, mfa, mo, sd, ac, mk) mq ma rdv) ++ R) = K2 [(0, .ref 0)] [.ref 0] ((M0 (th, mtr, wh, ta, mfa, mo, sd, ac, mk) ((mq.1.1, mq.1.2.1, 0, mq.1.2.2.2), mq.2) ma (.ref 16)) ++ R) := rfl
theorem z_mid16 (n : Int32) (K1 : KT (Int32 × HP)) (h : okR rdv) : (oNew 11 FR11 (odup (oCal 1 (some 11) EX11_init fVH K1))) [(0, .ref 0), (1, .int n)] [.ref 0] (M0 (th, mtr, wh, ta, mfa, mo, sd, ac, mk) mq ma rdv) = K1 [(0, .ref 0), (1, .int n)] [.ref 16, .ref 0] ((M0 (th, mtr, wh, ta, mfa, mo, sd, ac, mk) mq ma rdv) ++ R16) := by
  have hfr : fresh [(0, .ref 0), (1, .int n)] [.ref 0] (M0 (th, mtr, wh, ta, mfa, mo, sd, ac, mk) mq ma rdv) = true := by
    unfold fresh
    rw [show ((M0 (th, mtr, wh, ta, mfa, mo, sd, ac, mk) mq ma rdv) : HP).length = 16 from rfl, M0_nre _ _ _ h (by omega) (by omega)]
    rfl
  have hi := e_init16 (L := (M0 (th, mtr, wh, ta, mfa, mo, sd, ac, mk) mq ma rdv)) rfl (fun m h1 h2 => M0_nre _ _ _ h (by omega) (by omega))
  unfold oNew
  rw [hfr]
  show oCal 1 (some 11) EX11_init fVH K1 [(0, .ref 0), (1, .int n)] [.ref 16, .ref 16, .ref 0] ((M0 (th, mtr, wh, ta, mfa, mo, sd, ac, mk) mq ma rdv) ++ [.inr (11, FR11)]) = _
  exact (cal_eq hi rfl rfl rfl).trans rfl
theorem m_mea0 (n : Int32) (h : okR rdv) : EX12_meadow [.ref 0, .int n] (M0 (th, mtr, wh, ta, mfa, mo, sd, ac, mk) mq ma rdv) = (if n < 0 then some (-1, (M0 (0, 2, -1, ta, mfa, mo, sd, ac, mk) mq ma rdv)) else if n ≤ ta then BX12_meadow_60 [(0, .ref 0)] [.ref 0] (MM none (0, mtr, wh, 0, 0, mo, sd, ac, mk) ((n, 0, 0, mq.1.2.2.2), mq.2) ma me0) else some (-1, (M0 (0, 2, -1, ta, mfa, mo, sd, ac, mk) mq ma rdv))) := by
  rw [e_mea, z_mea, z_first16, z_mid16 n _ h, z_last16]
  rfl
theorem z_first25 (n : Int32) (K0 : KT (Int32 × HP)) : (oAld 0 (oConst (.int 0) (oPut 12 0 .int (oIld 1 (oIflt (oAld 0 (oConst (.int 2) (oCal 2 (some 12) EX12_refused fIH (oIretH)))) (oIld 1 (oAld 0 (oGet 12 6 (oCmple (oAld 0 (oIld 1 (oPut 12 7 .int (oAld 0 (oConst (.int 0) (oPut 12 6 .int (oAld 0 (oConst (.int 0) (oPut 12 8 .int (oAld 0 (oConst (.int 0) (oPut 12 14 .int (oAld 0 K0))))))))))))) (oAld 0 (oConst (.int 2) (oCal 2 (some 12) EX12_refused fIH (oIretH))))))))))))) [(0, .ref 0), (1, .int n)] [] (M1 (th, mtr, wh, ta, mfa, mo, sd, ac, mk) mq ma me rdv) = (if n < 0 then some (-1, (M1 (0, 2, -1, ta, mfa, mo, sd, ac, mk) mq ma me rdv)) else if n ≤ ta then K0 [(0, .ref 0), (1, .int n)] [.ref 0] (M1 (0, mtr, wh, 0, 0, mo, sd, ac, mk) ((n, 0, mq.1.2.2), mq.2) ma me rdv) else some (-1, (M1 (0, 2, -1, ta, mfa, mo, sd, ac, mk) mq ma me rdv))) := rfl
theorem z_last25 (n : Int32) (K2 : KT (Int32 × HP)) (R : HP) : (oPut 12 4 (.object "MownMazeModel$Meadow") (oAld 0 (oConst (.int 0) (oPut 12 9 .int (oAld 0 (oPick [0] K2)))))) [(0, .ref 0), (1, .int n)] [.ref 25, .ref 0] ((M1 (th, mtr, wh, ta, mfa, mo, sd, ac, mk) mq ma me rdv) ++ R) = K2 [(0, .ref 0)] [.ref 0] ((M1 (th, mtr, wh, ta, mfa, mo, sd, ac, mk) ((mq.1.1, mq.1.2.1, 0, mq.1.2.2.2), mq.2) ma me (.ref 25)) ++ R) := rfl
theorem z_mid25 (n : Int32) (K1 : KT (Int32 × HP)) (h : okR rdv) : (oNew 11 FR11 (odup (oCal 1 (some 11) EX11_init fVH K1))) [(0, .ref 0), (1, .int n)] [.ref 0] (M1 (th, mtr, wh, ta, mfa, mo, sd, ac, mk) mq ma me rdv) = K1 [(0, .ref 0), (1, .int n)] [.ref 25, .ref 0] ((M1 (th, mtr, wh, ta, mfa, mo, sd, ac, mk) mq ma me rdv) ++ R25) := by
  have hfr : fresh [(0, .ref 0), (1, .int n)] [.ref 0] (M1 (th, mtr, wh, ta, mfa, mo, sd, ac, mk) mq ma me rdv) = true := by
    unfold fresh
    rw [show ((M1 (th, mtr, wh, ta, mfa, mo, sd, ac, mk) mq ma me rdv) : HP).length = 25 from rfl, M1_nre _ _ _ _ h (by omega) (by omega)]
    rfl
  have hi := e_init25 (L := (M1 (th, mtr, wh, ta, mfa, mo, sd, ac, mk) mq ma me rdv)) rfl (fun m h1 h2 => M1_nre _ _ _ _ h (by omega) (by omega))
  unfold oNew
  rw [hfr]
  show oCal 1 (some 11) EX11_init fVH K1 [(0, .ref 0), (1, .int n)] [.ref 25, .ref 25, .ref 0] ((M1 (th, mtr, wh, ta, mfa, mo, sd, ac, mk) mq ma me rdv) ++ [.inr (11, FR11)]) = _
  exact (cal_eq hi rfl rfl rfl).trans rfl
theorem m_mea1 (n : Int32) (h : okR rdv) : EX12_meadow [.ref 0, .int n] (M1 (th, mtr, wh, ta, mfa, mo, sd, ac, mk) mq ma me rdv) = (if n < 0 then some (-1, (M1 (0, 2, -1, ta, mfa, mo, sd, ac, mk) mq ma me rdv)) else if n ≤ ta then BX12_meadow_60 [(0, .ref 0)] [.ref 0] (MM (some me) (0, mtr, wh, 0, 0, mo, sd, ac, mk) ((n, 0, 0, mq.1.2.2.2), mq.2) ma me0) else some (-1, (M1 (0, 2, -1, ta, mfa, mo, sd, ac, mk) mq ma me rdv))) := by
  rw [e_mea, z_mea, z_first25, z_mid25 n _ h, z_last25]
  rfl
end
def M4 (mp : MpS) (mq : MsS) (ma : MaS) (me re : MeS) : HP := ((M3 mp mq ma me re).set 0 (.inr (12, [.int mp.1, .int mp.2.1, .int mp.2.2.1, .ref 25, .ref 25, .ref 1, .int mp.2.2.2.1, .int mq.1.1, .int mq.1.2.1, .int mq.1.2.2.1, .int mq.1.2.2.2.1, .int mq.1.2.2.2.2.1, .int mq.1.2.2.2.2.2.1, .int mq.1.2.2.2.2.2.2.1, .int mp.2.2.2.2.1, .int mq.2.1.1, .ref 2, .long mq.1.2.2.2.2.2.2.2, .long mq.2.1.2.1, .long mq.2.1.2.2, .long mp.2.2.2.2.2.1, .int mp.2.2.2.2.2.2.1, .ref 3, .ref 4, .int mq.2.2.1, .int mq.2.2.2.1, .int mq.2.2.2.2.1, .ref 5, .ref 6, .ref 7, .ref 8, .int mq.2.2.2.2.2.1, .ref 9, .int mq.2.2.2.2.2.2.1, .ref 10, .ref 11, .int mq.2.2.2.2.2.2.2, .ref 12, .ref 13, .ref 14, .ref 15, .int mp.2.2.2.2.2.2.2.1, .int mp.2.2.2.2.2.2.2.2])))
def MN (o : Option MeS) (mp : MpS) (mq : MsS) (ma : MaS) (re : MeS) : HP := match o with
  | none => M1 mp mq ma re (.ref 16)
  | some me => M4 mp mq ma me re
section
variable {th mtr wh ta mfa : Int32} {mo : Int64} {sd ac mk : Int32} {mq : MsS} {ma : MaS} {me re re2 : MeS} {rdv : Value} {o : Option MeS} {mq2 : MsS} {ma2 : MaS} {f : Int32}
theorem m_mea60 (h : EX12_goesOn [.ref 0] (MM o (th, mtr, wh, ta, mfa, mo, sd, ac, mk) mq ma re) = some (MM o (th, mtr, wh, ta, mfa, mo, sd, ac, mk) mq2 ma2 re)) : BX12_meadow_60 [(0, .ref 0)] [.ref 0] (MM o (th, mtr, wh, ta, mfa, mo, sd, ac, mk) mq ma re) = BX12_meadow_64 [(0, .ref 0)] [.ref 0] (MM o (th, mtr, wh, ta, mfa, mo, sd, ac, mk) mq2 ma2 re) := by
  cases o with
  | none => exact (cal_eq h rfl rfl rfl).trans rfl
  | some me => exact (cal_eq h rfl rfl rfl).trans rfl
theorem m_mea64 (h : EX12_readAll [.ref 0] (MM o (th, mtr, wh, ta, mfa, mo, sd, ac, mk) mq ma re) = some (MM o (th, mtr, wh, ta, f, mo, sd, ac, mk) mq2 ma2 re2)) : BX12_meadow_64 [(0, .ref 0)] [.ref 0] (MM o (th, mtr, wh, ta, mfa, mo, sd, ac, mk) mq ma re) = (if f ≤ 0 then BX12_meadow_128 [] [.long re2.2.1.1, .ref 0] (MN o (th, mtr, wh, ta, f, re2.2.1.1, 0, 0, 0) mq2 ma2 re2) else some (-1, MM o (th, 4, mq2.2.1.1, ta, f, mo, sd, ac, mk) mq2 ma2 re2)) := by
  cases o with
  | none => exact (cal_eq h rfl rfl rfl).trans rfl
  | some me => exact (cal_eq h rfl rfl rfl).trans rfl
theorem m_mea128 (x : Int64) {r : Int32} (h : EX12_bits [.long x] (MN o (th, mtr, wh, ta, mfa, mo, sd, ac, mk) mq ma re) = some r) : BX12_meadow_128 [] [.long x, .ref 0] (MN o (th, mtr, wh, ta, mfa, mo, sd, ac, mk) mq ma re) = some (r, MN o (th, 0, -1, ta, mfa, mo, sd, ac, mk) mq ma re) := by
  cases o with
  | none => exact (cal_eq h rfl rfl (chk_rf _ _ _)).trans rfl
  | some me => exact (cal_eq h rfl rfl (chk_rf _ _ _)).trans rfl
end
