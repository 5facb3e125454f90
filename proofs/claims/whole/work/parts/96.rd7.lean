/-! How a line begins; lines when it is over. -/
section
variable {mz : MzS} {tp : TpS} {ra rp nb cc cp : Int32} {hi : HiS} {sc : ScS} {pl dr : PlS} {wa wb : WaS} {rc : Nat → Int32} {o : Option MeS} {th mtr wh ta mfa : Int32} {mo : Int64} {sd ac mk : Int32} {mq : MsS} {wr : Int32} {rm rs : Int64} {ma : MaS} {SP : Nat → Int32} {re : MeS} {m n e : Nat} {t : TT} {u : UU}
theorem o_begins (h : u.2.1 = 5) (a b : Int32) : EX12_begins [.ref 0, .int a, .int b] (MM o (th, mtr, wh, ta, mfa, mo, sd, ac, mk) (mU mq n u wr rm rs) (mAq ma SP) re) = some (MM o (th, mtr, wh, ta, mfa, mo, sd, ac, mk) (mU mq n u wr rm rs) (mAq ma SP) re) := by
  rw [eX12_begins_s_m, qX12_begins_0_m, qX12_begins_7_m (h := o_flaw h 5), if_pos_neg_same, qX12_begins_10_m, qX12_begins_23_m (h := o_flaw h 6), if_pos_neg_same, qX12_begins_27_m (h := o_go h)]
theorem t_begF (h5 : u.2.1 ≠ 5) (a : Int32) : EX12_begins [.ref 0, .int a, .int a] (MM o (th, mtr, wh, ta, mfa, mo, sd, ac, mk) (mU mq n u wr rm rs) (mAq ma SP) re) = some (MM o (th, mtr, wh, ta, 5, mo, sd, ac, mk) (mU mq n (ov u) u.2.2.1 rm rs) (mAq ma SP) re) := by
  rw [eX12_begins_s_m, qX12_begins_0_m, if_pos rfl, qX12_begins_7_m (h := t_flaw h5 5), qX12_begins_10_m, qX12_begins_23_m (h := o_flaw rfl 6), if_pos_neg_same, qX12_begins_27_m (h := o_go rfl)]
theorem t_begL (h5 : u.2.1 ≠ 5) {a b : Int32} (hab : a ≠ b) (h0 : re.1.1 = 0) : EX12_begins [.ref 0, .int a, .int b] (MM o (th, mtr, wh, ta, mfa, mo, sd, ac, mk) (mU mq n u wr rm rs) (mAq ma SP) re) = some (MM o (th, mtr, wh, ta, 6, mo, sd, ac, mk) (mU mq n (ov u) u.2.2.1 rm rs) (mAq ma SP) re) := by
  rw [eX12_begins_s_m, qX12_begins_0_m, if_neg hab, qX12_begins_10_m, if_pos h0, qX12_begins_23_m (h := t_flaw h5 6), qX12_begins_27_m (h := o_go rfl)]
theorem t_begY {a b : Int32} (hab : a ≠ b) (h0 : ¬ re.1.1 = 0) {u2 : UU} {SP2 : Nat → Int32} (g : EX12_goesOn [.ref 0] (MM o (th, mtr, wh, ta, mfa, mo, sd, ac, mk) (mU mq n u wr rm rs) (mAq ma SP) re) = some (MM o (th, mtr, wh, ta, mfa, mo, sd, ac, mk) (mU mq n u2 wr rm rs) (mAq ma SP2) re)) : EX12_begins [.ref 0, .int a, .int b] (MM o (th, mtr, wh, ta, mfa, mo, sd, ac, mk) (mU mq n u wr rm rs) (mAq ma SP) re) = some (MM o (th, mtr, wh, ta, mfa, mo, sd, ac, mk) (mU mq n u2 wr rm rs) (mAq ma SP2) re) := by
  rw [eX12_begins_s_m, qX12_begins_0_m, if_neg hab, qX12_begins_10_m, if_neg h0, qX12_begins_27_m (h := g)]
theorem o_cells (h : u.2.1 = 5) (a z : Int32) : EX12_readCells [.ref 0, .int a, .int z] (MM o (th, mtr, wh, ta, mfa, mo, sd, ac, mk) (mU mq n u wr rm rs) (mAq ma SP) re) = some (MM o (th, mtr, wh, ta, mfa, mo, sd, ac, mk) (mU mq n u wr 0 0) (mAq ma SP) re) := by
  rw [eX12_readCells_s_m, qX12_readCells_0_m, if_neg (by rw [h]; decide), qX12_readCells_20_m (h := o_flaw h 1), qX12_readCells_23_m, if_pos h]
theorem o_row (h : u.2.1 = 5) (a z : Int32) : BX12_readRow_41 [(0, .ref 0)] [.int z, .int a, .ref 0] (MM o (th, mtr, wh, ta, mfa, mo, sd, ac, mk) (mU mq n u wr rm rs) (mAq ma SP) re) = some (MM o (th, mtr, wh, ta, mfa, mo, sd, ac, mk) (mU mq n u wr 0 0) (mAq ma SP) re) := by
  rw [qX12_readRow_41_m (h := o_cells h a z), if_pos h]
theorem o_want (h : u.2.1 = 5) (a z : Int32) : BX12_readWant_41 [(0, .ref 0)] [.int z, .int a, .ref 0] (MM o (th, mtr, wh, ta, mfa, mo, sd, ac, mk) (mU mq n u wr rm rs) (mAq ma SP) re) = some (MM o (th, mtr, wh, ta, mfa, mo, sd, ac, mk) (mU mq n u wr 0 0) (mAq ma SP) re) := by
  rw [qX12_readWant_41_m (h := o_cells h a z), if_pos h]
theorem o_moon (h : u.2.1 = 5) (a z : Int32) : BX12_readMoon_41 [(0, .ref 0)] [.int z, .int a, .ref 0] (MM o (th, mtr, wh, ta, mfa, mo, sd, ac, mk) (mU mq n u wr rm rs) (mAq ma SP) re) = some (MM o (th, mtr, wh, ta, mfa, mo, sd, ac, mk) (mU mq n u wr 0 0) (mAq ma SP) re) := by
  rw [qX12_readMoon_41_m (h := o_cells h a z), if_pos h]
theorem o_gate (h : u.2.1 = 5) (a : Int32) : BX12_readGate_23 [(0, .ref 0)] [.int a, .int 0, .ref 0] (MM o (th, mtr, wh, ta, mfa, mo, sd, ac, mk) (mU mq n u wr rm rs) (mAq ma SP) re) = some (MM o (th, mtr, wh, ta, mfa, mo, sd, ac, mk) (mU mq n u wr rm rs) (mAq ma SP) re) := by
  rw [qX12_readGate_23_m (h := o_whole h 0 a), qX12_readGate_30_m (h := o_needsSign h 44), qX12_readGate_51_m (h := o_bounded h 0 _), if_pos h, qX12_readGate_85_m, qX12_readGate_86_m (h := o_go h), if_pos h]
theorem o_noise (h : u.2.1 = 5) : BX12_readNoise_24 [(0, .ref 0)] [.ref 0] (MM o (th, mtr, wh, ta, mfa, mo, sd, ac, mk) (mU mq n u wr rm rs) (mAq ma SP) re) = some (MM o (th, mtr, wh, ta, mfa, mo, sd, ac, mk) (mU mq n u wr rm rs) (mAq ma SP) re) := by
  obtain ⟨z, hz⟩ := o_cell (o := o) (th := th) (mtr := mtr) (wh := wh) (ta := ta) (mfa := mfa) (mo := mo) (sd := sd) (ac := ac) (mk := mk) (mq := mq) (wr := wr) (rm := rm) (rs := rs) (ma := ma) (re := re) (n := n) (SP := SP) (u := u) h
  rw [qX12_readNoise_24_m (h := hz), if_pos h]
theorem o_heard (h : u.2.1 = 5) : BX12_readHeard_16 [(0, .ref 0)] [.int 60, .int 0, .ref 0] (MM o (th, mtr, wh, ta, mfa, mo, sd, ac, mk) (mU mq n u wr rm rs) (mAq ma SP) re) = some (MM o (th, mtr, wh, ta, mfa, mo, sd, ac, mk) (mU mq n u wr rm rs) (mAq ma SP) re) := by
  obtain ⟨z, hz⟩ := o_cell (o := o) (th := th) (mtr := mtr) (wh := wh) (ta := ta) (mfa := mfa) (mo := mo) (sd := sd) (ac := ac) (mk := mk) (mq := mq) (wr := wr) (rm := rm) (rs := rs) (ma := ma) (re := re) (n := n) (SP := SP) (u := u) h
  rw [qX12_readHeard_16_m (h := o_whole h 0 60), qX12_readHeard_24_m (h := o_needs h), qX12_readHeard_28_m (h := hz), if_pos h]
theorem o_walker (h : u.2.1 = 5) {wc : Nat} (hwc : wc ≤ 5) (hw : re.1.2.2.2.2.2.2.2.2.2.2.1 = nI wc) : BX12_readWalker_13 [(0, .ref 0)] [.ref 0] (MM o (th, mtr, wh, ta, mfa, mo, sd, ac, mk) (mU mq n u wr rm rs) (mAq ma SP) re) = some (MM o (th, mtr, wh, ta, mfa, mo, sd, ac, mk) (mU mq n u wr rm rs) (mAq ma SP) re) := by
  have hN : EX12_isName [.ref 0] (MM o (th, mtr, wh, ta, mfa, mo, sd, ac, mk) (mU mq n u wr rm rs) (mAq ma SP) re) = some false := by
    rw [eX12_isName_s_m, qX12_isName_0_m, if_neg (by rw [h]; decide)]
  rw [qX12_readWalker_13_m (h := hN), if_b2i, if_neg (by decide), qX12_readWalker_21_m (h := o_flaw h 1), o_w26 h hwc hw]
theorem o_meadow (h5 : u.2.1 ≠ 5) (h0 : ¬ re.1.1 ≤ 0) : EX12_readMeadow [.ref 0] (MM o (th, mtr, wh, ta, mfa, mo, sd, ac, mk) (mU mq n u wr rm rs) (mAq ma SP) re) = some (MM o (th, mtr, wh, ta, 3, mo, sd, ac, mk) (mU mq n (ov u) u.2.2.1 rm rs) (mAq ma SP) re) := by
  rw [eX12_readMeadow_s_m, qX12_readMeadow_0_m, if_neg h0, qX12_readMeadow_12_m (h := t_flaw h5 3), qX12_readMeadow_15_m, qX12_readMeadow_16_m (h := o_go rfl), qX12_readMeadow_25_m (h := o_part rfl 2 8), qX12_readMeadow_35_m (h := o_part rfl 2 6), qX12_readMeadow_46_m (h := o_part rfl 1 200), qX12_readMeadow_56_m (h := o_part rfl 0 99), qX12_readMeadow_66_m (h := o_part rfl 1 4), if_pos rfl]
end
