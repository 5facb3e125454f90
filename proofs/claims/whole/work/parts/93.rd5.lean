/-! Walkers: the model when it is over; names. -/
theorem if_pos_neg_same {α : Type} {p : Prop} [Decidable p] (x : α) : (if p then x else x) = x := by split <;> rfl
section
variable {mz : MzS} {tp : TpS} {ra rp nb cc cp : Int32} {hi : HiS} {sc : ScS} {pl dr : PlS} {wa wb : WaS} {rc : Nat → Int32} {o : Option MeS} {th mtr wh ta mfa : Int32} {mo : Int64} {sd ac mk : Int32} {mq : MsS} {wr : Int32} {rm rs : Int64} {ma : MaS} {SP : Nat → Int32} {re : MeS} {m n e : Nat} {t : TT} {u : UU}
theorem o_w261 (h : u.2.1 = 5) (v1 : Int64) (v3 v4 v5 : Int32) : BX12_readWalker_254 [(0, .ref 0), (1, .long v1), (3, .int v3), (4, .int v4), (5, .int v5)] [] (MM o (th, mtr, wh, ta, mfa, mo, sd, ac, mk) (mU mq n u wr rm rs) (mAq ma SP) re) = some (MM o (th, mtr, wh, ta, mfa, mo, sd, ac, mk) (mU mq n u wr rm rs) (mAq ma SP) re) := by
  rw [qX12_readWalker_254_m, qX12_readWalker_261_m (h := o_part h 0 99), if_pos h]
theorem o_w241 (h : u.2.1 = 5) (v1 : Int64) (v3 v4 s0 : Int32) : BX12_readWalker_241 [(0, .ref 0), (1, .long v1), (3, .int v3), (4, .int v4)] [.int s0] (MM o (th, mtr, wh, ta, mfa, mo, sd, ac, mk) (mU mq n u wr rm rs) (mAq ma SP) re) = some (MM o (th, mtr, wh, ta, mfa, mo, sd, ac, mk) (mU mq n u wr rm rs) (mAq ma SP) re) := by
  rw [qX12_readWalker_241_m, qX12_readWalker_251_m (h := o_flaw h 1), o_w261 h, if_pos_neg_same]
theorem o_w188 (h : u.2.1 = 5) (v1 : Int64) (v3 v4 : Int32) : BX12_readWalker_188 [(0, .ref 0), (1, .long v1), (3, .int v3), (4, .int v4)] [.ref 2034, .ref 0] (MM o (th, mtr, wh, ta, mfa, mo, sd, ac, mk) (mU mq n u wr rm rs) (mAq ma SP) re) = some (MM o (th, mtr, wh, ta, mfa, mo, sd, ac, mk) (mU mq n u wr rm rs) (mAq ma SP) re) := by
  rw [qX12_readWalker_188_m (h := o_eatsWord h), if_b2i, if_neg (by decide), qX12_readWalker_202_m (h := o_eatsWord h), if_b2i, if_neg (by decide), qX12_readWalker_216_m (h := o_eatsWord h), if_b2i, if_neg (by decide), qX12_readWalker_230_m (h := o_eatsWord h), if_b2i, if_neg (by decide), o_w241 h]
theorem o_w181 (h : u.2.1 = 5) (v1 : Int64) (v3 v4 : Int32) : BX12_readWalker_181 [(0, .ref 0), (1, .long v1), (3, .int v3), (4, .int v4)] [.ref 2033, .ref 0] (MM o (th, mtr, wh, ta, mfa, mo, sd, ac, mk) (mU mq n u wr rm rs) (mAq ma SP) re) = some (MM o (th, mtr, wh, ta, mfa, mo, sd, ac, mk) (mU mq n u wr rm rs) (mAq ma SP) re) := by
  rw [qX12_readWalker_181_m (h := o_needs h), o_w188 h]
theorem o_w172 (h : u.2.1 = 5) (v1 : Int64) (v3 : Int32) : BX12_readWalker_172 [(0, .ref 0), (1, .long v1), (3, .int v3)] [.ref 0] (MM o (th, mtr, wh, ta, mfa, mo, sd, ac, mk) (mU mq n u wr rm rs) (mAq ma SP) re) = some (MM o (th, mtr, wh, ta, mfa, mo, sd, ac, mk) (mU mq n u wr rm rs) (mAq ma SP) re) := by
  obtain ⟨z, hz⟩ := o_cell (o := o) (th := th) (mtr := mtr) (wh := wh) (ta := ta) (mfa := mfa) (mo := mo) (sd := sd) (ac := ac) (mk := mk) (mq := mq) (wr := wr) (rm := rm) (rs := rs) (ma := ma) (re := re) (n := n) (SP := SP) (u := u) h
  rw [qX12_readWalker_172_m (h := hz), o_w181 h]
theorem o_w164 (h : u.2.1 = 5) (v1 : Int64) (v3 : Int32) : BX12_readWalker_164 [(0, .ref 0), (1, .long v1), (3, .int v3)] [] (MM o (th, mtr, wh, ta, mfa, mo, sd, ac, mk) (mU mq n u wr rm rs) (mAq ma SP) re) = some (MM o (th, mtr, wh, ta, mfa, mo, sd, ac, mk) (mU mq n u wr rm rs) (mAq ma SP) re) := by
  rw [qX12_readWalker_164_m, qX12_readWalker_168_m (h := o_needs h), o_w172 h]
theorem o_w153 (h : u.2.1 = 5) (v1 : Int64) (s0 : Int32) : BX12_readWalker_153 [(0, .ref 0), (1, .long v1)] [.int s0] (MM o (th, mtr, wh, ta, mfa, mo, sd, ac, mk) (mU mq n u wr rm rs) (mAq ma SP) re) = some (MM o (th, mtr, wh, ta, mfa, mo, sd, ac, mk) (mU mq n u wr rm rs) (mAq ma SP) re) := by
  rw [qX12_readWalker_153_m, qX12_readWalker_161_m (h := o_flaw h 1), o_w164 h, if_pos_neg_same]
theorem o_w79 (h : u.2.1 = 5) (v1 : Int64) : BX12_readWalker_79 [(0, .ref 0), (1, .long v1)] [.ref 0] (MM o (th, mtr, wh, ta, mfa, mo, sd, ac, mk) (mU mq n u wr rm rs) (mAq ma SP) re) = some (MM o (th, mtr, wh, ta, mfa, mo, sd, ac, mk) (mU mq n u wr rm rs) (mAq ma SP) re) := by
  rw [qX12_readWalker_79_m (h := o_go h), qX12_readWalker_86_m (h := o_eatsWord h), if_b2i, if_neg (by decide), qX12_readWalker_100_m (h := o_eatsWord h), if_b2i, if_neg (by decide), qX12_readWalker_114_m (h := o_eatsWord h), if_b2i, if_neg (by decide), qX12_readWalker_128_m (h := o_eatsWord h), if_b2i, if_neg (by decide), qX12_readWalker_142_m (h := o_eatsWord h), if_b2i, if_neg (by decide), o_w153 h]
theorem o_w26 (h : u.2.1 = 5) {wc : Nat} (hwc : wc ≤ 5) (hw : re.1.2.2.2.2.2.2.2.2.2.2.1 = nI wc) : lp (BX12_readWalker_26) FU [(0, .ref 0), (1, .int 0)] [] (MM o (th, mtr, wh, ta, mfa, mo, sd, ac, mk) (mU mq n u wr rm rs) (mAq ma SP) re) = some (MM o (th, mtr, wh, ta, mfa, mo, sd, ac, mk) (mU mq n u wr rm rs) (mAq ma SP) re) := by
  refine lp_run (fun j => [(0, .ref 0), (1, .int (nI j))]) (fun _ => (MM o (th, mtr, wh, ta, mfa, mo, sd, ac, mk) (mU mq n u wr rm rs) (mAq ma SP) re)) (t := wc) (by have := FU_ge; omega) (fun j hj k => ?_) (fun k => ?_)
  · rw [qX12_readWalker_26_m, hw, if_le (by omega) (by omega), if_neg (by omega), if_pos h, nI_1, ← hw]
  · rw [qX12_readWalker_26_m, hw, if_pos (nI_le (Nat.le_refl _) (by omega)), ← hw, o_w79 h]
/-- the model looks for a name; there is none: it goes on -/
theorem m_w26N (h5 : u.2.1 ≠ 5) {wc : Nat} (hwc : wc ≤ 5) (hw : re.1.2.2.2.2.2.2.2.2.2.2.1 = nI wc) (hno : ∀ i, i < wc → ¬ re.2.2.2.2.2.2.2.2.2 i = u.2.2.2.2.2.2) : lp (BX12_readWalker_26) FU [(0, .ref 0), (1, .int 0)] [] (MM o (th, mtr, wh, ta, mfa, mo, sd, ac, mk) (mU mq n u wr rm rs) (mAq ma SP) re) = BX12_readWalker_79 [(0, .ref 0), (1, .long u.2.2.2.2.2.2)] [.ref 0] (MM o (th, mtr, wh, ta, mfa, mo, sd, ac, mk) (mU mq n u wr rm rs) (mAq ma SP) re) := by
  refine lp_run (fun j => [(0, .ref 0), (1, .int (nI j))]) (fun _ => (MM o (th, mtr, wh, ta, mfa, mo, sd, ac, mk) (mU mq n u wr rm rs) (mAq ma SP) re)) (t := wc) (by have := FU_ge; omega) (fun j hj k => ?_) (fun k => ?_)
  · rw [qX12_readWalker_26_m, hw, if_le (by omega) (by omega), if_neg (by omega), if_neg h5, if_neg (nI_in (by omega : j < 5) (by omega)), nI_clamp (by omega), if_neg (fun h => hno j hj ((lgc0 _ _).mp h)), nI_1, ← hw]
  · rw [qX12_readWalker_26_m, hw, if_pos (nI_le (Nat.le_refl _) (by omega)), ← hw]
theorem m_w26Y (h5 : u.2.1 ≠ 5) {wc i0 : Nat} (hwc : wc ≤ 5) (hw : re.1.2.2.2.2.2.2.2.2.2.2.1 = nI wc) (hi : i0 < wc) (hno : ∀ i, i < i0 → ¬ re.2.2.2.2.2.2.2.2.2 i = u.2.2.2.2.2.2) (hy : re.2.2.2.2.2.2.2.2.2 i0 = u.2.2.2.2.2.2) : lp (BX12_readWalker_26) FU [(0, .ref 0), (1, .int 0)] [] (MM o (th, mtr, wh, ta, mfa, mo, sd, ac, mk) (mU mq n u wr rm rs) (mAq ma SP) re) = some (MM o (th, mtr, wh, ta, 3, mo, sd, ac, mk) (mU mq n (ov u) u.2.2.1 rm rs) (mAq ma SP) re) := by
  refine lp_run (fun j => [(0, .ref 0), (1, .int (nI j))]) (fun j => if j ≤ i0 then (MM o (th, mtr, wh, ta, mfa, mo, sd, ac, mk) (mU mq n u wr rm rs) (mAq ma SP) re) else (MM o (th, mtr, wh, ta, 3, mo, sd, ac, mk) (mU mq n (ov u) u.2.2.1 rm rs) (mAq ma SP) re)) (t := wc) (by have := FU_ge; omega) (fun j hj k => ?_) (fun k => ?_)
  · by_cases h1 : j ≤ i0
    · rw [if_pos h1, qX12_readWalker_26_m, hw, if_le (by omega) (by omega), if_neg (by omega), if_neg h5, if_neg (nI_in (by omega : j < 5) (by omega)), nI_clamp (by omega), ← hw]
      by_cases e0 : j = i0
      · subst e0
        rw [if_pos ((lgc0 _ _).mpr hy), if_neg (by omega), qX12_readWalker_64_m (h := t_flaw h5 3), nI_1]
      · rw [if_neg (fun h => hno j (by omega) ((lgc0 _ _).mp h)), if_pos (by omega), nI_1]
    · rw [if_neg h1, if_neg (by omega), qX12_readWalker_26_m, hw, if_le (by omega) (by omega), if_neg (by omega), if_pos rfl, nI_1, ← hw]
  · rw [if_neg (by omega), qX12_readWalker_26_m, hw, if_pos (nI_le (Nat.le_refl _) (by omega)), ← hw, o_w79 rfl]
theorem c_hwS {nm : Int64} {wc : Nat} (hwc : wc ≤ 5) (hw : dr.2.2.2.2.2.2.2.2.2.2.2 = nI wc) {tk : TkS} {rd : RdS} {j : Nat} (hj : j ≤ 5) (k : KT Bool) : BX3_hasWalkerNamed_2 k [(0, .ref 29), (1, .long nm), (3, .int (nI j))] [] (CH mz tp tk rd hi sc pl dr wa wb rc) = (if wc ≤ j then some false else if (dr.2.2.2.1 j).1 = nm then some true else k [(0, .ref 29), (1, .long nm), (3, .int (nI (j + 1)))] [] (CH mz tp tk rd hi sc pl dr wa wb rc)) := by
  have key : ∀ (j : Nat) (x : Int64) (F : Option Bool), j < 5 → (if dr.2.2.2.2.2.2.2.2.2.2.2 ≤ nI j then some false else (if (lg_cmp x nm) = 0 then some true else F)) = (if wc ≤ j then some false else if x = nm then some true else F) := fun j x F hj => by
    rw [hw, if_le (by omega) (by omega)]
    by_cases e : x = nm
    · rw [if_pos ((lgc0 _ _).mpr e), if_pos e]
    · rw [if_neg (fun h => e ((lgc0 _ _).mp h)), if_neg e]
  rcases (by omega : j = 0 ∨ j = 1 ∨ j = 2 ∨ j = 3 ∨ j = 4 ∨ j = 5) with rfl | rfl | rfl | rfl | rfl | rfl
  · exact (qX3_hasWalkerNamed_2_0 ..).trans (key 0 _ _ (by omega))
  · exact (qX3_hasWalkerNamed_2_1 ..).trans (key 1 _ _ (by omega))
  · exact (qX3_hasWalkerNamed_2_2 ..).trans (key 2 _ _ (by omega))
  · exact (qX3_hasWalkerNamed_2_3 ..).trans (key 3 _ _ (by omega))
  · exact (qX3_hasWalkerNamed_2_4 ..).trans (key 4 _ _ (by omega))
  · rw [if_pos hwc]
    refine (qX3_hasWalkerNamed_2_5 ..).trans ?_
    split <;> rfl
theorem c_named {nm : Int64} {wc i0 : Nat} (hwc : wc ≤ 5) (hw : dr.2.2.2.2.2.2.2.2.2.2.2 = nI wc) (hi0 : i0 ≤ wc) (hno : ∀ i, i < i0 → ¬ (dr.2.2.2.1 i).1 = nm) (hy : i0 < wc → (dr.2.2.2.1 i0).1 = nm) {tk : TkS} {rd : RdS} : EX3_hasWalkerNamed [.ref 29, .long nm] (CH mz tp tk rd hi sc pl dr wa wb rc) = some (decide (i0 < wc)) := by
  rw [eX3_hasWalkerNamed_s, qX3_hasWalkerNamed_0]
  refine lp_run (fun j => [(0, .ref 29), (1, .long nm), (3, .int (nI j))]) (fun _ => CH mz tp tk rd hi sc pl dr wa wb rc) (t := i0) (by have := FU_ge; omega) (fun j hj k => ?_) (fun k => ?_)
  · rw [c_hwS hwc hw (by omega), if_neg (by omega), if_neg (hno j hj)]
  · rw [c_hwS hwc hw (by omega)]
    by_cases h : i0 < wc
    · rw [if_neg (by omega), if_pos (hy h), decide_eq_true h]
    · rw [if_pos (by omega), decide_eq_false h]
theorem c_addW {nm : Int64} {k c s l : Int32} {wc : Nat} (hwc : wc < 5) (hw : dr.2.2.2.2.2.2.2.2.2.2.2 = nI wc) {tk : TkS} {rd : RdS} : EX3_addWalker [.ref 29, .long nm, .int k, .int c, .int s, .int l] (CH mz tp tk rd hi sc pl dr wa wb rc) = some (CH mz tp tk rd hi sc pl (dr.1, dr.2.1, dr.2.2.1, (va_up dr.2.2.2.1 wc (nm, k, c, s, l)), (dr.2.2.2.2.1, dr.2.2.2.2.2.1, dr.2.2.2.2.2.2.1, dr.2.2.2.2.2.2.2.1, dr.2.2.2.2.2.2.2.2.1, dr.2.2.2.2.2.2.2.2.2.1, dr.2.2.2.2.2.2.2.2.2.2.1, nI (wc + 1))) wa wb rc) := by
  have e : dr = (dr.1, dr.2.1, dr.2.2.1, dr.2.2.2.1, (dr.2.2.2.2.1, dr.2.2.2.2.2.1, dr.2.2.2.2.2.2.1, dr.2.2.2.2.2.2.2.1, dr.2.2.2.2.2.2.2.2.1, dr.2.2.2.2.2.2.2.2.2.1, dr.2.2.2.2.2.2.2.2.2.2.1, nI wc)) := by rw [← hw]
  rcases (by omega : wc = 0 ∨ wc = 1 ∨ wc = 2 ∨ wc = 3 ∨ wc = 4) with rfl | rfl | rfl | rfl | rfl
  · exact (congrArg (fun d => EX3_addWalker [.ref 29, .long nm, .int k, .int c, .int s, .int l] (CH mz tp tk rd hi sc pl d wa wb rc)) e).trans ((eX3_addWalker_s_0 ..).trans (qX3_addWalker_0_0 ..))
  · exact (congrArg (fun d => EX3_addWalker [.ref 29, .long nm, .int k, .int c, .int s, .int l] (CH mz tp tk rd hi sc pl d wa wb rc)) e).trans ((eX3_addWalker_s_1 ..).trans (qX3_addWalker_0_1 ..))
  · exact (congrArg (fun d => EX3_addWalker [.ref 29, .long nm, .int k, .int c, .int s, .int l] (CH mz tp tk rd hi sc pl d wa wb rc)) e).trans ((eX3_addWalker_s_2 ..).trans (qX3_addWalker_0_2 ..))
  · exact (congrArg (fun d => EX3_addWalker [.ref 29, .long nm, .int k, .int c, .int s, .int l] (CH mz tp tk rd hi sc pl d wa wb rc)) e).trans ((eX3_addWalker_s_3 ..).trans (qX3_addWalker_0_3 ..))
  · exact (congrArg (fun d => EX3_addWalker [.ref 29, .long nm, .int k, .int c, .int s, .int l] (CH mz tp tk rd hi sc pl d wa wb rc)) e).trans ((eX3_addWalker_s_4 ..).trans (qX3_addWalker_0_4 ..))
end
