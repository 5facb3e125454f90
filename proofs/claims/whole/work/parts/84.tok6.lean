/-! Numbers and cells. -/
section
variable {mz : MzS} {tp : TpS} {ra rp nb cc cp : Int32} {hi : HiS} {sc : ScS} {pl dr : PlS} {wa wb : WaS} {rc : Nat → Int32} {o : Option MeS} {th mtr wh ta mfa : Int32} {mo : Int64} {sd ac mk : Int32} {mq : MsS} {wr : Int32} {rm rs : Int64} {ma : MaS} {SP : Nat → Int32} {re : MeS} {m n e : Nat} {t : TT} {u : UU}
theorem t_bound (T : Tk (bt tp.1) n e t u SP) (lo hh : Int32) :
    (t.2.1 = 2 ∧ lo ≤ t.2.2.2.1 ∧ t.2.2.2.1 ≤ hh ∧ EX12_bounded [.ref 0, .int lo, .int hh] (MM o (th, mtr, wh, ta, mfa, mo, sd, ac, mk) (mU mq n u wr rm rs) (mAq ma SP) re) = some (t.2.2.2.1, (MM o (th, mtr, wh, ta, mfa, mo, sd, ac, mk) (mU mq n u wr rm rs) (mAq ma SP) re))) ∨
    (∃ f nb2, 0 < f ∧ EX4_takeWhole [.ref 3, .int lo, .int hh] (CH mz tp (tC n t) (ra, rp, nb, cc, cp) hi sc pl dr wa wb rc) = some (false, (CH mz tp (tC n t) (f, t.2.2.1, nb2, cc, cp) hi sc pl dr wa wb rc)) ∧ EX12_bounded [.ref 0, .int lo, .int hh] (MM o (th, mtr, wh, ta, mfa, mo, sd, ac, mk) (mU mq n u wr rm rs) (mAq ma SP) re) = some (lo, (MM o (th, mtr, wh, ta, f, mo, sd, ac, mk) (mU mq n (ov u) t.2.2.1 rm rs) (mAq ma SP) re))) := by
  have hfl := fun k => t_flaw (o := o) (th := th) (mtr := mtr) (wh := wh) (ta := ta) (mfa := mfa) (mo := mo) (sd := sd) (ac := ac) (mk := mk) (mq := mq) (wr := wr) (rm := rm) (rs := rs) (ma := ma) (re := re) (SP := SP) (n := n) T.over k
  by_cases hk : t.2.1 = 2
  · have hv := T.w2 hk
    by_cases h1 : t.2.2.2.1 < lo
    · refine Or.inr ⟨4, t.2.2.2.1, by decide, ?_, ?_⟩
      · rw [eX4_takeWhole_s, qX4_takeWhole_0, if_pos hk, if_pos h1]
      · rw [← T.pc, eX12_bounded_s_m, qX12_bounded_0_m, if_pos (T.k2.mp hk), qX12_bounded_22_m (h := e_in _ _ _ _), ← hv, decide_eq_false (fun h => absurd h1 (Int32.not_lt.mpr h.1)), if_b2i, if_neg (by decide), hv, qX12_bounded_30_m (h := hfl 4), qX12_bounded_33_m, if_pos rfl]
    · by_cases h2 : t.2.2.2.1 ≤ hh
      · refine Or.inl ⟨hk, Int32.not_lt.mp h1, h2, ?_⟩
        rw [eX12_bounded_s_m, qX12_bounded_0_m, if_pos (T.k2.mp hk), qX12_bounded_22_m (h := e_in _ _ _ _), ← hv, decide_eq_true ⟨Int32.not_lt.mp h1, h2⟩, if_b2i, if_pos rfl, hv, qX12_bounded_33_m, if_neg T.over]
      · refine Or.inr ⟨4, t.2.2.2.1, by decide, ?_, ?_⟩
        · rw [eX4_takeWhole_s, qX4_takeWhole_0, if_pos hk, if_neg h1, if_neg h2]
        · rw [← T.pc, eX12_bounded_s_m, qX12_bounded_0_m, if_pos (T.k2.mp hk), qX12_bounded_22_m (h := e_in _ _ _ _), ← hv, decide_eq_false (fun h => h2 h.2), if_b2i, if_neg (by decide), hv, qX12_bounded_30_m (h := hfl 4), qX12_bounded_33_m, if_pos rfl]
  · refine Or.inr ⟨1, nb, by decide, ?_, ?_⟩
    · rw [eX4_takeWhole_s, qX4_takeWhole_0, if_neg hk]
    · rw [← T.pc, eX12_bounded_s_m, qX12_bounded_0_m, if_neg (fun h => hk (T.k2.mpr h)), qX12_bounded_10_m (h := hfl 1), qX12_bounded_33_m, if_pos rfl]
theorem t_whole (H : Ctx tp ma m n) (T : Tk (bt tp.1) n e t u SP) (lo hh : Int32) :
    (∃ v e2 t2 u2 SP2, lo ≤ v ∧ v ≤ hh ∧ Tk (bt tp.1) n e2 t2 u2 SP2 ∧ Af e e2 t2 ∧ EX4_takeWhole [.ref 3, .int lo, .int hh] (CH mz tp (tC n t) (ra, rp, nb, cc, cp) hi sc pl dr wa wb rc) = some (true, (CH mz tp (tC n t2) (ra, rp, v, cc, cp) hi sc pl dr wa wb rc)) ∧ EX12_readWhole [.ref 0, .int lo, .int hh] (MM o (th, mtr, wh, ta, mfa, mo, sd, ac, mk) (mU mq n u wr rm rs) (mAq ma SP) re) = some (v, (MM o (th, mtr, wh, ta, mfa, mo, sd, ac, mk) (mU mq n u2 wr rm rs) (mAq ma SP2) re)) ∧ EX12_bounded [.ref 0, .int lo, .int hh] (MM o (th, mtr, wh, ta, mfa, mo, sd, ac, mk) (mU mq n u wr rm rs) (mAq ma SP) re) = some (v, (MM o (th, mtr, wh, ta, mfa, mo, sd, ac, mk) (mU mq n u wr rm rs) (mAq ma SP) re)) ∧ EX12_goesOn [.ref 0] (MM o (th, mtr, wh, ta, mfa, mo, sd, ac, mk) (mU mq n u wr rm rs) (mAq ma SP) re) = some (MM o (th, mtr, wh, ta, mfa, mo, sd, ac, mk) (mU mq n u2 wr rm rs) (mAq ma SP2) re)) ∨
    (∃ f nb2, 0 < f ∧ EX4_takeWhole [.ref 3, .int lo, .int hh] (CH mz tp (tC n t) (ra, rp, nb, cc, cp) hi sc pl dr wa wb rc) = some (false, (CH mz tp (tC n t) (f, t.2.2.1, nb2, cc, cp) hi sc pl dr wa wb rc)) ∧ EX12_readWhole [.ref 0, .int lo, .int hh] (MM o (th, mtr, wh, ta, mfa, mo, sd, ac, mk) (mU mq n u wr rm rs) (mAq ma SP) re) = some (lo, (MM o (th, mtr, wh, ta, f, mo, sd, ac, mk) (mU mq n (ov u) t.2.2.1 rm rs) (mAq ma SP) re)) ∧ EX12_bounded [.ref 0, .int lo, .int hh] (MM o (th, mtr, wh, ta, mfa, mo, sd, ac, mk) (mU mq n u wr rm rs) (mAq ma SP) re) = some (lo, (MM o (th, mtr, wh, ta, f, mo, sd, ac, mk) (mU mq n (ov u) t.2.2.1 rm rs) (mAq ma SP) re))) := by
  rcases t_bound (mz := mz) (ra := ra) (rp := rp) (nb := nb) (cc := cc) (cp := cp) (hi := hi) (sc := sc) (pl := pl) (dr := dr) (wa := wa) (wb := wb) (rc := rc) (o := o) (th := th) (mtr := mtr) (wh := wh) (ta := ta) (mfa := mfa) (mo := mo) (sd := sd) (ac := ac) (mk := mk) (mq := mq) (wr := wr) (rm := rm) (rs := rs) (ma := ma) (re := re) T lo hh with ⟨hk, h1, h2, h3⟩ | ⟨f, nb2, hf, h1, h2⟩
  · obtain ⟨e2, t2, u2, SP2, T2, A2, g1, g2⟩ := t_go (mz := mz) (ra := ra) (rp := rp) (nb := t.2.2.2.1) (cc := cc) (cp := cp) (hi := hi) (sc := sc) (pl := pl) (dr := dr) (wa := wa) (wb := wb) (rc := rc) (o := o) (th := th) (mtr := mtr) (wh := wh) (ta := ta) (mfa := mfa) (mo := mo) (sd := sd) (ac := ac) (mk := mk) (mq := mq) (wr := wr) (rm := rm) (rs := rs) (ma := ma) (re := re) (SP := SP) H T.e.2 T.e.1 (T.sp (Or.inr (Or.inl hk))) T.over
    refine Or.inl ⟨t.2.2.2.1, e2, t2, u2, SP2, h1, h2, T2, A2, ?_, ?_, h3, g2⟩
    · rw [eX4_takeWhole_s, qX4_takeWhole_0, if_pos hk, if_neg (Int32.not_lt.mpr h1), if_pos h2, qX4_takeWhole_54 (h := g1)]
    · rw [eX12_readWhole_s_m, qX12_readWhole_0_m, qX12_readWhole_3_m (h := h3), qX12_readWhole_8_m (h := g2)]
  · refine Or.inr ⟨f, nb2, hf, h1, ?_, h2⟩
    have hgo5 := o_go (o := o) (th := th) (mtr := mtr) (wh := wh) (ta := ta) (mo := mo) (sd := sd) (ac := ac) (mk := mk) (mq := mq) (rm := rm) (rs := rs) (ma := ma) (re := re) (SP := SP) (n := n) (mfa := f) (wr := t.2.2.1) (u := ov u) rfl
    rw [eX12_readWhole_s_m, qX12_readWhole_0_m, qX12_readWhole_3_m (h := h2), qX12_readWhole_8_m (h := hgo5)]
theorem o_bounded (h : u.2.1 = 5) (lo hh : Int32) : EX12_bounded [.ref 0, .int lo, .int hh] (MM o (th, mtr, wh, ta, mfa, mo, sd, ac, mk) (mU mq n u wr rm rs) (mAq ma SP) re) = some (lo, (MM o (th, mtr, wh, ta, mfa, mo, sd, ac, mk) (mU mq n u wr rm rs) (mAq ma SP) re)) := by
  rw [eX12_bounded_s_m, qX12_bounded_0_m, if_neg (by rw [h]; decide), qX12_bounded_10_m (h := o_flaw h 1), qX12_bounded_33_m, if_pos h]
theorem o_whole (h : u.2.1 = 5) (lo hh : Int32) : EX12_readWhole [.ref 0, .int lo, .int hh] (MM o (th, mtr, wh, ta, mfa, mo, sd, ac, mk) (mU mq n u wr rm rs) (mAq ma SP) re) = some (lo, (MM o (th, mtr, wh, ta, mfa, mo, sd, ac, mk) (mU mq n u wr rm rs) (mAq ma SP) re)) := by
  rw [eX12_readWhole_s_m, qX12_readWhole_0_m, qX12_readWhole_3_m (h := o_bounded h lo hh), qX12_readWhole_8_m (h := o_go h)]
theorem o_needs {a : Nat} (h : u.2.1 = 5) : EX12_needs [.ref 0, .ref a] (MM o (th, mtr, wh, ta, mfa, mo, sd, ac, mk) (mU mq n u wr rm rs) (mAq ma SP) re) = some (MM o (th, mtr, wh, ta, mfa, mo, sd, ac, mk) (mU mq n u wr rm rs) (mAq ma SP) re) := by
  rw [eX12_needs_s_m, qX12_needs_0_m, qX12_needs_2_m (h := o_isWord (by rw [h]; decide)), if_b2i, if_neg (by decide), qX12_needs_10_m (h := o_flaw h 1), qX12_needs_14_m (h := o_go h)]
theorem o_needsSign (h : u.2.1 = 5) (c : Int32) : EX12_needsSign [.ref 0, .int c] (MM o (th, mtr, wh, ta, mfa, mo, sd, ac, mk) (mU mq n u wr rm rs) (mAq ma SP) re) = some (MM o (th, mtr, wh, ta, mfa, mo, sd, ac, mk) (mU mq n u wr rm rs) (mAq ma SP) re) := by
  rw [eX12_needsSign_s_m, qX12_needsSign_0_m, if_neg (by rw [h]; decide), qX12_needsSign_18_m (h := o_flaw h 1), qX12_needsSign_22_m (h := o_go h)]
theorem o_eatsWord {a : Nat} (h : u.2.1 = 5) : EX12_eatsWord [.ref 0, .ref a] (MM o (th, mtr, wh, ta, mfa, mo, sd, ac, mk) (mU mq n u wr rm rs) (mAq ma SP) re) = some (false, (MM o (th, mtr, wh, ta, mfa, mo, sd, ac, mk) (mU mq n u wr rm rs) (mAq ma SP) re)) := by
  rw [eX12_eatsWord_s_m, qX12_eatsWord_0_m, qX12_eatsWord_2_m (h := o_isWord (by rw [h]; decide)), if_b2i, if_neg (by decide)]
  rfl
theorem o_eatsSign (h : u.2.1 = 5) (c : Int32) : EX12_eatsSign [.ref 0, .int c] (MM o (th, mtr, wh, ta, mfa, mo, sd, ac, mk) (mU mq n u wr rm rs) (mAq ma SP) re) = some (false, (MM o (th, mtr, wh, ta, mfa, mo, sd, ac, mk) (mU mq n u wr rm rs) (mAq ma SP) re)) := by
  rw [eX12_eatsSign_s_m, qX12_eatsSign_0_m, if_neg (by rw [h]; decide), qX12_eatsSign_20_m, qX12_eatsSign_21_m, if_pos rfl]
  rfl
theorem o_part {a : Nat} (h : u.2.1 = 5) (lo hh : Int32) : EX12_readPart [.ref 0, .ref a, .int lo, .int hh] (MM o (th, mtr, wh, ta, mfa, mo, sd, ac, mk) (mU mq n u wr rm rs) (mAq ma SP) re) = some (lo, (MM o (th, mtr, wh, ta, mfa, mo, sd, ac, mk) (mU mq n u wr rm rs) (mAq ma SP) re)) := by
  rw [eX12_readPart_s_m, qX12_readPart_0_m, qX12_readPart_2_m (h := o_needs h), qX12_readPart_8_m (h := o_whole h lo hh)]
theorem t_part {a a2 : Nat} {s : Nat → Nat} {L : Nat} (H : Ctx tp ma m n) (T : Tk (bt tp.1) n e t u SP) (S : St a s L) (S2 : St a2 s L) (hL : L ≤ 8) (hs : Lt s 0 L) (lo hh : Int32) :
    (∃ v e2 t2 u2 SP2, lo ≤ v ∧ v ≤ hh ∧ Tk (bt tp.1) n e2 t2 u2 SP2 ∧ Af e e2 t2 ∧ EX4_takeNamed [.ref 3, .ref a, .int lo, .int hh] (CH mz tp (tC n t) (ra, rp, nb, cc, cp) hi sc pl dr wa wb rc) = some (true, (CH mz tp (tC n t2) (ra, rp, v, cc, cp) hi sc pl dr wa wb rc)) ∧ EX12_readPart [.ref 0, .ref a2, .int lo, .int hh] (MM o (th, mtr, wh, ta, mfa, mo, sd, ac, mk) (mU mq n u wr rm rs) (mAq ma SP) re) = some (v, (MM o (th, mtr, wh, ta, mfa, mo, sd, ac, mk) (mU mq n u2 wr rm rs) (mAq ma SP2) re))) ∨
    (∃ f w nb2 t2 u2 SP2, 0 < f ∧ u2.2.1 = 5 ∧ EX4_takeNamed [.ref 3, .ref a, .int lo, .int hh] (CH mz tp (tC n t) (ra, rp, nb, cc, cp) hi sc pl dr wa wb rc) = some (false, (CH mz tp (tC n t2) (f, w, nb2, cc, cp) hi sc pl dr wa wb rc)) ∧ EX12_readPart [.ref 0, .ref a2, .int lo, .int hh] (MM o (th, mtr, wh, ta, mfa, mo, sd, ac, mk) (mU mq n u wr rm rs) (mAq ma SP) re) = some (lo, (MM o (th, mtr, wh, ta, f, mo, sd, ac, mk) (mU mq n u2 w rm rs) (mAq ma SP2) re))) := by
  rcases t_word (mz := mz) (ra := ra) (rp := rp) (nb := nb) (cc := cc) (cp := cp) (hi := hi) (sc := sc) (pl := pl) (dr := dr) (wa := wa) (wb := wb) (rc := rc) (o := o) (th := th) (mtr := mtr) (wh := wh) (ta := ta) (mfa := mfa) (mo := mo) (sd := sd) (ac := ac) (mk := mk) (mq := mq) (wr := wr) (rm := rm) (rs := rs) (ma := ma) (re := re) H T S S2 hL hs with ⟨e2, t2, u2, SP2, T2, A2, g1, g2⟩ | ⟨g1, g2⟩
  · rcases t_whole (mz := mz) (ra := ra) (rp := rp) (nb := nb) (cc := cc) (cp := cp) (hi := hi) (sc := sc) (pl := pl) (dr := dr) (wa := wa) (wb := wb) (rc := rc) (o := o) (th := th) (mtr := mtr) (wh := wh) (ta := ta) (mfa := mfa) (mo := mo) (sd := sd) (ac := ac) (mk := mk) (mq := mq) (wr := wr) (rm := rm) (rs := rs) (ma := ma) (re := re) H T2 lo hh with ⟨v, e3, t3, u3, SP3, h1, h2, T3, A3, k1, k2, _⟩ | ⟨f, nb2, hf, k1, k2, _⟩
    · refine Or.inl ⟨v, e3, t3, u3, SP3, h1, h2, T3, ⟨by have := A2.1; have := A3.1; omega, fun h => by have := A3.2 h; have := A2.1; omega⟩, ?_, ?_⟩
      · rw [eX4_takeNamed_s, qX4_takeNamed_0, qX4_takeNamed_2 (h := g1), if_b2i, if_pos rfl, qX4_takeNamed_11 (h := k1), if_b2i, if_pos rfl]
      · rw [eX12_readPart_s_m, qX12_readPart_0_m, qX12_readPart_2_m (h := g2), qX12_readPart_8_m (h := k2)]
    · refine Or.inr ⟨f, t2.2.2.1, nb2, t2, ov u2, SP2, hf, rfl, ?_, ?_⟩
      · rw [eX4_takeNamed_s, qX4_takeNamed_0, qX4_takeNamed_2 (h := g1), if_b2i, if_pos rfl, qX4_takeNamed_11 (h := k1), if_b2i, if_neg (by decide)]
      · rw [eX12_readPart_s_m, qX12_readPart_0_m, qX12_readPart_2_m (h := g2), qX12_readPart_8_m (h := k2)]
  · refine Or.inr ⟨1, t.2.2.1, nb, t, ov u, SP, by decide, rfl, ?_, ?_⟩
    · rw [eX4_takeNamed_s, qX4_takeNamed_0, qX4_takeNamed_2 (h := g1), if_b2i, if_neg (by decide)]
    · rw [eX12_readPart_s_m, qX12_readPart_0_m, qX12_readPart_2_m (h := g2), qX12_readPart_8_m (h := o_whole rfl lo hh)]
theorem o_cell (h : u.2.1 = 5) : ∃ v, EX12_readCell [.ref 0] (MM o (th, mtr, wh, ta, mfa, mo, sd, ac, mk) (mU mq n u wr rm rs) (mAq ma SP) re) = some (v, (MM o (th, mtr, wh, ta, mfa, mo, sd, ac, mk) (mU mq n u wr rm rs) (mAq ma SP) re)) := by
  refine ⟨re.1.1 * 0 + 0, ?_⟩
  rw [eX12_readCell_s_m, qX12_readCell_0_m, qX12_readCell_11_m (h := o_whole h 0 _), qX12_readCell_18_m (h := o_needsSign h 44), qX12_readCell_32_m (h := o_whole h 0 _)]
/-- a cell: both read its x, a comma, its y -/
theorem t_cell (H : Ctx tp ma m n) (T : Tk (bt tp.1) n e t u SP) (hw : dr.1.2.1 = re.1.1) (hh : dr.1.2.2.1 = re.1.2.1) :
    (∃ x y p e2 t2 u2 SP2, 0 ≤ x ∧ x ≤ re.1.1 - 1 ∧ 0 ≤ y ∧ y ≤ re.1.2.1 - 1 ∧ Tk (bt tp.1) n e2 t2 u2 SP2 ∧ Af e e2 t2 ∧ EX4_takeCell [.ref 3, .ref 30] (CH mz tp (tC n t) (ra, rp, nb, cc, cp) hi sc pl dr wa wb rc) = some (true, (CH mz tp (tC n t2) (ra, rp, y, re.1.1 * y + x, p) hi sc pl dr wa wb rc)) ∧ EX12_readCell [.ref 0] (MM o (th, mtr, wh, ta, mfa, mo, sd, ac, mk) (mU mq n u wr rm rs) (mAq ma SP) re) = some (re.1.1 * y + x, (MM o (th, mtr, wh, ta, mfa, mo, sd, ac, mk) (mU mq n u2 wr rm rs) (mAq ma SP2) re))) ∨
    (∃ f w nb2 cc2 cp2 t2 u2 SP2, 0 < f ∧ u2.2.1 = 5 ∧ EX4_takeCell [.ref 3, .ref 30] (CH mz tp (tC n t) (ra, rp, nb, cc, cp) hi sc pl dr wa wb rc) = some (false, (CH mz tp (tC n t2) (f, w, nb2, cc2, cp2) hi sc pl dr wa wb rc)) ∧ ∃ v, EX12_readCell [.ref 0] (MM o (th, mtr, wh, ta, mfa, mo, sd, ac, mk) (mU mq n u wr rm rs) (mAq ma SP) re) = some (v, (MM o (th, mtr, wh, ta, f, mo, sd, ac, mk) (mU mq n u2 w rm rs) (mAq ma SP2) re))) := by
  rcases t_whole (mz := mz) (ra := ra) (rp := rp) (nb := nb) (cc := cc) (cp := cp) (hi := hi) (sc := sc) (pl := pl) (dr := dr) (wa := wa) (wb := wb) (rc := rc) (o := o) (th := th) (mtr := mtr) (wh := wh) (ta := ta) (mfa := mfa) (mo := mo) (sd := sd) (ac := ac) (mk := mk) (mq := mq) (wr := wr) (rm := rm) (rs := rs) (ma := ma) (re := re) H T 0 (re.1.1 - 1) with ⟨x, e2, t2, u2, SP2, h1, h2, T2, A2, k1, k2, _⟩ | ⟨f, nb2, hf, k1, k2, _⟩
  · rcases t_sign (mz := mz) (ra := ra) (rp := rp) (nb := x) (cc := cc) (cp := cp) (hi := hi) (sc := sc) (pl := pl) (dr := dr) (wa := wa) (wb := wb) (rc := rc) (o := o) (th := th) (mtr := mtr) (wh := wh) (ta := ta) (mfa := mfa) (mo := mo) (sd := sd) (ac := ac) (mk := mk) (mq := mq) (wr := wr) (rm := rm) (rs := rs) (ma := ma) (re := re) H T2 44 with ⟨_, e3, t3, u3, SP3, T3, A3, j1, j2, _⟩ | ⟨j1, j2, _⟩
    · rcases t_whole (mz := mz) (ra := ra) (rp := rp) (nb := x) (cc := cc) (cp := t3.2.2.1) (hi := hi) (sc := sc) (pl := pl) (dr := dr) (wa := wa) (wb := wb) (rc := rc) (o := o) (th := th) (mtr := mtr) (wh := wh) (ta := ta) (mfa := mfa) (mo := mo) (sd := sd) (ac := ac) (mk := mk) (mq := mq) (wr := wr) (rm := rm) (rs := rs) (ma := ma) (re := re) H T3 0 (re.1.2.1 - 1) with ⟨y, e4, t4, u4, SP4, h3, h4, T4, A4, i1, i2, _⟩ | ⟨f, nb2, hf, i1, i2, _⟩
      · refine Or.inl ⟨x, y, t3.2.2.1, e4, t4, u4, SP4, h1, h2, h3, h4, T4, ⟨by have := A2.1; have := A3.1; have := A4.1; omega, fun h => by have := A4.2 h; have := A2.1; have := A3.1; omega⟩, ?_, ?_⟩
        · rw [eX4_takeCell_s, qX4_takeCell_0, hw, qX4_takeCell_8 (h := k1), if_b2i, if_pos rfl, qX4_takeCell_24 (h := j1), if_b2i, if_pos rfl, hh, qX4_takeCell_51 (h := i1), if_b2i, if_pos rfl, hw]
        · rw [eX12_readCell_s_m, qX12_readCell_0_m, qX12_readCell_11_m (h := k2), qX12_readCell_18_m (h := j2), qX12_readCell_32_m (h := i2)]
      · refine Or.inr ⟨f, t3.2.2.1, nb2, cc, t3.2.2.1, t3, ov u3, SP3, hf, rfl, ?_, re.1.1 * 0 + x, ?_⟩
        · rw [eX4_takeCell_s, qX4_takeCell_0, hw, qX4_takeCell_8 (h := k1), if_b2i, if_pos rfl, qX4_takeCell_24 (h := j1), if_b2i, if_pos rfl, hh, qX4_takeCell_51 (h := i1), if_b2i, if_neg (by decide)]
        · rw [eX12_readCell_s_m, qX12_readCell_0_m, qX12_readCell_11_m (h := k2), qX12_readCell_18_m (h := j2), qX12_readCell_32_m (h := i2)]
    · refine Or.inr ⟨1, t2.2.2.1, x, cc, cp, t2, ov u2, SP2, by decide, rfl, ?_, re.1.1 * 0 + x, ?_⟩
      · rw [eX4_takeCell_s, qX4_takeCell_0, hw, qX4_takeCell_8 (h := k1), if_b2i, if_pos rfl, qX4_takeCell_24 (h := j1), if_b2i, if_neg (by decide)]
      · rw [eX12_readCell_s_m, qX12_readCell_0_m, qX12_readCell_11_m (h := k2), qX12_readCell_18_m (h := j2), qX12_readCell_32_m (h := o_whole rfl 0 _)]
  · refine Or.inr ⟨f, t.2.2.1, nb2, cc, cp, t, ov u, SP, hf, rfl, ?_, re.1.1 * 0 + 0, ?_⟩
    · rw [eX4_takeCell_s, qX4_takeCell_0, hw, qX4_takeCell_8 (h := k1), if_b2i, if_neg (by decide)]
    · rw [eX12_readCell_s_m, qX12_readCell_0_m, qX12_readCell_11_m (h := k2), qX12_readCell_18_m (h := o_needsSign rfl 44), qX12_readCell_32_m (h := o_whole rfl 0 _)]
end
