/-! A line, for both. -/
section
variable {mz : MzS} {tp : TpS} {ra rp nb cc cp : Int32} {hi : HiS} {sc : ScS} {pl dr : PlS} {wa wb : WaS} {rc : Nat → Int32} {o : Option MeS} {th mtr wh ta mfa : Int32} {mo : Int64} {sd ac mk : Int32} {mq : MsS} {wr : Int32} {rm rs : Int64} {ma : MaS} {SP : Nat → Int32} {re : MeS} {m n e : Nat} {t : TT} {u : UU}
theorem l_line (H : Ctx tp ma m n) (T : Tk (bt tp.1) n e t u SP) (D : D0 dr re ∨ D1 dr re) : LOut tp n e (fun t_ a_ b_ c_ d_ e_ dr_ => CH mz tp (tC n t_) (a_, b_, c_, d_, e_) hi sc pl dr_ wa wb rc) (fun f_ u_ w_ rm_ rs_ SP_ re_ => MM o (th, mtr, wh, ta, f_, mo, sd, ac, mk) (mU mq n u_ w_ rm_ rs_) (mAq ma SP_) re_) ra rp mfa wr re (EX4_readLine [.ref 3, .ref 29] (CH mz tp (tC n t) (ra, rp, nb, cc, cp) hi sc pl dr wa wb rc)) (EX12_readLine [.ref 0] (MM o (th, mtr, wh, ta, mfa, mo, sd, ac, mk) (mU mq n u wr rm rs) (mAq ma SP) re)) := by
  rcases t_sort (mz := mz) (ra := ra) (rp := rp) (nb := nb) (cc := cc) (cp := cp) (hi := hi) (sc := sc) (pl := pl) (dr := dr) (wa := wa) (wb := wb) (rc := rc) T with ⟨i, i1, i2, i3, i4⟩ | ⟨i1, i2⟩
  · rcases (by omega : i = 0 ∨ i = 1 ∨ i = 2 ∨ i = 3 ∨ i = 4 ∨ i = 5 ∨ i = 6 ∨ i = 7) with rfl | rfl | rfl | rfl | rfl | rfl | rfl | rfl
    · rcases D with D | D
      · refine LOut.map (Nat.le_refl _) (l_meadow (mz := mz) (ra := ra) (rp := rp) (nb := nb) (cc := cc) (cp := cp) (hi := hi) (sc := sc) (pl := pl) (dr := dr) (wa := wa) (wb := wb) (rc := rc) (o := o) (th := th) (mtr := mtr) (wh := wh) (ta := ta) (mfa := mfa) (mo := mo) (sd := sd) (ac := ac) (mk := mk) (mq := mq) (wr := wr) (rm := rm) (rs := rs) (ma := ma) (re := re) H T i2.1 D) (fun r t' a b x y z d h => ?_) (fun f u' w a b S r h => ?_)
        · rw [eX4_readLine_s, qX4_readLine_0, qX4_readLine_6 (h := i4), if_neg (by decide), if_pos (by decide), qX4_readLine_26 (h := c_laid0 D), if_b2i, if_neg (by decide), qX4_readLine_42 (h := h), zb_b]
        · rw [m_line0 T i2 i3, qX12_readLine_10_n (h := h), qX12_readLine_133_n]
      · refine Or.inr ⟨3, t.2.2.1, nb, cc, cp, t, ov u, SP, dr, rm, rs, by decide, rfl, ?_, ?_⟩
        · rw [eX4_readLine_s, qX4_readLine_0, qX4_readLine_6 (h := i4), if_neg (by decide), if_pos (by decide), qX4_readLine_26 (h := c_laid D), if_b2i, if_pos rfl]
        · have h0 : ¬ re.1.1 ≤ 0 := by
            obtain ⟨w, h, du, pa, sh, gc, hc, wc, ro, wn, mn, ⟨W, G, N, _⟩, _⟩ := D
            rw [N.1.1]; exact nI_nle (by have := W.1; omega) (by have := W.2.1; omega)
          rw [← T.pc, m_line0 T i2 i3, qX12_readLine_10_n (h := o_meadow T.over h0), qX12_readLine_133_n]
    · rcases D with D | D
      · have hz := congrArg (·.1) D.2.2.2.2.2
        dsimp only at hz
        refine Or.inr ⟨6, t.2.2.1, nb, cc, cp, t, ov u, SP, dr, 0, 0, by decide, rfl, c_line0 D (by omega) i1 i4, ?_⟩
        have hb := t_begL (o := o) (th := th) (mtr := mtr) (wh := wh) (ta := ta) (mfa := mfa) (mo := mo) (sd := sd) (ac := ac) (mk := mk) (mq := mq) (wr := wr) (rm := rm) (rs := rs) (ma := ma) (re := re) (SP := SP) (n := n) (u := u) T.over (a := re.1.2.2.2.2.2.1) (b := -1) (by rw [hz]; decide) D.2.1
        have hx : EX12_readRow [.ref 0] (MM o (th, mtr, wh, ta, mfa, mo, sd, ac, mk) (mU mq n u wr rm rs) (mAq ma SP) re) = some (MM o (th, mtr, wh, ta, 6, mo, sd, ac, mk) (mU mq n (ov u) u.2.2.1 0 0) (mAq ma SP) re) := by
          rw [eX12_readRow_s_m, qX12_readRow_0_m, if_pos D.2.1, qX12_readRow_29_m (h := hb), o_row rfl _ _]
        rw [← T.pc, m_line1 T i2 i3, qX12_readLine_26_n (h := hx), qX12_readLine_133_n]
      · have hcnt : (dr.1.2.2.1 ≤ dr.2.1.1.2.2) ↔ re.1.2.2.2.2.2.1 = re.1.2.1 := by
          obtain ⟨w, h, du, pa, sh, gc, hc, wc, ro, wn, mn, ⟨W, G, N, P, GA, NO, HE, WK⟩, X0, X1, X2, X3, X4⟩ := D
          rw [G.2.1, N.1.2, X1.2.1, X1.2.2, nI_leI (by have := W.2.2.2; omega) (by have := X1.1; have := W.2.2.2; omega), nI_eq (by have := X1.1; have := W.2.2.2; omega) (by have := W.2.2.2; omega)]
          have := X1.1
          omega
        by_cases hr : dr.1.2.2.1 ≤ dr.2.1.1.2.2
        · refine Or.inr ⟨5, t.2.2.1, nb, cc, cp, t, ov u, SP, dr, 0, 0, by decide, rfl, c_lineF1 D hr i4, ?_⟩
          have hb := t_begF (o := o) (th := th) (mtr := mtr) (wh := wh) (ta := ta) (mfa := mfa) (mo := mo) (sd := sd) (ac := ac) (mk := mk) (mq := mq) (wr := wr) (rm := rm) (rs := rs) (ma := ma) (re := re) (SP := SP) (n := n) (u := u) T.over re.1.2.1
          have hb2 : EX12_begins [.ref 0, .int re.1.2.2.2.2.2.1, .int re.1.2.1] (MM o (th, mtr, wh, ta, mfa, mo, sd, ac, mk) (mU mq n u wr rm rs) (mAq ma SP) re) = some (MM o (th, mtr, wh, ta, 5, mo, sd, ac, mk) (mU mq n (ov u) u.2.2.1 rm rs) (mAq ma SP) re) := by
            rw [hcnt.mp hr]; exact hb
          have hx : EX12_readRow [.ref 0] (MM o (th, mtr, wh, ta, mfa, mo, sd, ac, mk) (mU mq n u wr rm rs) (mAq ma SP) re) = some (MM o (th, mtr, wh, ta, 5, mo, sd, ac, mk) (mU mq n (ov u) u.2.2.1 0 0) (mAq ma SP) re) := by
            rw [eX12_readRow_s_m, qX12_readRow_0_m, if_neg D.w.2.2.1, qX12_readRow_29_m (h := hb2), o_row rfl _ _]
          rw [← T.pc, m_line1 T i2 i3, qX12_readLine_26_n (h := hx), qX12_readLine_133_n]
        · skip
          obtain ⟨e2, t2, u2, SP2, T2, A2, g1, g2⟩ := t_go (mz := mz) (ra := ra) (rp := rp) (nb := nb) (cc := cc) (cp := cp) (hi := hi) (sc := sc) (pl := pl) (dr := dr) (wa := wa) (wb := wb) (rc := rc) (o := o) (th := th) (mtr := mtr) (wh := wh) (ta := ta) (mfa := mfa) (mo := mo) (sd := sd) (ac := ac) (mk := mk) (mq := mq) (wr := wr) (rm := rm) (rs := rs) (ma := ma) (re := re) (SP := SP) H T.e.2 T.e.1 (T.sp (Or.inl i2.1)) T.over
          have hb := t_begY (o := o) (th := th) (mtr := mtr) (wh := wh) (ta := ta) (mfa := mfa) (mo := mo) (sd := sd) (ac := ac) (mk := mk) (mq := mq) (wr := wr) (rm := rm) (rs := rs) (ma := ma) (re := re) (SP := SP) (n := n) (u := u) (a := re.1.2.2.2.2.2.1) (b := re.1.2.1) (fun h => hr (hcnt.mpr h)) D.w.2.2.1 g2
          refine LOut.map A2.1 (l_row_r (mz := mz) (ra := ra) (rp := rp) (nb := nb) (cc := cc) (cp := cp) (hi := hi) (sc := sc) (pl := pl) (dr := dr) (wa := wa) (wb := wb) (rc := rc) (o := o) (th := th) (mtr := mtr) (wh := wh) (ta := ta) (mfa := mfa) (mo := mo) (sd := sd) (ac := ac) (mk := mk) (mq := mq) (wr := wr) (rm := rm) (rs := rs) (ma := ma) (re := re) H T2 D hr) (fun r t' a b x y z d h => ?_) (fun f u' w a b S r h => ?_)
          · rw [c_lineY1 D hr i4 g1, qX4_readLine_151 (h := h), zb_b]
          · have hx : EX12_readRow [.ref 0] (MM o (th, mtr, wh, ta, mfa, mo, sd, ac, mk) (mU mq n u wr rm rs) (mAq ma SP) re) = some (MM o (th, mtr, wh, ta, f, mo, sd, ac, mk) (mU mq n u' w a b) (mAq ma S) r) := by
              rw [eX12_readRow_s_m, qX12_readRow_0_m, if_neg D.w.2.2.1, qX12_readRow_29_m (h := hb)]
              exact h
            rw [m_line1 T i2 i3, qX12_readLine_26_n (h := hx), qX12_readLine_133_n]
    · rcases D with D | D
      · have hz := congrArg (·.2.1) D.2.2.2.2.2
        dsimp only at hz
        refine Or.inr ⟨6, t.2.2.1, nb, cc, cp, t, ov u, SP, dr, 0, 0, by decide, rfl, c_line0 D (by omega) i1 i4, ?_⟩
        have hb := t_begL (o := o) (th := th) (mtr := mtr) (wh := wh) (ta := ta) (mfa := mfa) (mo := mo) (sd := sd) (ac := ac) (mk := mk) (mq := mq) (wr := wr) (rm := rm) (rs := rs) (ma := ma) (re := re) (SP := SP) (n := n) (u := u) T.over (a := re.1.2.2.2.2.2.2.1) (b := -1) (by rw [hz]; decide) D.2.1
        have hx : EX12_readWant [.ref 0] (MM o (th, mtr, wh, ta, mfa, mo, sd, ac, mk) (mU mq n u wr rm rs) (mAq ma SP) re) = some (MM o (th, mtr, wh, ta, 6, mo, sd, ac, mk) (mU mq n (ov u) u.2.2.1 0 0) (mAq ma SP) re) := by
          rw [eX12_readWant_s_m, qX12_readWant_0_m, if_pos D.2.1, qX12_readWant_29_m (h := hb), o_want rfl _ _]
        rw [← T.pc, m_line2 T i2 i3, qX12_readLine_42_n (h := hx), qX12_readLine_133_n]
      · have hcnt : (dr.1.2.2.1 ≤ dr.2.1.2.1.2.2) ↔ re.1.2.2.2.2.2.2.1 = re.1.2.1 := by
          obtain ⟨w, h, du, pa, sh, gc, hc, wc, ro, wn, mn, ⟨W, G, N, P, GA, NO, HE, WK⟩, X0, X1, X2, X3, X4⟩ := D
          rw [G.2.1, N.1.2, X2.2.1, X2.2.2, nI_leI (by have := W.2.2.2; omega) (by have := X2.1; have := W.2.2.2; omega), nI_eq (by have := X2.1; have := W.2.2.2; omega) (by have := W.2.2.2; omega)]
          have := X2.1
          omega
        by_cases hr : dr.1.2.2.1 ≤ dr.2.1.2.1.2.2
        · refine Or.inr ⟨5, t.2.2.1, nb, cc, cp, t, ov u, SP, dr, 0, 0, by decide, rfl, c_lineF2 D hr i4, ?_⟩
          have hb := t_begF (o := o) (th := th) (mtr := mtr) (wh := wh) (ta := ta) (mfa := mfa) (mo := mo) (sd := sd) (ac := ac) (mk := mk) (mq := mq) (wr := wr) (rm := rm) (rs := rs) (ma := ma) (re := re) (SP := SP) (n := n) (u := u) T.over re.1.2.1
          have hb2 : EX12_begins [.ref 0, .int re.1.2.2.2.2.2.2.1, .int re.1.2.1] (MM o (th, mtr, wh, ta, mfa, mo, sd, ac, mk) (mU mq n u wr rm rs) (mAq ma SP) re) = some (MM o (th, mtr, wh, ta, 5, mo, sd, ac, mk) (mU mq n (ov u) u.2.2.1 rm rs) (mAq ma SP) re) := by
            rw [hcnt.mp hr]; exact hb
          have hx : EX12_readWant [.ref 0] (MM o (th, mtr, wh, ta, mfa, mo, sd, ac, mk) (mU mq n u wr rm rs) (mAq ma SP) re) = some (MM o (th, mtr, wh, ta, 5, mo, sd, ac, mk) (mU mq n (ov u) u.2.2.1 0 0) (mAq ma SP) re) := by
            rw [eX12_readWant_s_m, qX12_readWant_0_m, if_neg D.w.2.2.1, qX12_readWant_29_m (h := hb2), o_want rfl _ _]
          rw [← T.pc, m_line2 T i2 i3, qX12_readLine_42_n (h := hx), qX12_readLine_133_n]
        · skip
          obtain ⟨e2, t2, u2, SP2, T2, A2, g1, g2⟩ := t_go (mz := mz) (ra := ra) (rp := rp) (nb := nb) (cc := cc) (cp := cp) (hi := hi) (sc := sc) (pl := pl) (dr := dr) (wa := wa) (wb := wb) (rc := rc) (o := o) (th := th) (mtr := mtr) (wh := wh) (ta := ta) (mfa := mfa) (mo := mo) (sd := sd) (ac := ac) (mk := mk) (mq := mq) (wr := wr) (rm := rm) (rs := rs) (ma := ma) (re := re) (SP := SP) H T.e.2 T.e.1 (T.sp (Or.inl i2.1)) T.over
          have hb := t_begY (o := o) (th := th) (mtr := mtr) (wh := wh) (ta := ta) (mfa := mfa) (mo := mo) (sd := sd) (ac := ac) (mk := mk) (mq := mq) (wr := wr) (rm := rm) (rs := rs) (ma := ma) (re := re) (SP := SP) (n := n) (u := u) (a := re.1.2.2.2.2.2.2.1) (b := re.1.2.1) (fun h => hr (hcnt.mpr h)) D.w.2.2.1 g2
          refine LOut.map A2.1 (l_row_w (mz := mz) (ra := ra) (rp := rp) (nb := nb) (cc := cc) (cp := cp) (hi := hi) (sc := sc) (pl := pl) (dr := dr) (wa := wa) (wb := wb) (rc := rc) (o := o) (th := th) (mtr := mtr) (wh := wh) (ta := ta) (mfa := mfa) (mo := mo) (sd := sd) (ac := ac) (mk := mk) (mq := mq) (wr := wr) (rm := rm) (rs := rs) (ma := ma) (re := re) H T2 D hr) (fun r t' a b x y z d h => ?_) (fun f u' w a b S r h => ?_)
          · rw [c_lineY2 D hr i4 g1, qX4_readLine_162 (h := h), zb_b]
          · have hx : EX12_readWant [.ref 0] (MM o (th, mtr, wh, ta, mfa, mo, sd, ac, mk) (mU mq n u wr rm rs) (mAq ma SP) re) = some (MM o (th, mtr, wh, ta, f, mo, sd, ac, mk) (mU mq n u' w a b) (mAq ma S) r) := by
              rw [eX12_readWant_s_m, qX12_readWant_0_m, if_neg D.w.2.2.1, qX12_readWant_29_m (h := hb)]
              exact h
            rw [m_line2 T i2 i3, qX12_readLine_42_n (h := hx), qX12_readLine_133_n]
    · rcases D with D | D
      · have hz := congrArg (·.2.2.1) D.2.2.2.2.2
        dsimp only at hz
        refine Or.inr ⟨6, t.2.2.1, nb, cc, cp, t, ov u, SP, dr, 0, 0, by decide, rfl, c_line0 D (by omega) i1 i4, ?_⟩
        have hb := t_begL (o := o) (th := th) (mtr := mtr) (wh := wh) (ta := ta) (mfa := mfa) (mo := mo) (sd := sd) (ac := ac) (mk := mk) (mq := mq) (wr := wr) (rm := rm) (rs := rs) (ma := ma) (re := re) (SP := SP) (n := n) (u := u) T.over (a := re.1.2.2.2.2.2.2.2.1) (b := -1) (by rw [hz]; decide) D.2.1
        have hx : EX12_readMoon [.ref 0] (MM o (th, mtr, wh, ta, mfa, mo, sd, ac, mk) (mU mq n u wr rm rs) (mAq ma SP) re) = some (MM o (th, mtr, wh, ta, 6, mo, sd, ac, mk) (mU mq n (ov u) u.2.2.1 0 0) (mAq ma SP) re) := by
          rw [eX12_readMoon_s_m, qX12_readMoon_0_m, if_pos D.2.1, qX12_readMoon_29_m (h := hb), o_moon rfl _ _]
        rw [← T.pc, m_line3 T i2 i3, qX12_readLine_58_n (h := hx), qX12_readLine_133_n]
      · have hcnt : (dr.1.2.2.1 ≤ dr.2.1.2.2.2.2) ↔ re.1.2.2.2.2.2.2.2.1 = re.1.2.1 := by
          obtain ⟨w, h, du, pa, sh, gc, hc, wc, ro, wn, mn, ⟨W, G, N, P, GA, NO, HE, WK⟩, X0, X1, X2, X3, X4⟩ := D
          rw [G.2.1, N.1.2, X3.2.1, X3.2.2, nI_leI (by have := W.2.2.2; omega) (by have := X3.1; have := W.2.2.2; omega), nI_eq (by have := X3.1; have := W.2.2.2; omega) (by have := W.2.2.2; omega)]
          have := X3.1
          omega
        by_cases hr : dr.1.2.2.1 ≤ dr.2.1.2.2.2.2
        · refine Or.inr ⟨5, t.2.2.1, nb, cc, cp, t, ov u, SP, dr, 0, 0, by decide, rfl, c_lineF3 D hr i4, ?_⟩
          have hb := t_begF (o := o) (th := th) (mtr := mtr) (wh := wh) (ta := ta) (mfa := mfa) (mo := mo) (sd := sd) (ac := ac) (mk := mk) (mq := mq) (wr := wr) (rm := rm) (rs := rs) (ma := ma) (re := re) (SP := SP) (n := n) (u := u) T.over re.1.2.1
          have hb2 : EX12_begins [.ref 0, .int re.1.2.2.2.2.2.2.2.1, .int re.1.2.1] (MM o (th, mtr, wh, ta, mfa, mo, sd, ac, mk) (mU mq n u wr rm rs) (mAq ma SP) re) = some (MM o (th, mtr, wh, ta, 5, mo, sd, ac, mk) (mU mq n (ov u) u.2.2.1 rm rs) (mAq ma SP) re) := by
            rw [hcnt.mp hr]; exact hb
          have hx : EX12_readMoon [.ref 0] (MM o (th, mtr, wh, ta, mfa, mo, sd, ac, mk) (mU mq n u wr rm rs) (mAq ma SP) re) = some (MM o (th, mtr, wh, ta, 5, mo, sd, ac, mk) (mU mq n (ov u) u.2.2.1 0 0) (mAq ma SP) re) := by
            rw [eX12_readMoon_s_m, qX12_readMoon_0_m, if_neg D.w.2.2.1, qX12_readMoon_29_m (h := hb2), o_moon rfl _ _]
          rw [← T.pc, m_line3 T i2 i3, qX12_readLine_58_n (h := hx), qX12_readLine_133_n]
        · skip
          obtain ⟨e2, t2, u2, SP2, T2, A2, g1, g2⟩ := t_go (mz := mz) (ra := ra) (rp := rp) (nb := nb) (cc := cc) (cp := cp) (hi := hi) (sc := sc) (pl := pl) (dr := dr) (wa := wa) (wb := wb) (rc := rc) (o := o) (th := th) (mtr := mtr) (wh := wh) (ta := ta) (mfa := mfa) (mo := mo) (sd := sd) (ac := ac) (mk := mk) (mq := mq) (wr := wr) (rm := rm) (rs := rs) (ma := ma) (re := re) (SP := SP) H T.e.2 T.e.1 (T.sp (Or.inl i2.1)) T.over
          have hb := t_begY (o := o) (th := th) (mtr := mtr) (wh := wh) (ta := ta) (mfa := mfa) (mo := mo) (sd := sd) (ac := ac) (mk := mk) (mq := mq) (wr := wr) (rm := rm) (rs := rs) (ma := ma) (re := re) (SP := SP) (n := n) (u := u) (a := re.1.2.2.2.2.2.2.2.1) (b := re.1.2.1) (fun h => hr (hcnt.mpr h)) D.w.2.2.1 g2
          refine LOut.map A2.1 (l_row_m (mz := mz) (ra := ra) (rp := rp) (nb := nb) (cc := cc) (cp := cp) (hi := hi) (sc := sc) (pl := pl) (dr := dr) (wa := wa) (wb := wb) (rc := rc) (o := o) (th := th) (mtr := mtr) (wh := wh) (ta := ta) (mfa := mfa) (mo := mo) (sd := sd) (ac := ac) (mk := mk) (mq := mq) (wr := wr) (rm := rm) (rs := rs) (ma := ma) (re := re) H T2 D hr) (fun r t' a b x y z d h => ?_) (fun f u' w a b S r h => ?_)
          · rw [c_lineY3 D hr i4 g1, qX4_readLine_173 (h := h), zb_b]
          · have hx : EX12_readMoon [.ref 0] (MM o (th, mtr, wh, ta, mfa, mo, sd, ac, mk) (mU mq n u wr rm rs) (mAq ma SP) re) = some (MM o (th, mtr, wh, ta, f, mo, sd, ac, mk) (mU mq n u' w a b) (mAq ma S) r) := by
              rw [eX12_readMoon_s_m, qX12_readMoon_0_m, if_neg D.w.2.2.1, qX12_readMoon_29_m (h := hb)]
              exact h
            rw [m_line3 T i2 i3, qX12_readLine_58_n (h := hx), qX12_readLine_133_n]
    · rcases D with D | D
      · have hz := congrArg (·.2.2.2.1) D.2.2.2.2.2
        dsimp only at hz
        refine Or.inr ⟨6, t.2.2.1, nb, cc, cp, t, ov u, SP, dr, rm, rs, by decide, rfl, c_line0 D (by omega) i1 i4, ?_⟩
        have hb := t_begL (o := o) (th := th) (mtr := mtr) (wh := wh) (ta := ta) (mfa := mfa) (mo := mo) (sd := sd) (ac := ac) (mk := mk) (mq := mq) (wr := wr) (rm := rm) (rs := rs) (ma := ma) (re := re) (SP := SP) (n := n) (u := u) T.over (a := re.1.2.2.2.2.2.2.2.2.1) (b := 4) (by rw [hz]; decide) D.2.1
        have hx : EX12_readGate [.ref 0] (MM o (th, mtr, wh, ta, mfa, mo, sd, ac, mk) (mU mq n u wr rm rs) (mAq ma SP) re) = some (MM o (th, mtr, wh, ta, 6, mo, sd, ac, mk) (mU mq n (ov u) u.2.2.1 rm rs) (mAq ma SP) re) := by
          rw [eX12_readGate_s_m, qX12_readGate_0_m, qX12_readGate_9_m (h := hb), o_gate rfl _]
        rw [← T.pc, m_line4 T i2 i3, qX12_readLine_74_n (h := hx), qX12_readLine_133_n]
      · have hcnt : ((4 : Int32) ≤ dr.2.2.2.2.2.2.2.1) ↔ re.1.2.2.2.2.2.2.2.2.1 = 4 := by
          obtain ⟨w, h, du, pa, sh, gc, hc, wc, ro, wn, mn, ⟨W, G, N, P, GA, NO, HE, WK⟩, X0, X1, X2, X3, X4⟩ := D
          rw [GA.2.1, GA.2.2.1, show (4 : Int32) = nI 4 from rfl, nI_leI (by omega) (by have := GA.1; omega), nI_eq (by have := GA.1; omega) (by omega)]
          have := GA.1
          omega
        by_cases hr : (4 : Int32) ≤ dr.2.2.2.2.2.2.2.1
        · refine Or.inr ⟨5, t.2.2.1, nb, cc, cp, t, ov u, SP, dr, rm, rs, by decide, rfl, c_lineF4 D hr i4, ?_⟩
          have hb := t_begF (o := o) (th := th) (mtr := mtr) (wh := wh) (ta := ta) (mfa := mfa) (mo := mo) (sd := sd) (ac := ac) (mk := mk) (mq := mq) (wr := wr) (rm := rm) (rs := rs) (ma := ma) (re := re) (SP := SP) (n := n) (u := u) T.over 4
          have hb2 : EX12_begins [.ref 0, .int re.1.2.2.2.2.2.2.2.2.1, .int 4] (MM o (th, mtr, wh, ta, mfa, mo, sd, ac, mk) (mU mq n u wr rm rs) (mAq ma SP) re) = some (MM o (th, mtr, wh, ta, 5, mo, sd, ac, mk) (mU mq n (ov u) u.2.2.1 rm rs) (mAq ma SP) re) := by
            rw [hcnt.mp hr]; exact hb
          have hx : EX12_readGate [.ref 0] (MM o (th, mtr, wh, ta, mfa, mo, sd, ac, mk) (mU mq n u wr rm rs) (mAq ma SP) re) = some (MM o (th, mtr, wh, ta, 5, mo, sd, ac, mk) (mU mq n (ov u) u.2.2.1 rm rs) (mAq ma SP) re) := by
            rw [eX12_readGate_s_m, qX12_readGate_0_m, qX12_readGate_9_m (h := hb2), o_gate rfl _]
          rw [← T.pc, m_line4 T i2 i3, qX12_readLine_74_n (h := hx), qX12_readLine_133_n]
        · skip
          obtain ⟨e2, t2, u2, SP2, T2, A2, g1, g2⟩ := t_go (mz := mz) (ra := ra) (rp := rp) (nb := nb) (cc := cc) (cp := cp) (hi := hi) (sc := sc) (pl := pl) (dr := dr) (wa := wa) (wb := wb) (rc := rc) (o := o) (th := th) (mtr := mtr) (wh := wh) (ta := ta) (mfa := mfa) (mo := mo) (sd := sd) (ac := ac) (mk := mk) (mq := mq) (wr := wr) (rm := rm) (rs := rs) (ma := ma) (re := re) (SP := SP) H T.e.2 T.e.1 (T.sp (Or.inl i2.1)) T.over
          have hb := t_begY (o := o) (th := th) (mtr := mtr) (wh := wh) (ta := ta) (mfa := mfa) (mo := mo) (sd := sd) (ac := ac) (mk := mk) (mq := mq) (wr := wr) (rm := rm) (rs := rs) (ma := ma) (re := re) (SP := SP) (n := n) (u := u) (a := re.1.2.2.2.2.2.2.2.2.1) (b := 4) (fun h => hr (hcnt.mpr h)) D.w.2.2.1 g2
          refine LOut.map A2.1 (l_gate (mz := mz) (ra := ra) (rp := rp) (nb := nb) (cc := cc) (cp := cp) (hi := hi) (sc := sc) (pl := pl) (dr := dr) (wa := wa) (wb := wb) (rc := rc) (o := o) (th := th) (mtr := mtr) (wh := wh) (ta := ta) (mfa := mfa) (mo := mo) (sd := sd) (ac := ac) (mk := mk) (mq := mq) (wr := wr) (rm := rm) (rs := rs) (ma := ma) (re := re) H T2 D hr) (fun r t' a b x y z d h => ?_) (fun f u' w a b S r h => ?_)
          · rw [c_lineY4 D hr i4 g1, qX4_readLine_179 (h := h), zb_b]
          · have hx : EX12_readGate [.ref 0] (MM o (th, mtr, wh, ta, mfa, mo, sd, ac, mk) (mU mq n u wr rm rs) (mAq ma SP) re) = some (MM o (th, mtr, wh, ta, f, mo, sd, ac, mk) (mU mq n u' w a b) (mAq ma S) r) := by
              rw [eX12_readGate_s_m, qX12_readGate_0_m, qX12_readGate_9_m (h := hb)]
              exact h
            rw [m_line4 T i2 i3, qX12_readLine_74_n (h := hx), qX12_readLine_133_n]
    · rcases D with D | D
      · have hz := congrArg (·.2.2.2.2.2.2) D.2.2.2.2.2
        dsimp only at hz
        refine Or.inr ⟨6, t.2.2.1, nb, cc, cp, t, ov u, SP, dr, rm, rs, by decide, rfl, c_line0 D (by omega) i1 i4, ?_⟩
        have hno : re.1.2.2.2.2.2.2.2.2.2.2.2 = (-2) := hz
        have hb := t_begL (o := o) (th := th) (mtr := mtr) (wh := wh) (ta := ta) (mfa := mfa) (mo := mo) (sd := sd) (ac := ac) (mk := mk) (mq := mq) (wr := wr) (rm := rm) (rs := rs) (ma := ma) (re := re) (SP := SP) (n := n) (u := u) T.over (a := 0) (b := 1) (by decide) D.2.1
        have hx : EX12_readNoise [.ref 0] (MM o (th, mtr, wh, ta, mfa, mo, sd, ac, mk) (mU mq n u wr rm rs) (mAq ma SP) re) = some (MM o (th, mtr, wh, ta, 6, mo, sd, ac, mk) (mU mq n (ov u) u.2.2.1 rm rs) (mAq ma SP) re) := by
          rw [eX12_readNoise_s_m, qX12_readNoise_0_m, if_pos hno, qX12_readNoise_17_m, qX12_readNoise_20_m (h := hb), o_noise rfl]
        rw [← T.pc, m_line5 T i2 i3, qX12_readLine_90_n (h := hx), qX12_readLine_133_n]
      · have hNO : dr.2.2.2.2.2.2.2.2.2.1 = re.1.2.2.2.2.2.2.2.2.2.2.2 := by
          obtain ⟨w, h, du, pa, sh, gc, hc, wc, ro, wn, mn, ⟨W, G, N, P, GA, NO, HE, WK⟩, _⟩ := D
          exact NO.1
        by_cases hr : dr.2.2.2.2.2.2.2.2.2.1 = (-2)
        · have hno : re.1.2.2.2.2.2.2.2.2.2.2.2 = (-2) := by rw [← hNO]; exact hr
          obtain ⟨e2, t2, u2, SP2, T2, A2, g1, g2⟩ := t_go (mz := mz) (ra := ra) (rp := rp) (nb := nb) (cc := cc) (cp := cp) (hi := hi) (sc := sc) (pl := pl) (dr := dr) (wa := wa) (wb := wb) (rc := rc) (o := o) (th := th) (mtr := mtr) (wh := wh) (ta := ta) (mfa := mfa) (mo := mo) (sd := sd) (ac := ac) (mk := mk) (mq := mq) (wr := wr) (rm := rm) (rs := rs) (ma := ma) (re := re) (SP := SP) H T.e.2 T.e.1 (T.sp (Or.inl i2.1)) T.over
          have hb := t_begY (o := o) (th := th) (mtr := mtr) (wh := wh) (ta := ta) (mfa := mfa) (mo := mo) (sd := sd) (ac := ac) (mk := mk) (mq := mq) (wr := wr) (rm := rm) (rs := rs) (ma := ma) (re := re) (SP := SP) (n := n) (u := u) (a := 0) (b := 1) (by decide) D.w.2.2.1 g2
          refine LOut.map A2.1 (l_noise (mz := mz) (ra := ra) (rp := rp) (nb := nb) (cc := cc) (cp := cp) (hi := hi) (sc := sc) (pl := pl) (dr := dr) (wa := wa) (wb := wb) (rc := rc) (o := o) (th := th) (mtr := mtr) (wh := wh) (ta := ta) (mfa := mfa) (mo := mo) (sd := sd) (ac := ac) (mk := mk) (mq := mq) (wr := wr) (rm := rm) (rs := rs) (ma := ma) (re := re) H T2 D) (fun r t' a b x y z d h => ?_) (fun f u' w a b S r h => ?_)
          · rw [c_lineY5 D hr i4 g1, qX4_readLine_185 (h := h), zb_b]
          · have hx : EX12_readNoise [.ref 0] (MM o (th, mtr, wh, ta, mfa, mo, sd, ac, mk) (mU mq n u wr rm rs) (mAq ma SP) re) = some (MM o (th, mtr, wh, ta, f, mo, sd, ac, mk) (mU mq n u' w a b) (mAq ma S) r) := by
              rw [eX12_readNoise_s_m, qX12_readNoise_0_m, if_pos hno, qX12_readNoise_17_m, qX12_readNoise_20_m (h := hb)]
              exact h
            rw [m_line5 T i2 i3, qX12_readLine_90_n (h := hx), qX12_readLine_133_n]
        · refine Or.inr ⟨3, t.2.2.1, nb, cc, cp, t, ov u, SP, dr, rm, rs, by decide, rfl, c_lineF5 D hr i4, ?_⟩
          have hx : EX12_readNoise [.ref 0] (MM o (th, mtr, wh, ta, mfa, mo, sd, ac, mk) (mU mq n u wr rm rs) (mAq ma SP) re) = some (MM o (th, mtr, wh, ta, 3, mo, sd, ac, mk) (mU mq n (ov u) u.2.2.1 rm rs) (mAq ma SP) re) := by
            rw [eX12_readNoise_s_m, qX12_readNoise_0_m, if_neg (fun h => hr (hNO.trans h)), qX12_readNoise_14_m (h := t_flaw T.over 3), qX12_readNoise_17_m, qX12_readNoise_20_m (h := o_begins rfl 0 1), o_noise rfl]
          rw [← T.pc, m_line5 T i2 i3, qX12_readLine_90_n (h := hx), qX12_readLine_133_n]
    · rcases D with D | D
      · have hz := congrArg (·.2.2.2.2.1) D.2.2.2.2.2
        dsimp only at hz
        refine Or.inr ⟨6, t.2.2.1, nb, cc, cp, t, ov u, SP, dr, rm, rs, by decide, rfl, c_line0 D (by omega) i1 i4, ?_⟩
        have hb := t_begL (o := o) (th := th) (mtr := mtr) (wh := wh) (ta := ta) (mfa := mfa) (mo := mo) (sd := sd) (ac := ac) (mk := mk) (mq := mq) (wr := wr) (rm := rm) (rs := rs) (ma := ma) (re := re) (SP := SP) (n := n) (u := u) T.over (a := re.1.2.2.2.2.2.2.2.2.2.1) (b := 5) (by rw [hz]; decide) D.2.1
        have hx : EX12_readHeard [.ref 0] (MM o (th, mtr, wh, ta, mfa, mo, sd, ac, mk) (mU mq n u wr rm rs) (mAq ma SP) re) = some (MM o (th, mtr, wh, ta, 6, mo, sd, ac, mk) (mU mq n (ov u) u.2.2.1 rm rs) (mAq ma SP) re) := by
          rw [eX12_readHeard_s_m, qX12_readHeard_0_m, qX12_readHeard_9_m (h := hb), o_heard rfl]
        rw [← T.pc, m_line6 T i2 i3, qX12_readLine_106_n (h := hx), qX12_readLine_133_n]
      · have hcnt : ((5 : Int32) ≤ dr.2.2.2.2.2.2.2.2.2.2.1) ↔ re.1.2.2.2.2.2.2.2.2.2.1 = 5 := by
          obtain ⟨w, h, du, pa, sh, gc, hc, wc, ro, wn, mn, ⟨W, G, N, P, GA, NO, HE, WK⟩, X0, X1, X2, X3, X4⟩ := D
          rw [HE.2.1, HE.2.2.1, show (5 : Int32) = nI 5 from rfl, nI_leI (by omega) (by have := HE.1; omega), nI_eq (by have := HE.1; omega) (by omega)]
          have := HE.1
          omega
        by_cases hr : (5 : Int32) ≤ dr.2.2.2.2.2.2.2.2.2.2.1
        · refine Or.inr ⟨5, t.2.2.1, nb, cc, cp, t, ov u, SP, dr, rm, rs, by decide, rfl, c_lineF6 D hr i4, ?_⟩
          have hb := t_begF (o := o) (th := th) (mtr := mtr) (wh := wh) (ta := ta) (mfa := mfa) (mo := mo) (sd := sd) (ac := ac) (mk := mk) (mq := mq) (wr := wr) (rm := rm) (rs := rs) (ma := ma) (re := re) (SP := SP) (n := n) (u := u) T.over 5
          have hb2 : EX12_begins [.ref 0, .int re.1.2.2.2.2.2.2.2.2.2.1, .int 5] (MM o (th, mtr, wh, ta, mfa, mo, sd, ac, mk) (mU mq n u wr rm rs) (mAq ma SP) re) = some (MM o (th, mtr, wh, ta, 5, mo, sd, ac, mk) (mU mq n (ov u) u.2.2.1 rm rs) (mAq ma SP) re) := by
            rw [hcnt.mp hr]; exact hb
          have hx : EX12_readHeard [.ref 0] (MM o (th, mtr, wh, ta, mfa, mo, sd, ac, mk) (mU mq n u wr rm rs) (mAq ma SP) re) = some (MM o (th, mtr, wh, ta, 5, mo, sd, ac, mk) (mU mq n (ov u) u.2.2.1 rm rs) (mAq ma SP) re) := by
            rw [eX12_readHeard_s_m, qX12_readHeard_0_m, qX12_readHeard_9_m (h := hb2), o_heard rfl]
          rw [← T.pc, m_line6 T i2 i3, qX12_readLine_106_n (h := hx), qX12_readLine_133_n]
        · skip
          obtain ⟨e2, t2, u2, SP2, T2, A2, g1, g2⟩ := t_go (mz := mz) (ra := ra) (rp := rp) (nb := nb) (cc := cc) (cp := cp) (hi := hi) (sc := sc) (pl := pl) (dr := dr) (wa := wa) (wb := wb) (rc := rc) (o := o) (th := th) (mtr := mtr) (wh := wh) (ta := ta) (mfa := mfa) (mo := mo) (sd := sd) (ac := ac) (mk := mk) (mq := mq) (wr := wr) (rm := rm) (rs := rs) (ma := ma) (re := re) (SP := SP) H T.e.2 T.e.1 (T.sp (Or.inl i2.1)) T.over
          have hb := t_begY (o := o) (th := th) (mtr := mtr) (wh := wh) (ta := ta) (mfa := mfa) (mo := mo) (sd := sd) (ac := ac) (mk := mk) (mq := mq) (wr := wr) (rm := rm) (rs := rs) (ma := ma) (re := re) (SP := SP) (n := n) (u := u) (a := re.1.2.2.2.2.2.2.2.2.2.1) (b := 5) (fun h => hr (hcnt.mpr h)) D.w.2.2.1 g2
          refine LOut.map A2.1 (l_heard (mz := mz) (ra := ra) (rp := rp) (nb := nb) (cc := cc) (cp := cp) (hi := hi) (sc := sc) (pl := pl) (dr := dr) (wa := wa) (wb := wb) (rc := rc) (o := o) (th := th) (mtr := mtr) (wh := wh) (ta := ta) (mfa := mfa) (mo := mo) (sd := sd) (ac := ac) (mk := mk) (mq := mq) (wr := wr) (rm := rm) (rs := rs) (ma := ma) (re := re) H T2 D hr) (fun r t' a b x y z d h => ?_) (fun f u' w a b S r h => ?_)
          · rw [c_lineY6 D hr i4 g1, qX4_readLine_191 (h := h), zb_b]
          · have hx : EX12_readHeard [.ref 0] (MM o (th, mtr, wh, ta, mfa, mo, sd, ac, mk) (mU mq n u wr rm rs) (mAq ma SP) re) = some (MM o (th, mtr, wh, ta, f, mo, sd, ac, mk) (mU mq n u' w a b) (mAq ma S) r) := by
              rw [eX12_readHeard_s_m, qX12_readHeard_0_m, qX12_readHeard_9_m (h := hb)]
              exact h
            rw [m_line6 T i2 i3, qX12_readLine_106_n (h := hx), qX12_readLine_133_n]
    · rcases D with D | D
      · have hz := congrArg (·.2.2.2.2.2.1) D.2.2.2.2.2
        dsimp only at hz
        refine Or.inr ⟨6, t.2.2.1, nb, cc, cp, t, ov u, SP, dr, rm, rs, by decide, rfl, c_line0 D (by omega) i1 i4, ?_⟩
        have hb := t_begL (o := o) (th := th) (mtr := mtr) (wh := wh) (ta := ta) (mfa := mfa) (mo := mo) (sd := sd) (ac := ac) (mk := mk) (mq := mq) (wr := wr) (rm := rm) (rs := rs) (ma := ma) (re := re) (SP := SP) (n := n) (u := u) T.over (a := re.1.2.2.2.2.2.2.2.2.2.2.1) (b := 5) (by rw [hz]; decide) D.2.1
        have hx : EX12_readWalker [.ref 0] (MM o (th, mtr, wh, ta, mfa, mo, sd, ac, mk) (mU mq n u wr rm rs) (mAq ma SP) re) = some (MM o (th, mtr, wh, ta, 6, mo, sd, ac, mk) (mU mq n (ov u) u.2.2.1 rm rs) (mAq ma SP) re) := by
          rw [eX12_readWalker_s_m, qX12_readWalker_0_m, qX12_readWalker_9_m (h := hb), o_walker rfl (wc := 0) (by omega) hz]
        rw [← T.pc, m_line7 T i2 i3, qX12_readLine_122_n (h := hx), qX12_readLine_133_n]
      · have hcnt : ((5 : Int32) ≤ dr.2.2.2.2.2.2.2.2.2.2.2) ↔ re.1.2.2.2.2.2.2.2.2.2.2.1 = 5 := by
          obtain ⟨w, h, du, pa, sh, gc, hc, wc, ro, wn, mn, ⟨W, G, N, P, GA, NO, HE, WK⟩, X0, X1, X2, X3, X4⟩ := D
          rw [WK.2.1, WK.2.2.1, show (5 : Int32) = nI 5 from rfl, nI_leI (by omega) (by have := WK.1; omega), nI_eq (by have := WK.1; omega) (by omega)]
          have := WK.1
          omega
        by_cases hr : (5 : Int32) ≤ dr.2.2.2.2.2.2.2.2.2.2.2
        · refine Or.inr ⟨5, t.2.2.1, nb, cc, cp, t, ov u, SP, dr, rm, rs, by decide, rfl, c_lineF7 D hr i4, ?_⟩
          have hb := t_begF (o := o) (th := th) (mtr := mtr) (wh := wh) (ta := ta) (mfa := mfa) (mo := mo) (sd := sd) (ac := ac) (mk := mk) (mq := mq) (wr := wr) (rm := rm) (rs := rs) (ma := ma) (re := re) (SP := SP) (n := n) (u := u) T.over 5
          have hb2 : EX12_begins [.ref 0, .int re.1.2.2.2.2.2.2.2.2.2.2.1, .int 5] (MM o (th, mtr, wh, ta, mfa, mo, sd, ac, mk) (mU mq n u wr rm rs) (mAq ma SP) re) = some (MM o (th, mtr, wh, ta, 5, mo, sd, ac, mk) (mU mq n (ov u) u.2.2.1 rm rs) (mAq ma SP) re) := by
            rw [hcnt.mp hr]; exact hb
          obtain ⟨wc7, w71, w72⟩ : ∃ wc, wc ≤ 5 ∧ re.1.2.2.2.2.2.2.2.2.2.2.1 = nI wc := by
            obtain ⟨w, h, du, pa, sh, gc, hc, wc, ro, wn, mn, ⟨W, G, N, P, GA, NO, HE, WK⟩, _⟩ := D
            exact ⟨wc, WK.1, WK.2.2.1⟩
          have hx : EX12_readWalker [.ref 0] (MM o (th, mtr, wh, ta, mfa, mo, sd, ac, mk) (mU mq n u wr rm rs) (mAq ma SP) re) = some (MM o (th, mtr, wh, ta, 5, mo, sd, ac, mk) (mU mq n (ov u) u.2.2.1 rm rs) (mAq ma SP) re) := by
            rw [eX12_readWalker_s_m, qX12_readWalker_0_m, qX12_readWalker_9_m (h := hb2), o_walker rfl w71 w72]
          rw [← T.pc, m_line7 T i2 i3, qX12_readLine_122_n (h := hx), qX12_readLine_133_n]
        · skip
          obtain ⟨e2, t2, u2, SP2, T2, A2, g1, g2⟩ := t_go (mz := mz) (ra := ra) (rp := rp) (nb := nb) (cc := cc) (cp := cp) (hi := hi) (sc := sc) (pl := pl) (dr := dr) (wa := wa) (wb := wb) (rc := rc) (o := o) (th := th) (mtr := mtr) (wh := wh) (ta := ta) (mfa := mfa) (mo := mo) (sd := sd) (ac := ac) (mk := mk) (mq := mq) (wr := wr) (rm := rm) (rs := rs) (ma := ma) (re := re) (SP := SP) H T.e.2 T.e.1 (T.sp (Or.inl i2.1)) T.over
          have hb := t_begY (o := o) (th := th) (mtr := mtr) (wh := wh) (ta := ta) (mfa := mfa) (mo := mo) (sd := sd) (ac := ac) (mk := mk) (mq := mq) (wr := wr) (rm := rm) (rs := rs) (ma := ma) (re := re) (SP := SP) (n := n) (u := u) (a := re.1.2.2.2.2.2.2.2.2.2.2.1) (b := 5) (fun h => hr (hcnt.mpr h)) D.w.2.2.1 g2
          refine LOut.map A2.1 (l_walker (mz := mz) (ra := ra) (rp := rp) (nb := nb) (cc := cc) (cp := cp) (hi := hi) (sc := sc) (pl := pl) (dr := dr) (wa := wa) (wb := wb) (rc := rc) (o := o) (th := th) (mtr := mtr) (wh := wh) (ta := ta) (mfa := mfa) (mo := mo) (sd := sd) (ac := ac) (mk := mk) (mq := mq) (wr := wr) (rm := rm) (rs := rs) (ma := ma) (re := re) H T2 D hr) (fun r t' a b x y z d h => ?_) (fun f u' w a b S r h => ?_)
          · rw [c_lineY7 D hr i4 g1, qX4_readLine_197 (h := h), zb_b]
          · have hx : EX12_readWalker [.ref 0] (MM o (th, mtr, wh, ta, mfa, mo, sd, ac, mk) (mU mq n u wr rm rs) (mAq ma SP) re) = some (MM o (th, mtr, wh, ta, f, mo, sd, ac, mk) (mU mq n u' w a b) (mAq ma S) r) := by
              rw [eX12_readWalker_s_m, qX12_readWalker_0_m, qX12_readWalker_9_m (h := hb)]
              exact h
            rw [m_line7 T i2 i3, qX12_readLine_122_n (h := hx), qX12_readLine_133_n]
  · refine Or.inr ⟨1, t.2.2.1, nb, cc, cp, t, ov u, SP, dr, rm, rs, by decide, rfl, ?_, m_lineN T i1⟩
    rw [eX4_readLine_s, qX4_readLine_0, qX4_readLine_6 (h := i2), if_pos rfl]
end
