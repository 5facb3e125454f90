/-! The line of a walker. -/
theorem vaS {α : Type} (f : Nat → α) (k : Nat) (v : α) : va_up f k v k = v := if_pos rfl
theorem vaN {α : Type} {f : Nat → α} {k j : Nat} {v : α} (h : j ≠ k) : va_up f k v j = f j := if_neg h
section
variable {mz : MzS} {tp : TpS} {ra rp nb cc cp : Int32} {hi : HiS} {sc : ScS} {pl dr : PlS} {wa wb : WaS} {rc : Nat → Int32} {o : Option MeS} {th mtr wh ta mfa : Int32} {mo : Int64} {sd ac mk : Int32} {mq : MsS} {wr : Int32} {rm rs : Int64} {ma : MaS} {SP : Nat → Int32} {re : MeS} {m n e : Nat} {t : TT} {u : UU}
theorem m_kindY (T : Tk (bt tp.1) n e t u SP) (v1 : Int64) {i : Nat} (hi : i < 5) (hy : t.2.1 = 1 ∧ t.2.2.2.2 = CKd i) (hn : ∀ l, l < i → ¬ (t.2.1 = 1 ∧ t.2.2.2.2 = CKd l)) {u2 : UU} {SP2 : Nat → Int32} (g : EX12_goesOn [.ref 0] (MM o (th, mtr, wh, ta, mfa, mo, sd, ac, mk) (mU mq n u wr rm rs) (mAq ma SP) re) = some (MM o (th, mtr, wh, ta, mfa, mo, sd, ac, mk) (mU mq n u2 wr rm rs) (mAq ma SP2) re)) : BX12_readWalker_86 [(0, .ref 0), (1, .long v1)] [.ref 2027, .ref 0] (MM o (th, mtr, wh, ta, mfa, mo, sd, ac, mk) (mU mq n u wr rm rs) (mAq ma SP) re) = BX12_readWalker_164 [(0, .ref 0), (1, .long v1), (3, .int (nI i))] [] (MM o (th, mtr, wh, ta, mfa, mo, sd, ac, mk) (mU mq n u2 wr rm rs) (mAq ma SP2) re) := by
  rcases (by omega : i = 0 ∨ i = 1 ∨ i = 2 ∨ i = 3 ∨ i = 4) with rfl | rfl | rfl | rfl | rfl
  · rw [qX12_readWalker_86_m (h := t_eatY St_27 (C := CKd 0) rfl T hy g), if_b2i, if_pos rfl, qX12_readWalker_153_m, if_neg (by decide)]
    all_goals rfl
  · rw [qX12_readWalker_86_m (h := t_eatN St_27 (C := CKd 0) rfl T (hn 0 (by omega))), if_b2i, if_neg (by decide), qX12_readWalker_100_m (h := t_eatY St_28 (C := CKd 1) rfl T hy g), if_b2i, if_pos rfl, qX12_readWalker_153_m, if_neg (by decide)]
    all_goals rfl
  · rw [qX12_readWalker_86_m (h := t_eatN St_27 (C := CKd 0) rfl T (hn 0 (by omega))), if_b2i, if_neg (by decide), qX12_readWalker_100_m (h := t_eatN St_28 (C := CKd 1) rfl T (hn 1 (by omega))), if_b2i, if_neg (by decide), qX12_readWalker_114_m (h := t_eatY St_29 (C := CKd 2) rfl T hy g), if_b2i, if_pos rfl, qX12_readWalker_153_m, if_neg (by decide)]
    all_goals rfl
  · rw [qX12_readWalker_86_m (h := t_eatN St_27 (C := CKd 0) rfl T (hn 0 (by omega))), if_b2i, if_neg (by decide), qX12_readWalker_100_m (h := t_eatN St_28 (C := CKd 1) rfl T (hn 1 (by omega))), if_b2i, if_neg (by decide), qX12_readWalker_114_m (h := t_eatN St_29 (C := CKd 2) rfl T (hn 2 (by omega))), if_b2i, if_neg (by decide), qX12_readWalker_128_m (h := t_eatY St_30 (C := CKd 3) rfl T hy g), if_b2i, if_pos rfl, qX12_readWalker_153_m, if_neg (by decide)]
    all_goals rfl
  · rw [qX12_readWalker_86_m (h := t_eatN St_27 (C := CKd 0) rfl T (hn 0 (by omega))), if_b2i, if_neg (by decide), qX12_readWalker_100_m (h := t_eatN St_28 (C := CKd 1) rfl T (hn 1 (by omega))), if_b2i, if_neg (by decide), qX12_readWalker_114_m (h := t_eatN St_29 (C := CKd 2) rfl T (hn 2 (by omega))), if_b2i, if_neg (by decide), qX12_readWalker_128_m (h := t_eatN St_30 (C := CKd 3) rfl T (hn 3 (by omega))), if_b2i, if_neg (by decide), qX12_readWalker_142_m (h := t_eatY St_31 (C := CKd 4) rfl T hy g), if_b2i, if_pos rfl, qX12_readWalker_153_m, if_neg (by decide)]
    all_goals rfl
theorem m_kindN (T : Tk (bt tp.1) n e t u SP) (v1 : Int64) (hn : ∀ l, l < 5 → ¬ (t.2.1 = 1 ∧ t.2.2.2.2 = CKd l)) : BX12_readWalker_86 [(0, .ref 0), (1, .long v1)] [.ref 2027, .ref 0] (MM o (th, mtr, wh, ta, mfa, mo, sd, ac, mk) (mU mq n u wr rm rs) (mAq ma SP) re) = some (MM o (th, mtr, wh, ta, 1, mo, sd, ac, mk) (mU mq n (ov u) t.2.2.1 rm rs) (mAq ma SP) re) := by
  have hfl := t_flaw (o := o) (th := th) (mtr := mtr) (wh := wh) (ta := ta) (mfa := mfa) (mo := mo) (sd := sd) (ac := ac) (mk := mk) (mq := mq) (wr := wr) (rm := rm) (rs := rs) (ma := ma) (re := re) (SP := SP) (n := n) T.over 1
  rw [← T.pc, qX12_readWalker_86_m (h := t_eatN St_27 (C := CKd 0) rfl T (hn 0 (by omega))), if_b2i, if_neg (by decide), qX12_readWalker_100_m (h := t_eatN St_28 (C := CKd 1) rfl T (hn 1 (by omega))), if_b2i, if_neg (by decide), qX12_readWalker_114_m (h := t_eatN St_29 (C := CKd 2) rfl T (hn 2 (by omega))), if_b2i, if_neg (by decide), qX12_readWalker_128_m (h := t_eatN St_30 (C := CKd 3) rfl T (hn 3 (by omega))), if_b2i, if_neg (by decide), qX12_readWalker_142_m (h := t_eatN St_31 (C := CKd 4) rfl T (hn 4 (by omega))), if_b2i, if_neg (by decide), qX12_readWalker_153_m, if_pos rfl, qX12_readWalker_161_m (h := hfl), o_w164 rfl]
theorem m_sideY (T : Tk (bt tp.1) n e t u SP) (v1 : Int64) (v3 v4 : Int32) {i : Nat} (hi : i < 4) (hy : t.2.1 = 1 ∧ t.2.2.2.2 = CSd i) (hn : ∀ l, l < i → ¬ (t.2.1 = 1 ∧ t.2.2.2.2 = CSd l)) {u2 : UU} {SP2 : Nat → Int32} (g : EX12_goesOn [.ref 0] (MM o (th, mtr, wh, ta, mfa, mo, sd, ac, mk) (mU mq n u wr rm rs) (mAq ma SP) re) = some (MM o (th, mtr, wh, ta, mfa, mo, sd, ac, mk) (mU mq n u2 wr rm rs) (mAq ma SP2) re)) : BX12_readWalker_188 [(0, .ref 0), (1, .long v1), (3, .int v3), (4, .int v4)] [.ref 2034, .ref 0] (MM o (th, mtr, wh, ta, mfa, mo, sd, ac, mk) (mU mq n u wr rm rs) (mAq ma SP) re) = BX12_readWalker_254 [(0, .ref 0), (1, .long v1), (3, .int v3), (4, .int v4), (5, .int (nI i))] [] (MM o (th, mtr, wh, ta, mfa, mo, sd, ac, mk) (mU mq n u2 wr rm rs) (mAq ma SP2) re) := by
  rcases (by omega : i = 0 ∨ i = 1 ∨ i = 2 ∨ i = 3) with rfl | rfl | rfl | rfl
  · rw [qX12_readWalker_188_m (h := t_eatY St_34 (C := CSd 0) rfl T hy g), if_b2i, if_pos rfl, qX12_readWalker_241_m, if_neg (by decide)]
    all_goals rfl
  · rw [qX12_readWalker_188_m (h := t_eatN St_34 (C := CSd 0) rfl T (hn 0 (by omega))), if_b2i, if_neg (by decide), qX12_readWalker_202_m (h := t_eatY St_35 (C := CSd 1) rfl T hy g), if_b2i, if_pos rfl, qX12_readWalker_241_m, if_neg (by decide)]
    all_goals rfl
  · rw [qX12_readWalker_188_m (h := t_eatN St_34 (C := CSd 0) rfl T (hn 0 (by omega))), if_b2i, if_neg (by decide), qX12_readWalker_202_m (h := t_eatN St_35 (C := CSd 1) rfl T (hn 1 (by omega))), if_b2i, if_neg (by decide), qX12_readWalker_216_m (h := t_eatY St_36 (C := CSd 2) rfl T hy g), if_b2i, if_pos rfl, qX12_readWalker_241_m, if_neg (by decide)]
    all_goals rfl
  · rw [qX12_readWalker_188_m (h := t_eatN St_34 (C := CSd 0) rfl T (hn 0 (by omega))), if_b2i, if_neg (by decide), qX12_readWalker_202_m (h := t_eatN St_35 (C := CSd 1) rfl T (hn 1 (by omega))), if_b2i, if_neg (by decide), qX12_readWalker_216_m (h := t_eatN St_36 (C := CSd 2) rfl T (hn 2 (by omega))), if_b2i, if_neg (by decide), qX12_readWalker_230_m (h := t_eatY St_37 (C := CSd 3) rfl T hy g), if_b2i, if_pos rfl, qX12_readWalker_241_m, if_neg (by decide)]
    all_goals rfl
theorem m_sideN (T : Tk (bt tp.1) n e t u SP) (v1 : Int64) (v3 v4 : Int32) (hn : ∀ l, l < 4 → ¬ (t.2.1 = 1 ∧ t.2.2.2.2 = CSd l)) : BX12_readWalker_188 [(0, .ref 0), (1, .long v1), (3, .int v3), (4, .int v4)] [.ref 2034, .ref 0] (MM o (th, mtr, wh, ta, mfa, mo, sd, ac, mk) (mU mq n u wr rm rs) (mAq ma SP) re) = some (MM o (th, mtr, wh, ta, 1, mo, sd, ac, mk) (mU mq n (ov u) t.2.2.1 rm rs) (mAq ma SP) re) := by
  have hfl := t_flaw (o := o) (th := th) (mtr := mtr) (wh := wh) (ta := ta) (mfa := mfa) (mo := mo) (sd := sd) (ac := ac) (mk := mk) (mq := mq) (wr := wr) (rm := rm) (rs := rs) (ma := ma) (re := re) (SP := SP) (n := n) T.over 1
  rw [← T.pc, qX12_readWalker_188_m (h := t_eatN St_34 (C := CSd 0) rfl T (hn 0 (by omega))), if_b2i, if_neg (by decide), qX12_readWalker_202_m (h := t_eatN St_35 (C := CSd 1) rfl T (hn 1 (by omega))), if_b2i, if_neg (by decide), qX12_readWalker_216_m (h := t_eatN St_36 (C := CSd 2) rfl T (hn 2 (by omega))), if_b2i, if_neg (by decide), qX12_readWalker_230_m (h := t_eatN St_37 (C := CSd 3) rfl T (hn 3 (by omega))), if_b2i, if_neg (by decide), qX12_readWalker_241_m, if_pos rfl, qX12_readWalker_251_m (h := hfl), o_w261 rfl]
theorem l_walker (H : Ctx tp ma m n) (T : Tk (bt tp.1) n e t u SP) (D : D1 dr re) (hr : ¬ (5 : Int32) ≤ dr.2.2.2.2.2.2.2.2.2.2.2) : LOut tp n e (fun t_ a_ b_ c_ d_ e_ dr_ => CH mz tp (tC n t_) (a_, b_, c_, d_, e_) hi sc pl dr_ wa wb rc) (fun f_ u_ w_ rm_ rs_ SP_ re_ => MM o (th, mtr, wh, ta, f_, mo, sd, ac, mk) (mU mq n u_ w_ rm_ rs_) (mAq ma SP_) re_) ra rp mfa wr re (EX4_readWalker [.ref 3, .ref 29] (CH mz tp (tC n t) (ra, rp, nb, cc, cp) hi sc pl dr wa wb rc)) (BX12_readWalker_13 [(0, .ref 0)] [.ref 0] (MM o (th, mtr, wh, ta, mfa, mo, sd, ac, mk) (mU mq n u wr rm rs) (mAq ma SP) re)) := by
  obtain ⟨hw, hh, _⟩ := D.w
  obtain ⟨w, h, du, pa, sh, gc, hc, wc, ro, wn, mn, ⟨W, G, N, P, GA, NO, HE, WK⟩, X⟩ := D
  obtain ⟨X0, X1, X2, X3, X4⟩ := X
  obtain ⟨e1, e5, e6, e7⟩ := WK
  have hc5 : wc < 5 := by
    by_cases h9 : 5 ≤ wc
    · rw [e5] at hr
      exact absurd (show (5 : Int32) ≤ nI wc from nI_le (a := 5) h9 (by omega)) hr
    · omega
  have hfl1 := t_flaw (o := o) (th := th) (mtr := mtr) (wh := wh) (ta := ta) (mfa := mfa) (mo := mo) (sd := sd) (ac := ac) (mk := mk) (mq := mq) (wr := wr) (rm := rm) (rs := rs) (ma := ma) (re := re) (SP := SP) (n := n) T.over 1
  have hbad : EX12_isName [.ref 0] (MM o (th, mtr, wh, ta, mfa, mo, sd, ac, mk) (mU mq n u wr rm rs) (mAq ma SP) re) = some false → BX12_readWalker_13 [(0, .ref 0)] [.ref 0] (MM o (th, mtr, wh, ta, mfa, mo, sd, ac, mk) (mU mq n u wr rm rs) (mAq ma SP) re) = some (MM o (th, mtr, wh, ta, 1, mo, sd, ac, mk) (mU mq n (ov u) t.2.2.1 rm rs) (mAq ma SP) re) := fun hN => by
    rw [← T.pc, qX12_readWalker_13_m (h := hN), if_b2i, if_neg (by decide), qX12_readWalker_21_m (h := hfl1), o_w26 rfl e1 e6]
  by_cases hk : t.2.1 = 1
  · rcases t_sort (mz := mz) (ra := ra) (rp := rp) (nb := nb) (cc := cc) (cp := cp) (hi := hi) (sc := sc) (pl := pl) (dr := dr) (wa := wa) (wb := wb) (rc := rc) T with ⟨i, i1, i2, i3, i4⟩ | ⟨i1, i2⟩
    · refine Or.inr ⟨1, t.2.2.1, nb, cc, cp, t, ov u, SP, dr, rm, rs, by decide, rfl, ?_, hbad (t_nameN T hk i1 i2 i3)⟩
      rw [eX4_readWalker_s, qX4_readWalker_0, if_pos hk, qX4_readWalker_17 (h := i4), if_neg (nI_m1 (by omega))]
    · have hY := t_nameY (o := o) (th := th) (mtr := mtr) (wh := wh) (ta := ta) (mfa := mfa) (mo := mo) (sd := sd) (ac := ac) (mk := mk) (mq := mq) (wr := wr) (rm := rm) (rs := rs) (ma := ma) (re := re) T hk i1
      obtain ⟨q, g1, g2, g3, g4, g5, g6, g7, g8⟩ := T.w1 hk
      have hco : u.2.2.2.2.2.2 = t.2.2.2.2 := by rw [g5, g6]
      have hc0 : EX4_readWalker [.ref 3, .ref 29] (CH mz tp (tC n t) (ra, rp, nb, cc, cp) hi sc pl dr wa wb rc) = BX4_readWalker_40 [(0, .ref 3), (1, .ref 29), (2, .long t.2.2.2.2)] [.long t.2.2.2.2, .ref 29] (CH mz tp (tC n t) (ra, rp, nb, cc, cp) hi sc pl dr wa wb rc) := by
        rw [eX4_readWalker_s, qX4_readWalker_0, if_pos hk, qX4_readWalker_17 (h := i2), if_pos rfl]
      rcases first_or (P := fun i => (dr.2.2.2.1 i).1 = t.2.2.2.2) wc with ⟨i0, j1, j2, j3⟩ | j1
      · have hnm := c_named (mz := mz) (tp := tp) (hi := hi) (sc := sc) (pl := pl) (dr := dr) (wa := wa) (wb := wb) (rc := rc) (nm := t.2.2.2.2) e1 e5 (by omega : i0 ≤ wc) (fun i hi => j3 i hi) (fun _ => j2) (tk := tC n t) (rd := (ra, rp, nb, cc, cp))
        rw [decide_eq_true j1] at hnm
        refine Or.inr ⟨3, t.2.2.1, nb, cc, cp, t, ov u, SP, dr, rm, rs, by decide, rfl, ?_, ?_⟩
        · rw [hc0, qX4_readWalker_40 (h := hnm), if_b2i, if_pos rfl]
        · rw [← T.pc, qX12_readWalker_13_m (h := hY), if_b2i, if_pos rfl, m_w26Y T.over e1 e6 j1 (fun i hi => by rw [hco, ← X4 i (by omega)]; exact j3 i hi) (by rw [hco, ← X4 i0 j1]; exact j2)]
      · have hnm := c_named (mz := mz) (tp := tp) (hi := hi) (sc := sc) (pl := pl) (dr := dr) (wa := wa) (wb := wb) (rc := rc) (nm := t.2.2.2.2) e1 e5 (Nat.le_refl wc) (fun i hi => j1 i hi) (fun h => absurd h (Nat.lt_irrefl _)) (tk := tC n t) (rd := (ra, rp, nb, cc, cp))
        rw [decide_eq_false (Nat.lt_irrefl _)] at hnm
        obtain ⟨e_1, t1, u1, SP1, T1, A1, a1, a2⟩ := t_go (mz := mz) (ra := ra) (rp := rp) (nb := nb) (cc := cc) (cp := cp) (hi := hi) (sc := sc) (pl := pl) (dr := dr) (wa := wa) (wb := wb) (rc := rc) (o := o) (th := th) (mtr := mtr) (wh := wh) (ta := ta) (mfa := mfa) (mo := mo) (sd := sd) (ac := ac) (mk := mk) (mq := mq) (wr := wr) (rm := rm) (rs := rs) (ma := ma) (re := re) (SP := SP) H T.e.2 T.e.1 (T.sp (Or.inl hk)) T.over
        have hc1 : EX4_readWalker [.ref 3, .ref 29] (CH mz tp (tC n t) (ra, rp, nb, cc, cp) hi sc pl dr wa wb rc) = BX4_readWalker_62 [(0, .ref 3), (1, .ref 29), (2, .long t.2.2.2.2)] [.ref 2007, .ref 3] (CH mz tp (tC n t1) (ra, rp, nb, cc, cp) hi sc pl dr wa wb rc) := by
          rw [hc0, qX4_readWalker_40 (h := hnm), if_b2i, if_neg (by decide), qX4_readWalker_56 (h := a1)]
        have hm1 : BX12_readWalker_13 [(0, .ref 0)] [.ref 0] (MM o (th, mtr, wh, ta, mfa, mo, sd, ac, mk) (mU mq n u wr rm rs) (mAq ma SP) re) = BX12_readWalker_86 [(0, .ref 0), (1, .long t.2.2.2.2)] [.ref 2027, .ref 0] (MM o (th, mtr, wh, ta, mfa, mo, sd, ac, mk) (mU mq n u1 wr rm rs) (mAq ma SP1) re) := by
          rw [qX12_readWalker_13_m (h := hY), if_b2i, if_pos rfl, m_w26N T.over e1 e6 (fun i hi => by rw [hco, ← X4 i hi]; exact j1 i hi), qX12_readWalker_79_m (h := a2), hco]
        rw [hc1, hm1]
        rcases t_oneOf (mz := mz) (ra := ra) (rp := rp) (nb := nb) (cc := cc) (cp := cp) (hi := hi) (sc := sc) (pl := pl) (dr := dr) (wa := wa) (wb := wb) (rc := rc) (o := o) (th := th) (mtr := mtr) (wh := wh) (ta := ta) (mfa := mfa) (mo := mo) (sd := sd) (ac := ac) (mk := mk) (mq := mq) (wr := wr) (rm := rm) (rs := rs) (ma := ma) (re := re) (by decide) St_7 pk_K H T1 with ⟨i, e_2, t2, u2, SP2, b1, b2, b3, T2, A2, b4, b5⟩ | ⟨b1, b2⟩
        · rcases t_word (mz := mz) (ra := ra) (rp := rp) (nb := nI i) (cc := cc) (cp := cp) (hi := hi) (sc := sc) (pl := pl) (dr := dr) (wa := wa) (wb := wb) (rc := rc) (o := o) (th := th) (mtr := mtr) (wh := wh) (ta := ta) (mfa := mfa) (mo := mo) (sd := sd) (ac := ac) (mk := mk) (mq := mq) (wr := wr) (rm := rm) (rs := rs) (ma := ma) (re := re) H T2 St_8 St_32 (by decide) (by unfold Lt; decide) with ⟨e_3, t3, u3, SP3, T3, A3, d1, d2⟩ | ⟨d1, d2⟩
          · rcases t_cell (mz := mz) (ra := ra) (rp := rp) (nb := nI i) (cc := cc) (cp := cp) (hi := hi) (sc := sc) (pl := pl) (dr := dr) (wa := wa) (wb := wb) (rc := rc) (o := o) (th := th) (mtr := mtr) (wh := wh) (ta := ta) (mfa := mfa) (mo := mo) (sd := sd) (ac := ac) (mk := mk) (mq := mq) (wr := wr) (rm := rm) (rs := rs) (ma := ma) (re := re) H T3 hw hh with ⟨x, y, p, e_4, t4, u4, SP4, x1, x2, y1, y2, T4, A4, f1, f2⟩ | ⟨f, w9, nb2, cc2, cp2, t4, u4, SP4, hf, h5, f1, v, f2⟩
            · rcases t_word (mz := mz) (ra := ra) (rp := rp) (nb := y) (cc := re.1.1 * y + x) (cp := p) (hi := hi) (sc := sc) (pl := pl) (dr := dr) (wa := wa) (wb := wb) (rc := rc) (o := o) (th := th) (mtr := mtr) (wh := wh) (ta := ta) (mfa := mfa) (mo := mo) (sd := sd) (ac := ac) (mk := mk) (mq := mq) (wr := wr) (rm := rm) (rs := rs) (ma := ma) (re := re) H T4 St_9 St_33 (by decide) (by unfold Lt; decide) with ⟨e_5, t5, u5, SP5, T5, A5, k1, k2⟩ | ⟨k1, k2⟩
              · rcases t_oneOf (mz := mz) (ra := ra) (rp := rp) (nb := y) (cc := re.1.1 * y + x) (cp := p) (hi := hi) (sc := sc) (pl := pl) (dr := dr) (wa := wa) (wb := wb) (rc := rc) (o := o) (th := th) (mtr := mtr) (wh := wh) (ta := ta) (mfa := mfa) (mo := mo) (sd := sd) (ac := ac) (mk := mk) (mq := mq) (wr := wr) (rm := rm) (rs := rs) (ma := ma) (re := re) (by decide) St_10 pk_S H T5 with ⟨s, e_6, t6, u6, SP6, l1, l2, l3, T6, A6, l4, l5⟩ | ⟨l1, l2⟩
                · rcases t_part (mz := mz) (ra := ra) (rp := rp) (nb := nI s) (cc := re.1.1 * y + x) (cp := p) (hi := hi) (sc := sc) (pl := pl) (dr := dr) (wa := wa) (wb := wb) (rc := rc) (o := o) (th := th) (mtr := mtr) (wh := wh) (ta := ta) (mfa := mfa) (mo := mo) (sd := sd) (ac := ac) (mk := mk) (mq := mq) (wr := wr) (rm := rm) (rs := rs) (ma := ma) (re := re) H T6 St_11 St_38 (by decide) (by unfold Lt; decide) 0 99 with ⟨v, e_7, t7, u7, SP7, p1, p2, T7, A7, r1, r2⟩ | ⟨f, w9, nb2, t7, u7, SP7, hf, h5, r1, r2⟩
                  · obtain ⟨c, hc1, hc2⟩ := cell_of W x1 (by rw [N.1.1] at x2; exact x2) y1 (by rw [N.1.2] at y2; exact y2)
                    rw [← N.1.1] at hc2
                    obtain ⟨lv_, lv1, lv2, rfl⟩ := num_of (a := 0) (b := 99) p1 p2 rfl rfl (by decide) (by decide)
                    have A8 : Af e e_7 t7 := ⟨by have := A1.1; have := A2.1; have := A3.1; have := A4.1; have := A5.1; have := A6.1; have := A7.1; omega, fun hh => by have := A7.2 hh; have := A1.1; have := A2.1; have := A3.1; have := A4.1; have := A5.1; have := A6.1; omega⟩
                    have hin := nI_in (N := 5) hc5 (by omega)
                    have hadd := c_addW (mz := mz) (tp := tp) (hi := hi) (sc := sc) (pl := pl) (wa := wa) (wb := wb) (rc := rc) (nm := t.2.2.2.2) (k := nI i) (c := re.1.1 * y + x) (s := nI s) (l := nI lv_) hc5 e5 (tk := tC n t7) (rd := (ra, rp, nI lv_, re.1.1 * y + x, p))
                    apply LOut.ok T7 A8
                    · rw [qX4_readWalker_62 (h := b4), if_b2i, if_pos rfl, qX4_readWalker_79 (h := d1), if_b2i, if_pos rfl, qX4_readWalker_90 (h := f1), if_b2i, if_pos rfl, qX4_readWalker_99 (h := k1), if_b2i, if_pos rfl, qX4_readWalker_108 (h := l4), if_b2i, if_pos rfl, qX4_readWalker_128 (h := r1), if_b2i, if_pos rfl, qX4_readWalker_150 (h := hadd)]
                    · rw [m_kindY T1 _ b1 b2 b3 b5, qX12_readWalker_164_m, qX12_readWalker_168_m (h := d2), qX12_readWalker_172_m (h := f2), qX12_readWalker_181_m (h := k2), m_sideY T5 _ _ _ l1 l2 l3 l5, qX12_readWalker_254_m, qX12_readWalker_261_m (h := r2), if_neg T7.over, e6, if_neg hin, if_neg hin, if_neg hin, if_neg hin, if_neg hin, nI_clamp (by omega), nI_1]
                    · refine ⟨w, h, du, pa, sh, gc, hc, wc + 1, ro, wn, mn, ⟨W, G, N, P, GA, NO, HE, ⟨by omega, rfl, rfl, fun j hj => ?_⟩⟩, X0, X1, X2, X3, fun j hj => ?_⟩
                      · dsimp only
                        by_cases e8 : j = wc
                        · subst e8
                          rw [pk_us, pk_us, pk_us, pk_us, vaS]
                          exact ⟨i, c, s, lv_, b1, hc1, l1, lv2, by rw [hc2], rfl, hc2, rfl, rfl⟩
                        · obtain ⟨k', c', s', l', q1, q2, q3, q4, q5, q6, q7, q8, q9⟩ := e7 j (by omega)
                          rw [pk_un e8, pk_un e8, pk_un e8, pk_un e8, vaN e8]
                          exact ⟨k', c', s', l', q1, q2, q3, q4, q5, q6, q7, q8, q9⟩
                      · dsimp only
                        by_cases e8 : j = wc
                        · subst e8
                          rw [vaS, pk_uLs]
                        · rw [vaN e8, pk_uLn e8]
                          exact X4 j (by omega)
                  · refine Or.inr ⟨f, w9, nb2, re.1.1 * y + x, p, t7, u7, SP7, dr, rm, rs, hf, h5, ?_, ?_⟩
                    · rw [qX4_readWalker_62 (h := b4), if_b2i, if_pos rfl, qX4_readWalker_79 (h := d1), if_b2i, if_pos rfl, qX4_readWalker_90 (h := f1), if_b2i, if_pos rfl, qX4_readWalker_99 (h := k1), if_b2i, if_pos rfl, qX4_readWalker_108 (h := l4), if_b2i, if_pos rfl, qX4_readWalker_128 (h := r1), if_b2i, if_neg (by decide)]
                    · rw [m_kindY T1 _ b1 b2 b3 b5, qX12_readWalker_164_m, qX12_readWalker_168_m (h := d2), qX12_readWalker_172_m (h := f2), qX12_readWalker_181_m (h := k2), m_sideY T5 _ _ _ l1 l2 l3 l5, qX12_readWalker_254_m, qX12_readWalker_261_m (h := r2), if_pos h5]
                · refine Or.inr ⟨1, t5.2.2.1, -1, re.1.1 * y + x, p, t5, ov u5, SP5, dr, rm, rs, by decide, rfl, ?_, ?_⟩
                  · rw [qX4_readWalker_62 (h := b4), if_b2i, if_pos rfl, qX4_readWalker_79 (h := d1), if_b2i, if_pos rfl, qX4_readWalker_90 (h := f1), if_b2i, if_pos rfl, qX4_readWalker_99 (h := k1), if_b2i, if_pos rfl, qX4_readWalker_108 (h := l2), if_b2i, if_neg (by decide)]
                  · rw [m_kindY T1 _ b1 b2 b3 b5, qX12_readWalker_164_m, qX12_readWalker_168_m (h := d2), qX12_readWalker_172_m (h := f2), qX12_readWalker_181_m (h := k2), m_sideN T5 _ _ _ l1]
              · refine Or.inr ⟨1, t4.2.2.1, y, re.1.1 * y + x, p, t4, ov u4, SP4, dr, rm, rs, by decide, rfl, ?_, ?_⟩
                · rw [qX4_readWalker_62 (h := b4), if_b2i, if_pos rfl, qX4_readWalker_79 (h := d1), if_b2i, if_pos rfl, qX4_readWalker_90 (h := f1), if_b2i, if_pos rfl, qX4_readWalker_99 (h := k1), if_b2i, if_neg (by decide)]
                · rw [m_kindY T1 _ b1 b2 b3 b5, qX12_readWalker_164_m, qX12_readWalker_168_m (h := d2), qX12_readWalker_172_m (h := f2), qX12_readWalker_181_m (h := k2), o_w188 rfl]
            · refine Or.inr ⟨f, w9, nb2, cc2, cp2, t4, u4, SP4, dr, rm, rs, hf, h5, ?_, ?_⟩
              · rw [qX4_readWalker_62 (h := b4), if_b2i, if_pos rfl, qX4_readWalker_79 (h := d1), if_b2i, if_pos rfl, qX4_readWalker_90 (h := f1), if_b2i, if_neg (by decide)]
              · rw [m_kindY T1 _ b1 b2 b3 b5, qX12_readWalker_164_m, qX12_readWalker_168_m (h := d2), qX12_readWalker_172_m (h := f2), o_w181 h5]
          · refine Or.inr ⟨1, t2.2.2.1, nI i, cc, cp, t2, ov u2, SP2, dr, rm, rs, by decide, rfl, ?_, ?_⟩
            · rw [qX4_readWalker_62 (h := b4), if_b2i, if_pos rfl, qX4_readWalker_79 (h := d1), if_b2i, if_neg (by decide)]
            · rw [m_kindY T1 _ b1 b2 b3 b5, qX12_readWalker_164_m, qX12_readWalker_168_m (h := d2), o_w172 rfl]
        · refine Or.inr ⟨1, t1.2.2.1, -1, cc, cp, t1, ov u1, SP1, dr, rm, rs, by decide, rfl, ?_, ?_⟩
          · rw [qX4_readWalker_62 (h := b2), if_b2i, if_neg (by decide)]
          · rw [m_kindN T1 _ b1]
  · refine Or.inr ⟨1, t.2.2.1, nb, cc, cp, t, ov u, SP, dr, rm, rs, by decide, rfl, ?_, hbad ?_⟩
    · rw [eX4_readWalker_s, qX4_readWalker_0, if_neg hk]
    · rw [eX12_isName_s_m, qX12_isName_0_m, if_neg (fun h => hk (T.k1.mpr h))]
end
