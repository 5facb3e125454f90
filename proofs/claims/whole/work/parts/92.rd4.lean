/-! Lines of rows. -/
section
variable {mz : MzS} {tp : TpS} {ra rp nb cc cp : Int32} {hi : HiS} {sc : ScS} {pl dr : PlS} {wa wb : WaS} {rc : Nat → Int32} {o : Option MeS} {th mtr wh ta mfa : Int32} {mo : Int64} {sd ac mk : Int32} {mq : MsS} {wr : Int32} {rm rs : Int64} {ma : MaS} {SP : Nat → Int32} {re : MeS} {m n e : Nat} {t : TT} {u : UU}
theorem m_cellsB (H : Ctx tp ma m n) (z : Int32) {q w l x0 : Nat} (hw : re.1.1 = nI w) (hw8 : w ≤ 8) (hl : l < 900) (hx0 : x0 < w) (hSP : ∀ i, i < w → SP i = nI (bt tp.1 (q + i))) (h5 : u.2.1 ≠ 5) (hok : ∀ x, x < x0 → okl z (bt tp.1 (q + x))) (hbad : ¬ okl z (bt tp.1 (q + x0))) : ∃ rm2 rs2, lp (BX12_readCells_54) FU [(0, .ref 0), (1, .int (nI l)), (2, .int z), (3, .int 0)] [] (MM o (th, mtr, wh, ta, mfa, mo, sd, ac, mk) (mU mq n u wr 0 0) (mAq ma SP) re) = some (MM o (th, mtr, wh, ta, 7, mo, sd, ac, mk) (mU mq n (ov u) u.2.2.1 rm2 rs2) (mAq ma SP) re) := by
  refine ⟨pmk 109 (fun x => bt tp.1 (q + x)) w l x0, pmk 115 (fun x => bt tp.1 (q + x)) w l x0, ?_⟩
  refine lp_run (fun x => [(0, .ref 0), (1, .int (nI l)), (2, .int z), (3, .int (nI x))]) (fun x => if x ≤ x0 then (MM o (th, mtr, wh, ta, mfa, mo, sd, ac, mk) (mU mq n u wr (pmk 109 (fun x => bt tp.1 (q + x)) w l x) (pmk 115 (fun x => bt tp.1 (q + x)) w l x)) (mAq ma SP) re) else (MM o (th, mtr, wh, ta, 7, mo, sd, ac, mk) (mU mq n (ov u) u.2.2.1 (pmk 109 (fun x => bt tp.1 (q + x)) w l x0) (pmk 115 (fun x => bt tp.1 (q + x)) w l x0)) (mAq ma SP) re)) (t := x0 + 1) (by have := FU_ge; omega) (fun x hx k => ?_) (fun k => ?_)
  · have hb := bt_lt tp.1 (q + x)
    have hin := nI_in (N := 8) (by omega : x < 8) (by omega)
    rw [if_pos (by omega), qX12_readCells_54_m, hw, if_le (by omega) (by omega), if_neg (by omega), if_neg h5, if_neg hin, if_neg hin, if_neg hin, nI_clamp (by omega), hSP x (by omega), show (109 : Int32) = nI 109 from rfl, show (115 : Int32) = nI 115 from rfl, show (97 : Int32) = nI 97 from rfl, if_eq (by omega) (by omega), if_eq (by omega) (by omega), if_eq (by omega) (by omega), pk_mul, nI_add, nI_1, ← hw]
    by_cases e0 : x = x0
    · subst e0
      have hfl := t_flaw (o := o) (th := th) (mtr := mtr) (wh := wh) (ta := ta) (mo := mo) (sd := sd) (ac := ac) (mk := mk) (mq := mq) (ma := ma) (re := re) (mfa := mfa) (wr := wr) (rm := pmk 109 (fun x => bt tp.1 (q + x)) w l x) (rs := pmk 115 (fun x => bt tp.1 (q + x)) w l x) (SP := SP) (n := n) h5 7
      rw [if_neg (fun h => hbad (Or.inl h)), if_neg (fun h => hbad (Or.inr (Or.inl h))), if_neg (by omega : ¬ x + 1 ≤ x), qX12_readCells_156_m (h := hfl), nI_1]
      by_cases hz : z = 0
      · rw [if_pos hz]
      · rw [if_neg hz, if_neg (fun h => hbad (Or.inr (Or.inr ⟨hz, h⟩)))]
    · rw [if_pos (by omega : x + 1 ≤ x0), pmk_s, pmk_s]
      rcases hok x (by omega) with h | h | ⟨h, h'⟩
      · rw [if_pos h, if_pos h, if_neg (by omega : ¬ bt tp.1 (q + x) = 115)]
      · rw [if_neg (by omega : ¬ bt tp.1 (q + x) = 109), if_pos h, if_neg (by omega : ¬ bt tp.1 (q + x) = 109), if_pos h]
      · rw [if_neg (by omega : ¬ bt tp.1 (q + x) = 109), if_neg (by omega : ¬ bt tp.1 (q + x) = 115), if_neg h, if_pos h', if_neg (by omega : ¬ bt tp.1 (q + x) = 109), if_neg (by omega : ¬ bt tp.1 (q + x) = 115)]
  · rw [if_neg (by omega), qX12_readCells_54_m, hw, if_le (by omega) (by omega), ← hw, qX12_readCells_166_m (h := o_go rfl), if_pos rfl]
    split <;> rfl

theorem l_row_r (H : Ctx tp ma m n) (T : Tk (bt tp.1) n e t u SP) (D : D1 dr re) (hr : ¬ dr.1.2.2.1 ≤ dr.2.1.1.2.2) : LOut tp n e (fun t_ a_ b_ c_ d_ e_ dr_ => CH mz tp (tC n t_) (a_, b_, c_, d_, e_) hi sc pl dr_ wa wb rc) (fun f_ u_ w_ rm_ rs_ SP_ re_ => MM o (th, mtr, wh, ta, f_, mo, sd, ac, mk) (mU mq n u_ w_ rm_ rs_) (mAq ma SP_) re_) ra rp mfa wr re (EX4_readRow [.ref 3, .ref 29, .ref 32, .int 0] (CH mz tp (tC n t) (ra, rp, nb, cc, cp) hi sc pl dr wa wb rc)) (BX12_readRow_41 [(0, .ref 0)] [.int 0, .int re.1.2.2.2.2.2.1, .ref 0] (MM o (th, mtr, wh, ta, mfa, mo, sd, ac, mk) (mU mq n u wr rm rs) (mAq ma SP) re)) := by
  obtain ⟨w, h, du, pa, sh, gc, hc, wc, ro, wn, mn, ⟨W, G, N, P, GA, NO, HE, WK⟩, X⟩ := D
  obtain ⟨X0, X1, X2, X3, X4⟩ := X
  have hn := W.n
  obtain ⟨w2, w8, h2, h6⟩ := id W
  have hlC := X1.2.1
  have hlM := X1.2.2
  have hlh : ro < h := by
    rw [G.2.1, hlC] at hr
    by_cases h9 : h ≤ ro
    · exact absurd (nI_le h9 (by have := X1.1; omega)) hr
    · omega
  by_cases hk : t.2.1 = 1
  · obtain ⟨q, g1, g2, g3, g4, g5, g6, g7, g8⟩ := T.w1 hk
    have hs : nI e - nI q = nI (e - q) := by
      have := nI_add (e - q) q
      rw [show e - q + q = e by omega] at this
      rw [← this, Int32.add_sub_cancel]
    have hE := T.e
    have hn900 : n ≤ 900 := by have := H.1; have := H.2.2.1; omega
    have hcc : EX4_readRow [.ref 3, .ref 29, .ref 32, .int 0] (CH mz tp (tC n t) (ra, rp, nb, cc, cp) hi sc pl dr wa wb rc) = (if e - q = w then lp (BX4_readRow_48) FU [(0, .ref 3), (1, .ref 29), (2, .ref 32), (3, .int 0), (4, .int (nI w)), (5, .int 0)] [] (CH mz tp (tC n t) (ra, rp, nb, cc, cp) hi sc pl dr wa wb rc) else some (false, (CH mz tp (tC n t) (7, t.2.2.1, nb, cc, cp) hi sc pl dr wa wb rc))) := by
      rw [eX4_readRow_s_r, qX4_readRow_0_r, if_pos hk]
      rw [show t.1 - t.2.2.1 = nI (e - q) by rw [hE.1, g1, hs], G.1, if_eq (by omega) (by omega)]
    have hmm : EX12_readCells [.ref 0, .int re.1.2.2.2.2.2.1, .int 0] (MM o (th, mtr, wh, ta, mfa, mo, sd, ac, mk) (mU mq n u wr rm rs) (mAq ma SP) re) = (if e - q = w then lp (BX12_readCells_54) FU [(0, .ref 0), (1, .int re.1.2.2.2.2.2.1), (2, .int 0), (3, .int 0)] [] (MM o (th, mtr, wh, ta, mfa, mo, sd, ac, mk) (mU mq n u wr 0 0) (mAq ma SP) re) else BX12_readCells_49 [(0, .ref 0), (1, .int re.1.2.2.2.2.2.1), (2, .int 0)] [.int 7, .ref 0] (MM o (th, mtr, wh, ta, mfa, mo, sd, ac, mk) (mU mq n u wr 0 0) (mAq ma SP) re)) := by
      rw [eX12_readCells_s_m, qX12_readCells_0_m, if_pos (T.k1.mp hk), qX12_readCells_23_m, if_neg T.over, g4, N.1.1, if_eq (by omega) (by omega), ← N.1.1, ← g4]
    by_cases hL : e - q = w
    · rw [if_pos hL] at hcc hmm
      have hSP : ∀ i, i < w → SP i = nI (bt tp.1 (q + i)) := fun i hi => g8 i (by omega)
      rcases row_first 0 (fun x => bt tp.1 (q + x)) w with hok | ⟨x0, hx0, hok, hbad⟩
      · obtain ⟨e2, t2, u2, SP2, T2, A2, k1, k2⟩ := t_go (mz := mz) (ra := ra) (rp := rp) (nb := nb) (cc := cc) (cp := cp) (hi := hi) (sc := sc) (pl := pl) (dr := (dr.1, ((dr.2.1.1.1 ||| pmk 109 (fun x => bt tp.1 (q + x)) w ro w, dr.2.1.1.2.1 ||| pmk 115 (fun x => bt tp.1 (q + x)) w ro w, nI (ro + 1)), dr.2.1.2.1, dr.2.1.2.2), dr.2.2.1, dr.2.2.2.1, dr.2.2.2.2)) (wa := wa) (wb := wb) (rc := rc) (o := o) (th := th) (mtr := mtr) (wh := wh) (ta := ta) (mfa := mfa) (mo := mo) (sd := sd) (ac := ac) (mk := mk) (mq := mq) (wr := wr) (rm := pmk 109 (fun x => bt tp.1 (q + x)) w ro w) (rs := pmk 115 (fun x => bt tp.1 (q + x)) w ro w) (ma := ma) (re := re) (SP := SP) H T.e.2 T.e.1 (T.sp (Or.inl hk)) T.over
        have hcl := c_cells_r (mz := mz) (ra := ra) (rp := rp) (nb := nb) (cc := cc) (cp := cp) (hi := hi) (sc := sc) (pl := pl) (dr := dr) (wa := wa) (wb := wb) (rc := rc) H 0 (t := t) (q := q) (w := w) (l := ro) (x0 := w) g1 G.1 hlC w8 (by omega) (Nat.le_refl _) hok (R := some (true, (CH mz tp (tC n t2) (ra, rp, nb, cc, cp) hi sc pl (dr.1, ((dr.2.1.1.1 ||| pmk 109 (fun x => bt tp.1 (q + x)) w ro w, dr.2.1.1.2.1 ||| pmk 115 (fun x => bt tp.1 (q + x)) w ro w, nI (ro + 1)), dr.2.1.2.1, dr.2.1.2.2), dr.2.2.1, dr.2.2.2.1, dr.2.2.2.2) wa wb rc))) (fun k => by
          rw [qX4_readRow_48_r, if_pos (nI_le (Nat.le_refl _) (by omega))]
          dsimp only
          rw [hlC, nI_1, qX4_readRow_137_r (h := k1)])
        have hml := m_cells (o := o) (th := th) (mtr := mtr) (wh := wh) (ta := ta) (mo := mo) (sd := sd) (ac := ac) (mk := mk) (mq := mq) (ma := ma) (re := re) (mfa := mfa) (wr := wr) H 0 (u := u) (q := q) (w := w) (l := ro) (x0 := w) N.1.1 w8 (by omega) (Nat.le_refl _) hSP T.over hok (R := some (MM o (th, mtr, wh, ta, mfa, mo, sd, ac, mk) (mU mq n u2 wr (pmk 109 (fun x => bt tp.1 (q + x)) w ro w) (pmk 115 (fun x => bt tp.1 (q + x)) w ro w)) (mAq ma SP2) re)) (fun k => by
          rw [qX12_readCells_54_m, N.1.1, if_pos (nI_le (Nat.le_refl _) (by omega)), ← N.1.1, qX12_readCells_166_m (h := k2)])
        rw [← hlM] at hml
        apply LOut.ok T2 A2
        · rw [hcc, hcl]
        · rw [qX12_readRow_41_m (h := hmm.trans hml), if_neg T2.over, hlM, nI_1]
        · exact ⟨w, h, du, pa, sh, gc, hc, wc, ro + 1, wn, mn, ⟨W, G, N, P, GA, NO, HE, WK⟩, ⟨congrArg (· ||| _) X0.1, Sub_orL X0.2 (pmk_sub 109 (fun x => bt tp.1 (q + x)) hlh hn.1 w (Nat.le_refl _))⟩, ⟨by omega, rfl, rfl⟩, X2, X3, X4⟩
      · have hcl := c_cells_r (mz := mz) (ra := ra) (rp := rp) (nb := nb) (cc := cc) (cp := cp) (hi := hi) (sc := sc) (pl := pl) (dr := dr) (wa := wa) (wb := wb) (rc := rc) H 0 (t := t) (q := q) (w := w) (l := ro) (x0 := x0) g1 G.1 hlC w8 (by omega) (by omega) hok (R := some (false, (CH mz tp (tC n t) (7, t.2.2.1, nb, cc, cp) hi sc pl (dr.1, ((dr.2.1.1.1 ||| pmk 109 (fun x => bt tp.1 (q + x)) w ro x0, dr.2.1.1.2.1 ||| pmk 115 (fun x => bt tp.1 (q + x)) w ro x0, dr.2.1.1.2.2), dr.2.1.2.1, dr.2.1.2.2), dr.2.2.1, dr.2.2.2.1, dr.2.2.2.2) wa wb rc))) (fun k => by
          have hb := bt_lt tp.1 (q + x0)
          have hlet := c_letter (mz := mz) (ra := ra) (rp := rp) (nb := nb) (cc := cc) (cp := cp) (hi := hi) (sc := sc) (pl := pl) (dr := (dr.1, ((dr.2.1.1.1 ||| pmk 109 (fun x => bt tp.1 (q + x)) w ro x0, dr.2.1.1.2.1 ||| pmk 115 (fun x => bt tp.1 (q + x)) w ro x0, dr.2.1.1.2.2), dr.2.1.2.1, dr.2.1.2.2), dr.2.2.1, dr.2.2.2.1, dr.2.2.2.2)) (wa := wa) (wb := wb) (rc := rc) (x := x0) H g1 (by omega)
          rw [qX4_readRow_48_r, if_le (by omega) (by omega), if_neg (by omega), qX4_readRow_61_r (h := hlet), show (109 : Int32) = nI 109 from rfl, show (115 : Int32) = nI 115 from rfl, show (97 : Int32) = nI 97 from rfl, if_eq (by omega) (by omega), if_eq (by omega) (by omega), if_eq (by omega) (by omega), if_neg (fun h => hbad (Or.inl h)), if_neg (fun h => hbad (Or.inr (Or.inl h)))]
          by_cases hz : (0 : Int32) = 0
          · rw [if_pos hz]
          · rw [if_neg hz, if_neg (fun h => hbad (Or.inr (Or.inr ⟨hz, h⟩)))])
        obtain ⟨rm2, rs2, hml⟩ := m_cellsB (o := o) (th := th) (mtr := mtr) (wh := wh) (ta := ta) (mo := mo) (sd := sd) (ac := ac) (mk := mk) (mq := mq) (ma := ma) (re := re) (mfa := mfa) (wr := wr) H 0 (u := u) (q := q) (w := w) (l := ro) (x0 := x0) N.1.1 w8 (by omega) hx0 hSP T.over hok hbad
        rw [T.pc, ← hlM] at hml
        refine Or.inr ⟨7, t.2.2.1, nb, cc, cp, t, ov u, SP, _, rm2, rs2, by decide, rfl, hcc.trans hcl, ?_⟩
        rw [qX12_readRow_41_m (h := hmm.trans hml), if_pos rfl]
    · rw [if_neg hL] at hcc hmm
      have hfl := t_flaw (o := o) (th := th) (mtr := mtr) (wh := wh) (ta := ta) (mo := mo) (sd := sd) (ac := ac) (mk := mk) (mq := mq) (ma := ma) (re := re) (mfa := mfa) (wr := wr) (rm := 0) (rs := 0) (SP := SP) (n := n) T.over 7
      have hml : EX12_readCells [.ref 0, .int re.1.2.2.2.2.2.1, .int 0] (MM o (th, mtr, wh, ta, mfa, mo, sd, ac, mk) (mU mq n u wr rm rs) (mAq ma SP) re) = some (MM o (th, mtr, wh, ta, 7, mo, sd, ac, mk) (mU mq n (ov u) t.2.2.1 0 0) (mAq ma SP) re) := by
        rw [hmm, ← T.pc, qX12_readCells_49_m (h := hfl)]
        refine lp_run (fun _ => [(0, .ref 0), (1, .int re.1.2.2.2.2.2.1), (2, .int 0), (3, .int 0)]) (fun _ => (MM o (th, mtr, wh, ta, 7, mo, sd, ac, mk) (mU mq n (ov u) u.2.2.1 0 0) (mAq ma SP) re)) (t := 0) (by have := FU_ge; omega) (fun j hj => by omega) (fun k => ?_)
        rw [qX12_readCells_54_m, qX12_readCells_166_m (h := o_go rfl), if_pos rfl]
        split <;> rfl
      refine Or.inr ⟨7, t.2.2.1, nb, cc, cp, t, ov u, SP, dr, 0, 0, by decide, rfl, hcc, ?_⟩
      rw [qX12_readRow_41_m (h := hml), if_pos rfl]
  · have hfl := t_flaw (o := o) (th := th) (mtr := mtr) (wh := wh) (ta := ta) (mo := mo) (sd := sd) (ac := ac) (mk := mk) (mq := mq) (ma := ma) (re := re) (mfa := mfa) (wr := wr) (rm := 0) (rs := 0) (SP := SP) (n := n) T.over 1
    refine Or.inr ⟨1, t.2.2.1, nb, cc, cp, t, ov u, SP, dr, 0, 0, by decide, rfl, ?_, ?_⟩
    · rw [eX4_readRow_s_r, qX4_readRow_0_r, if_neg hk]
    · have hml : EX12_readCells [.ref 0, .int re.1.2.2.2.2.2.1, .int 0] (MM o (th, mtr, wh, ta, mfa, mo, sd, ac, mk) (mU mq n u wr rm rs) (mAq ma SP) re) = some (MM o (th, mtr, wh, ta, 1, mo, sd, ac, mk) (mU mq n (ov u) t.2.2.1 0 0) (mAq ma SP) re) := by
        rw [← T.pc, eX12_readCells_s_m, qX12_readCells_0_m, if_neg (fun h => hk (T.k1.mpr h)), qX12_readCells_20_m (h := hfl), qX12_readCells_23_m, if_pos rfl]
      rw [qX12_readRow_41_m (h := hml), if_pos rfl]

theorem l_row_w (H : Ctx tp ma m n) (T : Tk (bt tp.1) n e t u SP) (D : D1 dr re) (hr : ¬ dr.1.2.2.1 ≤ dr.2.1.2.1.2.2) : LOut tp n e (fun t_ a_ b_ c_ d_ e_ dr_ => CH mz tp (tC n t_) (a_, b_, c_, d_, e_) hi sc pl dr_ wa wb rc) (fun f_ u_ w_ rm_ rs_ SP_ re_ => MM o (th, mtr, wh, ta, f_, mo, sd, ac, mk) (mU mq n u_ w_ rm_ rs_) (mAq ma SP_) re_) ra rp mfa wr re (EX4_readRow [.ref 3, .ref 29, .ref 33, .int 1] (CH mz tp (tC n t) (ra, rp, nb, cc, cp) hi sc pl dr wa wb rc)) (BX12_readWant_41 [(0, .ref 0)] [.int 1, .int re.1.2.2.2.2.2.2.1, .ref 0] (MM o (th, mtr, wh, ta, mfa, mo, sd, ac, mk) (mU mq n u wr rm rs) (mAq ma SP) re)) := by
  obtain ⟨w, h, du, pa, sh, gc, hc, wc, ro, wn, mn, ⟨W, G, N, P, GA, NO, HE, WK⟩, X⟩ := D
  obtain ⟨X0, X1, X2, X3, X4⟩ := X
  have hn := W.n
  obtain ⟨w2, w8, h2, h6⟩ := id W
  have hlC := X2.2.1
  have hlM := X2.2.2
  have hlh : wn < h := by
    rw [G.2.1, hlC] at hr
    by_cases h9 : h ≤ wn
    · exact absurd (nI_le h9 (by have := X2.1; omega)) hr
    · omega
  by_cases hk : t.2.1 = 1
  · obtain ⟨q, g1, g2, g3, g4, g5, g6, g7, g8⟩ := T.w1 hk
    have hs : nI e - nI q = nI (e - q) := by
      have := nI_add (e - q) q
      rw [show e - q + q = e by omega] at this
      rw [← this, Int32.add_sub_cancel]
    have hE := T.e
    have hn900 : n ≤ 900 := by have := H.1; have := H.2.2.1; omega
    have hcc : EX4_readRow [.ref 3, .ref 29, .ref 33, .int 1] (CH mz tp (tC n t) (ra, rp, nb, cc, cp) hi sc pl dr wa wb rc) = (if e - q = w then lp (BX4_readRow_48) FU [(0, .ref 3), (1, .ref 29), (2, .ref 33), (3, .int 1), (4, .int (nI w)), (5, .int 0)] [] (CH mz tp (tC n t) (ra, rp, nb, cc, cp) hi sc pl dr wa wb rc) else some (false, (CH mz tp (tC n t) (7, t.2.2.1, nb, cc, cp) hi sc pl dr wa wb rc))) := by
      rw [eX4_readRow_s_w, qX4_readRow_0_w, if_pos hk]
      rw [show t.1 - t.2.2.1 = nI (e - q) by rw [hE.1, g1, hs], G.1, if_eq (by omega) (by omega)]
    have hmm : EX12_readCells [.ref 0, .int re.1.2.2.2.2.2.2.1, .int 1] (MM o (th, mtr, wh, ta, mfa, mo, sd, ac, mk) (mU mq n u wr rm rs) (mAq ma SP) re) = (if e - q = w then lp (BX12_readCells_54) FU [(0, .ref 0), (1, .int re.1.2.2.2.2.2.2.1), (2, .int 1), (3, .int 0)] [] (MM o (th, mtr, wh, ta, mfa, mo, sd, ac, mk) (mU mq n u wr 0 0) (mAq ma SP) re) else BX12_readCells_49 [(0, .ref 0), (1, .int re.1.2.2.2.2.2.2.1), (2, .int 1)] [.int 7, .ref 0] (MM o (th, mtr, wh, ta, mfa, mo, sd, ac, mk) (mU mq n u wr 0 0) (mAq ma SP) re)) := by
      rw [eX12_readCells_s_m, qX12_readCells_0_m, if_pos (T.k1.mp hk), qX12_readCells_23_m, if_neg T.over, g4, N.1.1, if_eq (by omega) (by omega), ← N.1.1, ← g4]
    by_cases hL : e - q = w
    · rw [if_pos hL] at hcc hmm
      have hSP : ∀ i, i < w → SP i = nI (bt tp.1 (q + i)) := fun i hi => g8 i (by omega)
      rcases row_first 1 (fun x => bt tp.1 (q + x)) w with hok | ⟨x0, hx0, hok, hbad⟩
      · obtain ⟨e2, t2, u2, SP2, T2, A2, k1, k2⟩ := t_go (mz := mz) (ra := ra) (rp := rp) (nb := nb) (cc := cc) (cp := cp) (hi := hi) (sc := sc) (pl := pl) (dr := (dr.1, (dr.2.1.1, (dr.2.1.2.1.1 ||| pmk 109 (fun x => bt tp.1 (q + x)) w wn w, dr.2.1.2.1.2.1 ||| pmk 115 (fun x => bt tp.1 (q + x)) w wn w, nI (wn + 1)), dr.2.1.2.2), dr.2.2.1, dr.2.2.2.1, dr.2.2.2.2)) (wa := wa) (wb := wb) (rc := rc) (o := o) (th := th) (mtr := mtr) (wh := wh) (ta := ta) (mfa := mfa) (mo := mo) (sd := sd) (ac := ac) (mk := mk) (mq := mq) (wr := wr) (rm := pmk 109 (fun x => bt tp.1 (q + x)) w wn w) (rs := pmk 115 (fun x => bt tp.1 (q + x)) w wn w) (ma := ma) (re := re) (SP := SP) H T.e.2 T.e.1 (T.sp (Or.inl hk)) T.over
        have hcl := c_cells_w (mz := mz) (ra := ra) (rp := rp) (nb := nb) (cc := cc) (cp := cp) (hi := hi) (sc := sc) (pl := pl) (dr := dr) (wa := wa) (wb := wb) (rc := rc) H 1 (t := t) (q := q) (w := w) (l := wn) (x0 := w) g1 G.1 hlC w8 (by omega) (Nat.le_refl _) hok (R := some (true, (CH mz tp (tC n t2) (ra, rp, nb, cc, cp) hi sc pl (dr.1, (dr.2.1.1, (dr.2.1.2.1.1 ||| pmk 109 (fun x => bt tp.1 (q + x)) w wn w, dr.2.1.2.1.2.1 ||| pmk 115 (fun x => bt tp.1 (q + x)) w wn w, nI (wn + 1)), dr.2.1.2.2), dr.2.2.1, dr.2.2.2.1, dr.2.2.2.2) wa wb rc))) (fun k => by
          rw [qX4_readRow_48_w, if_pos (nI_le (Nat.le_refl _) (by omega))]
          dsimp only
          rw [hlC, nI_1, qX4_readRow_137_w (h := k1)])
        have hml := m_cells (o := o) (th := th) (mtr := mtr) (wh := wh) (ta := ta) (mo := mo) (sd := sd) (ac := ac) (mk := mk) (mq := mq) (ma := ma) (re := re) (mfa := mfa) (wr := wr) H 1 (u := u) (q := q) (w := w) (l := wn) (x0 := w) N.1.1 w8 (by omega) (Nat.le_refl _) hSP T.over hok (R := some (MM o (th, mtr, wh, ta, mfa, mo, sd, ac, mk) (mU mq n u2 wr (pmk 109 (fun x => bt tp.1 (q + x)) w wn w) (pmk 115 (fun x => bt tp.1 (q + x)) w wn w)) (mAq ma SP2) re)) (fun k => by
          rw [qX12_readCells_54_m, N.1.1, if_pos (nI_le (Nat.le_refl _) (by omega)), ← N.1.1, qX12_readCells_166_m (h := k2)])
        rw [← hlM] at hml
        apply LOut.ok T2 A2
        · rw [hcc, hcl]
        · rw [qX12_readWant_41_m (h := hmm.trans hml), if_neg T2.over, hlM, nI_1]
        · exact ⟨w, h, du, pa, sh, gc, hc, wc, ro, wn + 1, mn, ⟨W, G, N, ⟨congrArg (· ||| _) P.1, congrArg (· ||| _) P.2.1, P.2.2.1, P.2.2.2.1, Sub_orL P.2.2.2.2.1 (pmk_sub 109 (fun x => bt tp.1 (q + x)) hlh hn.1 w (Nat.le_refl _)), Sub_orL P.2.2.2.2.2.1 (pmk_sub 115 (fun x => bt tp.1 (q + x)) hlh hn.1 w (Nat.le_refl _)), P.2.2.2.2.2.2.1, P.2.2.2.2.2.2.2⟩, GA, NO, HE, WK⟩, X0, X1, ⟨by omega, rfl, rfl⟩, X3, X4⟩
      · have hcl := c_cells_w (mz := mz) (ra := ra) (rp := rp) (nb := nb) (cc := cc) (cp := cp) (hi := hi) (sc := sc) (pl := pl) (dr := dr) (wa := wa) (wb := wb) (rc := rc) H 1 (t := t) (q := q) (w := w) (l := wn) (x0 := x0) g1 G.1 hlC w8 (by omega) (by omega) hok (R := some (false, (CH mz tp (tC n t) (7, t.2.2.1, nb, cc, cp) hi sc pl (dr.1, (dr.2.1.1, (dr.2.1.2.1.1 ||| pmk 109 (fun x => bt tp.1 (q + x)) w wn x0, dr.2.1.2.1.2.1 ||| pmk 115 (fun x => bt tp.1 (q + x)) w wn x0, dr.2.1.2.1.2.2), dr.2.1.2.2), dr.2.2.1, dr.2.2.2.1, dr.2.2.2.2) wa wb rc))) (fun k => by
          have hb := bt_lt tp.1 (q + x0)
          have hlet := c_letter (mz := mz) (ra := ra) (rp := rp) (nb := nb) (cc := cc) (cp := cp) (hi := hi) (sc := sc) (pl := pl) (dr := (dr.1, (dr.2.1.1, (dr.2.1.2.1.1 ||| pmk 109 (fun x => bt tp.1 (q + x)) w wn x0, dr.2.1.2.1.2.1 ||| pmk 115 (fun x => bt tp.1 (q + x)) w wn x0, dr.2.1.2.1.2.2), dr.2.1.2.2), dr.2.2.1, dr.2.2.2.1, dr.2.2.2.2)) (wa := wa) (wb := wb) (rc := rc) (x := x0) H g1 (by omega)
          rw [qX4_readRow_48_w, if_le (by omega) (by omega), if_neg (by omega), qX4_readRow_61_w (h := hlet), show (109 : Int32) = nI 109 from rfl, show (115 : Int32) = nI 115 from rfl, show (97 : Int32) = nI 97 from rfl, if_eq (by omega) (by omega), if_eq (by omega) (by omega), if_eq (by omega) (by omega), if_neg (fun h => hbad (Or.inl h)), if_neg (fun h => hbad (Or.inr (Or.inl h)))]
          by_cases hz : (1 : Int32) = 0
          · rw [if_pos hz]
          · rw [if_neg hz, if_neg (fun h => hbad (Or.inr (Or.inr ⟨hz, h⟩)))])
        obtain ⟨rm2, rs2, hml⟩ := m_cellsB (o := o) (th := th) (mtr := mtr) (wh := wh) (ta := ta) (mo := mo) (sd := sd) (ac := ac) (mk := mk) (mq := mq) (ma := ma) (re := re) (mfa := mfa) (wr := wr) H 1 (u := u) (q := q) (w := w) (l := wn) (x0 := x0) N.1.1 w8 (by omega) hx0 hSP T.over hok hbad
        rw [T.pc, ← hlM] at hml
        refine Or.inr ⟨7, t.2.2.1, nb, cc, cp, t, ov u, SP, _, rm2, rs2, by decide, rfl, hcc.trans hcl, ?_⟩
        rw [qX12_readWant_41_m (h := hmm.trans hml), if_pos rfl]
    · rw [if_neg hL] at hcc hmm
      have hfl := t_flaw (o := o) (th := th) (mtr := mtr) (wh := wh) (ta := ta) (mo := mo) (sd := sd) (ac := ac) (mk := mk) (mq := mq) (ma := ma) (re := re) (mfa := mfa) (wr := wr) (rm := 0) (rs := 0) (SP := SP) (n := n) T.over 7
      have hml : EX12_readCells [.ref 0, .int re.1.2.2.2.2.2.2.1, .int 1] (MM o (th, mtr, wh, ta, mfa, mo, sd, ac, mk) (mU mq n u wr rm rs) (mAq ma SP) re) = some (MM o (th, mtr, wh, ta, 7, mo, sd, ac, mk) (mU mq n (ov u) t.2.2.1 0 0) (mAq ma SP) re) := by
        rw [hmm, ← T.pc, qX12_readCells_49_m (h := hfl)]
        refine lp_run (fun _ => [(0, .ref 0), (1, .int re.1.2.2.2.2.2.2.1), (2, .int 1), (3, .int 0)]) (fun _ => (MM o (th, mtr, wh, ta, 7, mo, sd, ac, mk) (mU mq n (ov u) u.2.2.1 0 0) (mAq ma SP) re)) (t := 0) (by have := FU_ge; omega) (fun j hj => by omega) (fun k => ?_)
        rw [qX12_readCells_54_m, qX12_readCells_166_m (h := o_go rfl), if_pos rfl]
        split <;> rfl
      refine Or.inr ⟨7, t.2.2.1, nb, cc, cp, t, ov u, SP, dr, 0, 0, by decide, rfl, hcc, ?_⟩
      rw [qX12_readWant_41_m (h := hml), if_pos rfl]
  · have hfl := t_flaw (o := o) (th := th) (mtr := mtr) (wh := wh) (ta := ta) (mo := mo) (sd := sd) (ac := ac) (mk := mk) (mq := mq) (ma := ma) (re := re) (mfa := mfa) (wr := wr) (rm := 0) (rs := 0) (SP := SP) (n := n) T.over 1
    refine Or.inr ⟨1, t.2.2.1, nb, cc, cp, t, ov u, SP, dr, 0, 0, by decide, rfl, ?_, ?_⟩
    · rw [eX4_readRow_s_w, qX4_readRow_0_w, if_neg hk]
    · have hml : EX12_readCells [.ref 0, .int re.1.2.2.2.2.2.2.1, .int 1] (MM o (th, mtr, wh, ta, mfa, mo, sd, ac, mk) (mU mq n u wr rm rs) (mAq ma SP) re) = some (MM o (th, mtr, wh, ta, 1, mo, sd, ac, mk) (mU mq n (ov u) t.2.2.1 0 0) (mAq ma SP) re) := by
        rw [← T.pc, eX12_readCells_s_m, qX12_readCells_0_m, if_neg (fun h => hk (T.k1.mpr h)), qX12_readCells_20_m (h := hfl), qX12_readCells_23_m, if_pos rfl]
      rw [qX12_readWant_41_m (h := hml), if_pos rfl]

theorem l_row_m (H : Ctx tp ma m n) (T : Tk (bt tp.1) n e t u SP) (D : D1 dr re) (hr : ¬ dr.1.2.2.1 ≤ dr.2.1.2.2.2.2) : LOut tp n e (fun t_ a_ b_ c_ d_ e_ dr_ => CH mz tp (tC n t_) (a_, b_, c_, d_, e_) hi sc pl dr_ wa wb rc) (fun f_ u_ w_ rm_ rs_ SP_ re_ => MM o (th, mtr, wh, ta, f_, mo, sd, ac, mk) (mU mq n u_ w_ rm_ rs_) (mAq ma SP_) re_) ra rp mfa wr re (EX4_readRow [.ref 3, .ref 29, .ref 34, .int 1] (CH mz tp (tC n t) (ra, rp, nb, cc, cp) hi sc pl dr wa wb rc)) (BX12_readMoon_41 [(0, .ref 0)] [.int 1, .int re.1.2.2.2.2.2.2.2.1, .ref 0] (MM o (th, mtr, wh, ta, mfa, mo, sd, ac, mk) (mU mq n u wr rm rs) (mAq ma SP) re)) := by
  obtain ⟨w, h, du, pa, sh, gc, hc, wc, ro, wn, mn, ⟨W, G, N, P, GA, NO, HE, WK⟩, X⟩ := D
  obtain ⟨X0, X1, X2, X3, X4⟩ := X
  have hn := W.n
  obtain ⟨w2, w8, h2, h6⟩ := id W
  have hlC := X3.2.1
  have hlM := X3.2.2
  have hlh : mn < h := by
    rw [G.2.1, hlC] at hr
    by_cases h9 : h ≤ mn
    · exact absurd (nI_le h9 (by have := X3.1; omega)) hr
    · omega
  by_cases hk : t.2.1 = 1
  · obtain ⟨q, g1, g2, g3, g4, g5, g6, g7, g8⟩ := T.w1 hk
    have hs : nI e - nI q = nI (e - q) := by
      have := nI_add (e - q) q
      rw [show e - q + q = e by omega] at this
      rw [← this, Int32.add_sub_cancel]
    have hE := T.e
    have hn900 : n ≤ 900 := by have := H.1; have := H.2.2.1; omega
    have hcc : EX4_readRow [.ref 3, .ref 29, .ref 34, .int 1] (CH mz tp (tC n t) (ra, rp, nb, cc, cp) hi sc pl dr wa wb rc) = (if e - q = w then lp (BX4_readRow_48) FU [(0, .ref 3), (1, .ref 29), (2, .ref 34), (3, .int 1), (4, .int (nI w)), (5, .int 0)] [] (CH mz tp (tC n t) (ra, rp, nb, cc, cp) hi sc pl dr wa wb rc) else some (false, (CH mz tp (tC n t) (7, t.2.2.1, nb, cc, cp) hi sc pl dr wa wb rc))) := by
      rw [eX4_readRow_s_m, qX4_readRow_0_m, if_pos hk]
      rw [show t.1 - t.2.2.1 = nI (e - q) by rw [hE.1, g1, hs], G.1, if_eq (by omega) (by omega)]
    have hmm : EX12_readCells [.ref 0, .int re.1.2.2.2.2.2.2.2.1, .int 1] (MM o (th, mtr, wh, ta, mfa, mo, sd, ac, mk) (mU mq n u wr rm rs) (mAq ma SP) re) = (if e - q = w then lp (BX12_readCells_54) FU [(0, .ref 0), (1, .int re.1.2.2.2.2.2.2.2.1), (2, .int 1), (3, .int 0)] [] (MM o (th, mtr, wh, ta, mfa, mo, sd, ac, mk) (mU mq n u wr 0 0) (mAq ma SP) re) else BX12_readCells_49 [(0, .ref 0), (1, .int re.1.2.2.2.2.2.2.2.1), (2, .int 1)] [.int 7, .ref 0] (MM o (th, mtr, wh, ta, mfa, mo, sd, ac, mk) (mU mq n u wr 0 0) (mAq ma SP) re)) := by
      rw [eX12_readCells_s_m, qX12_readCells_0_m, if_pos (T.k1.mp hk), qX12_readCells_23_m, if_neg T.over, g4, N.1.1, if_eq (by omega) (by omega), ← N.1.1, ← g4]
    by_cases hL : e - q = w
    · rw [if_pos hL] at hcc hmm
      have hSP : ∀ i, i < w → SP i = nI (bt tp.1 (q + i)) := fun i hi => g8 i (by omega)
      rcases row_first 1 (fun x => bt tp.1 (q + x)) w with hok | ⟨x0, hx0, hok, hbad⟩
      · obtain ⟨e2, t2, u2, SP2, T2, A2, k1, k2⟩ := t_go (mz := mz) (ra := ra) (rp := rp) (nb := nb) (cc := cc) (cp := cp) (hi := hi) (sc := sc) (pl := pl) (dr := (dr.1, (dr.2.1.1, dr.2.1.2.1, (dr.2.1.2.2.1 ||| pmk 109 (fun x => bt tp.1 (q + x)) w mn w, dr.2.1.2.2.2.1 ||| pmk 115 (fun x => bt tp.1 (q + x)) w mn w, nI (mn + 1))), dr.2.2.1, dr.2.2.2.1, dr.2.2.2.2)) (wa := wa) (wb := wb) (rc := rc) (o := o) (th := th) (mtr := mtr) (wh := wh) (ta := ta) (mfa := mfa) (mo := mo) (sd := sd) (ac := ac) (mk := mk) (mq := mq) (wr := wr) (rm := pmk 109 (fun x => bt tp.1 (q + x)) w mn w) (rs := pmk 115 (fun x => bt tp.1 (q + x)) w mn w) (ma := ma) (re := re) (SP := SP) H T.e.2 T.e.1 (T.sp (Or.inl hk)) T.over
        have hcl := c_cells_m (mz := mz) (ra := ra) (rp := rp) (nb := nb) (cc := cc) (cp := cp) (hi := hi) (sc := sc) (pl := pl) (dr := dr) (wa := wa) (wb := wb) (rc := rc) H 1 (t := t) (q := q) (w := w) (l := mn) (x0 := w) g1 G.1 hlC w8 (by omega) (Nat.le_refl _) hok (R := some (true, (CH mz tp (tC n t2) (ra, rp, nb, cc, cp) hi sc pl (dr.1, (dr.2.1.1, dr.2.1.2.1, (dr.2.1.2.2.1 ||| pmk 109 (fun x => bt tp.1 (q + x)) w mn w, dr.2.1.2.2.2.1 ||| pmk 115 (fun x => bt tp.1 (q + x)) w mn w, nI (mn + 1))), dr.2.2.1, dr.2.2.2.1, dr.2.2.2.2) wa wb rc))) (fun k => by
          rw [qX4_readRow_48_m, if_pos (nI_le (Nat.le_refl _) (by omega))]
          dsimp only
          rw [hlC, nI_1, qX4_readRow_137_m (h := k1)])
        have hml := m_cells (o := o) (th := th) (mtr := mtr) (wh := wh) (ta := ta) (mo := mo) (sd := sd) (ac := ac) (mk := mk) (mq := mq) (ma := ma) (re := re) (mfa := mfa) (wr := wr) H 1 (u := u) (q := q) (w := w) (l := mn) (x0 := w) N.1.1 w8 (by omega) (Nat.le_refl _) hSP T.over hok (R := some (MM o (th, mtr, wh, ta, mfa, mo, sd, ac, mk) (mU mq n u2 wr (pmk 109 (fun x => bt tp.1 (q + x)) w mn w) (pmk 115 (fun x => bt tp.1 (q + x)) w mn w)) (mAq ma SP2) re)) (fun k => by
          rw [qX12_readCells_54_m, N.1.1, if_pos (nI_le (Nat.le_refl _) (by omega)), ← N.1.1, qX12_readCells_166_m (h := k2)])
        rw [← hlM] at hml
        apply LOut.ok T2 A2
        · rw [hcc, hcl]
        · rw [qX12_readMoon_41_m (h := hmm.trans hml), if_neg T2.over, hlM, nI_1]
        · exact ⟨w, h, du, pa, sh, gc, hc, wc, ro, wn, mn + 1, ⟨W, G, N, ⟨P.1, P.2.1, congrArg (· ||| _) P.2.2.1, congrArg (· ||| _) P.2.2.2.1, P.2.2.2.2.1, P.2.2.2.2.2.1, Sub_orL P.2.2.2.2.2.2.1 (pmk_sub 109 (fun x => bt tp.1 (q + x)) hlh hn.1 w (Nat.le_refl _)), Sub_orL P.2.2.2.2.2.2.2 (pmk_sub 115 (fun x => bt tp.1 (q + x)) hlh hn.1 w (Nat.le_refl _))⟩, GA, NO, HE, WK⟩, X0, X1, X2, ⟨by omega, rfl, rfl⟩, X4⟩
      · have hcl := c_cells_m (mz := mz) (ra := ra) (rp := rp) (nb := nb) (cc := cc) (cp := cp) (hi := hi) (sc := sc) (pl := pl) (dr := dr) (wa := wa) (wb := wb) (rc := rc) H 1 (t := t) (q := q) (w := w) (l := mn) (x0 := x0) g1 G.1 hlC w8 (by omega) (by omega) hok (R := some (false, (CH mz tp (tC n t) (7, t.2.2.1, nb, cc, cp) hi sc pl (dr.1, (dr.2.1.1, dr.2.1.2.1, (dr.2.1.2.2.1 ||| pmk 109 (fun x => bt tp.1 (q + x)) w mn x0, dr.2.1.2.2.2.1 ||| pmk 115 (fun x => bt tp.1 (q + x)) w mn x0, dr.2.1.2.2.2.2)), dr.2.2.1, dr.2.2.2.1, dr.2.2.2.2) wa wb rc))) (fun k => by
          have hb := bt_lt tp.1 (q + x0)
          have hlet := c_letter (mz := mz) (ra := ra) (rp := rp) (nb := nb) (cc := cc) (cp := cp) (hi := hi) (sc := sc) (pl := pl) (dr := (dr.1, (dr.2.1.1, dr.2.1.2.1, (dr.2.1.2.2.1 ||| pmk 109 (fun x => bt tp.1 (q + x)) w mn x0, dr.2.1.2.2.2.1 ||| pmk 115 (fun x => bt tp.1 (q + x)) w mn x0, dr.2.1.2.2.2.2)), dr.2.2.1, dr.2.2.2.1, dr.2.2.2.2)) (wa := wa) (wb := wb) (rc := rc) (x := x0) H g1 (by omega)
          rw [qX4_readRow_48_m, if_le (by omega) (by omega), if_neg (by omega), qX4_readRow_61_m (h := hlet), show (109 : Int32) = nI 109 from rfl, show (115 : Int32) = nI 115 from rfl, show (97 : Int32) = nI 97 from rfl, if_eq (by omega) (by omega), if_eq (by omega) (by omega), if_eq (by omega) (by omega), if_neg (fun h => hbad (Or.inl h)), if_neg (fun h => hbad (Or.inr (Or.inl h)))]
          by_cases hz : (1 : Int32) = 0
          · rw [if_pos hz]
          · rw [if_neg hz, if_neg (fun h => hbad (Or.inr (Or.inr ⟨hz, h⟩)))])
        obtain ⟨rm2, rs2, hml⟩ := m_cellsB (o := o) (th := th) (mtr := mtr) (wh := wh) (ta := ta) (mo := mo) (sd := sd) (ac := ac) (mk := mk) (mq := mq) (ma := ma) (re := re) (mfa := mfa) (wr := wr) H 1 (u := u) (q := q) (w := w) (l := mn) (x0 := x0) N.1.1 w8 (by omega) hx0 hSP T.over hok hbad
        rw [T.pc, ← hlM] at hml
        refine Or.inr ⟨7, t.2.2.1, nb, cc, cp, t, ov u, SP, _, rm2, rs2, by decide, rfl, hcc.trans hcl, ?_⟩
        rw [qX12_readMoon_41_m (h := hmm.trans hml), if_pos rfl]
    · rw [if_neg hL] at hcc hmm
      have hfl := t_flaw (o := o) (th := th) (mtr := mtr) (wh := wh) (ta := ta) (mo := mo) (sd := sd) (ac := ac) (mk := mk) (mq := mq) (ma := ma) (re := re) (mfa := mfa) (wr := wr) (rm := 0) (rs := 0) (SP := SP) (n := n) T.over 7
      have hml : EX12_readCells [.ref 0, .int re.1.2.2.2.2.2.2.2.1, .int 1] (MM o (th, mtr, wh, ta, mfa, mo, sd, ac, mk) (mU mq n u wr rm rs) (mAq ma SP) re) = some (MM o (th, mtr, wh, ta, 7, mo, sd, ac, mk) (mU mq n (ov u) t.2.2.1 0 0) (mAq ma SP) re) := by
        rw [hmm, ← T.pc, qX12_readCells_49_m (h := hfl)]
        refine lp_run (fun _ => [(0, .ref 0), (1, .int re.1.2.2.2.2.2.2.2.1), (2, .int 1), (3, .int 0)]) (fun _ => (MM o (th, mtr, wh, ta, 7, mo, sd, ac, mk) (mU mq n (ov u) u.2.2.1 0 0) (mAq ma SP) re)) (t := 0) (by have := FU_ge; omega) (fun j hj => by omega) (fun k => ?_)
        rw [qX12_readCells_54_m, qX12_readCells_166_m (h := o_go rfl), if_pos rfl]
        split <;> rfl
      refine Or.inr ⟨7, t.2.2.1, nb, cc, cp, t, ov u, SP, dr, 0, 0, by decide, rfl, hcc, ?_⟩
      rw [qX12_readMoon_41_m (h := hml), if_pos rfl]
  · have hfl := t_flaw (o := o) (th := th) (mtr := mtr) (wh := wh) (ta := ta) (mo := mo) (sd := sd) (ac := ac) (mk := mk) (mq := mq) (ma := ma) (re := re) (mfa := mfa) (wr := wr) (rm := 0) (rs := 0) (SP := SP) (n := n) T.over 1
    refine Or.inr ⟨1, t.2.2.1, nb, cc, cp, t, ov u, SP, dr, 0, 0, by decide, rfl, ?_, ?_⟩
    · rw [eX4_readRow_s_m, qX4_readRow_0_m, if_neg hk]
    · have hml : EX12_readCells [.ref 0, .int re.1.2.2.2.2.2.2.2.1, .int 1] (MM o (th, mtr, wh, ta, mfa, mo, sd, ac, mk) (mU mq n u wr rm rs) (mAq ma SP) re) = some (MM o (th, mtr, wh, ta, 1, mo, sd, ac, mk) (mU mq n (ov u) t.2.2.1 0 0) (mAq ma SP) re) := by
        rw [← T.pc, eX12_readCells_s_m, qX12_readCells_0_m, if_neg (fun h => hk (T.k1.mpr h)), qX12_readCells_20_m (h := hfl), qX12_readCells_23_m, if_pos rfl]
      rw [qX12_readMoon_41_m (h := hml), if_pos rfl]
end
