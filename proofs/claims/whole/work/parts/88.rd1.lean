/-! Lines: noise, gate, heard. -/
def DX (dr : PlS) (re : MeS) (n h ro wn mn wc : Nat) : Prop := (dr.2.1.1.1 = re.2.1.1 ∧ Sub dr.2.1.1.1 n) ∧ (ro ≤ h ∧ dr.2.1.1.2.2 = nI ro ∧ re.1.2.2.2.2.2.1 = nI ro) ∧ (wn ≤ h ∧ dr.2.1.2.1.2.2 = nI wn ∧ re.1.2.2.2.2.2.2.1 = nI wn) ∧ (mn ≤ h ∧ dr.2.1.2.2.2.2 = nI mn ∧ re.1.2.2.2.2.2.2.2.1 = nI mn) ∧ ∀ i, i < wc → (dr.2.2.2.1 i).1 = re.2.2.2.2.2.2.2.2.2 i
def D1 (dr : PlS) (re : MeS) : Prop := ∃ w h du pa sh gc hc wc ro wn mn, PlRel dr re w h du pa sh gc hc wc ∧ DX dr re (w * h) h ro wn mn wc
/-- what a line comes to: both go on, or both stop at the same fault -/
def LOut (tp : TpS) (n e : Nat) (fc : TT → Int32 → Int32 → Int32 → Int32 → Int32 → PlS → HP) (fm : Int32 → UU → Int32 → Int64 → Int64 → (Nat → Int32) → MeS → HP) (ra rp mfa wr : Int32) (re : MeS) (c : Option (Bool × HP)) (mm : Option HP) : Prop :=
  (∃ e2 t2 u2 SP2 dr2 re2 rm2 rs2 nb2 cc2 cp2, Tk (bt tp.1) n e2 t2 u2 SP2 ∧ Af e e2 t2 ∧ D1 dr2 re2 ∧ c = some (true, fc t2 ra rp nb2 cc2 cp2 dr2) ∧ mm = some (fm mfa u2 wr rm2 rs2 SP2 re2)) ∨
  (∃ f w nb2 cc2 cp2 t2 u2 SP2 dr2 rm2 rs2, 0 < f ∧ u2.2.1 = 5 ∧ c = some (false, fc t2 f w nb2 cc2 cp2 dr2) ∧ mm = some (fm f u2 w rm2 rs2 SP2 re))
theorem LOut.ok {tp : TpS} {n e : Nat} {fc : TT → Int32 → Int32 → Int32 → Int32 → Int32 → PlS → HP} {fm : Int32 → UU → Int32 → Int64 → Int64 → (Nat → Int32) → MeS → HP} {ra rp mfa wr : Int32} {re : MeS} {c : Option (Bool × HP)} {mm : Option HP} {e2 : Nat} {t2 : TT} {u2 : UU} {SP2 : Nat → Int32} {dr2 : PlS} {re2 : MeS} {rm2 rs2 : Int64} {nb2 cc2 cp2 : Int32} (T2 : Tk (bt tp.1) n e2 t2 u2 SP2) (A2 : Af e e2 t2) (hc : c = some (true, fc t2 ra rp nb2 cc2 cp2 dr2)) (hm : mm = some (fm mfa u2 wr rm2 rs2 SP2 re2)) (D : D1 dr2 re2) : LOut tp n e fc fm ra rp mfa wr re c mm :=
  Or.inl ⟨e2, t2, u2, SP2, dr2, re2, rm2, rs2, nb2, cc2, cp2, T2, A2, D, hc, hm⟩
theorem cell_of {w h : Nat} (H : WH w h) {x y : Int32} (h1 : 0 ≤ x) (h2 : x ≤ nI w - 1) (h3 : 0 ≤ y) (h4 : y ≤ nI h - 1) : ∃ c, c < w * h ∧ nI w * y + x = nI c := by
  obtain ⟨g1, g2, g3, g4⟩ := H
  rw [nI_s1 (by omega)] at h2 h4
  obtain ⟨i, hi, rfl⟩ := nI_of (Int32.not_lt.mpr h1)
  obtain ⟨j, hj, rfl⟩ := nI_of (Int32.not_lt.mpr h3)
  have i1 := (nI_leI hi (by omega)).mp h2
  have j1 := (nI_leI hj (by omega)).mp h4
  refine ⟨w * j + i, ?_, by rw [pk_mul, nI_add]⟩
  have : w * (j + 1) ≤ w * h := Nat.mul_le_mul_left w (by omega)
  rw [Nat.mul_succ] at this
  omega
theorem D1.w {dr : PlS} {re : MeS} (D : D1 dr re) : dr.1.2.1 = re.1.1 ∧ dr.1.2.2.1 = re.1.2.1 ∧ ¬ re.1.1 = 0 ∧ ¬ dr.1.2.2.2.1 ≤ 0 := by
  obtain ⟨w, h, du, pa, sh, gc, hc, wc, ro, wn, mn, ⟨H, G, N, _⟩, _⟩ := D
  have hn := H.n
  refine ⟨by rw [G.1, N.1.1], by rw [G.2.1, N.1.2], ?_, ?_⟩
  · rw [N.1.1]; exact nI_ne0 (by have := H.1; omega) (by have := H.2.1; omega)
  · rw [G.2.2.1]; exact nI_nle (by omega) (by omega)
section
variable {mz : MzS} {tp : TpS} {ra rp nb cc cp : Int32} {hi : HiS} {sc : ScS} {pl dr : PlS} {wa wb : WaS} {rc : Nat → Int32} {o : Option MeS} {th mtr wh ta mfa : Int32} {mo : Int64} {sd ac mk : Int32} {mq : MsS} {wr : Int32} {rm rs : Int64} {ma : MaS} {SP : Nat → Int32} {re : MeS} {m n e : Nat} {t : TT} {u : UU}
theorem l_noise (H : Ctx tp ma m n) (T : Tk (bt tp.1) n e t u SP) (D : D1 dr re) : LOut tp n e (fun t_ a_ b_ c_ d_ e_ dr_ => CH mz tp (tC n t_) (a_, b_, c_, d_, e_) hi sc pl dr_ wa wb rc) (fun f_ u_ w_ rm_ rs_ SP_ re_ => MM o (th, mtr, wh, ta, f_, mo, sd, ac, mk) (mU mq n u_ w_ rm_ rs_) (mAq ma SP_) re_) ra rp mfa wr re (EX4_readNoise [.ref 3, .ref 29] (CH mz tp (tC n t) (ra, rp, nb, cc, cp) hi sc pl dr wa wb rc)) (BX12_readNoise_24 [(0, .ref 0)] [.ref 0] (MM o (th, mtr, wh, ta, mfa, mo, sd, ac, mk) (mU mq n u wr rm rs) (mAq ma SP) re)) := by
  rcases t_cell (mz := mz) (ra := ra) (rp := rp) (nb := nb) (cc := cc) (cp := cp) (hi := hi) (sc := sc) (pl := pl) (dr := dr) (wa := wa) (wb := wb) (rc := rc) (o := o) (th := th) (mtr := mtr) (wh := wh) (ta := ta) (mfa := mfa) (mo := mo) (sd := sd) (ac := ac) (mk := mk) (mq := mq) (wr := wr) (rm := rm) (rs := rs) (ma := ma) (re := re) H T D.w.1 D.w.2.1 with ⟨x, y, p, e2, t2, u2, SP2, x1, x2, y1, y2, T2, A2, g1, g2⟩ | ⟨f, w, nb2, cc2, cp2, t2, u2, SP2, hf, h5, g1, v, g2⟩
  · obtain ⟨w, h, du, pa, sh, gc, hc, wc, ro, wn, mn, ⟨W, G, N, P, GA, NO, HE, WK⟩, X⟩ := D
    rw [N.1.1] at x2
    rw [N.1.2] at y2
    obtain ⟨c, hc1, hc2⟩ := cell_of W x1 x2 y1 y2
    rw [← N.1.1] at hc2
    apply LOut.ok T2 A2
    · rw [eX4_readNoise_s, qX4_readNoise_0, qX4_readNoise_5 (h := g1), if_b2i, if_pos rfl]
    · rw [qX12_readNoise_24_m (h := g2), if_neg T2.over]
    · exact ⟨w, h, du, pa, sh, gc, hc, wc, ro, wn, mn, ⟨W, G, N, P, GA, ⟨rfl, Or.inr ⟨c, hc1, hc2⟩⟩, HE, WK⟩, X⟩
  · refine Or.inr ⟨f, w, nb2, cc2, cp2, t2, u2, SP2, dr, rm, rs, hf, h5, ?_, ?_⟩
    · rw [eX4_readNoise_s, qX4_readNoise_0, qX4_readNoise_5 (h := g1), if_b2i, if_neg (by decide)]
    · rw [qX12_readNoise_24_m (h := g2), if_pos h5]
theorem l_heard (H : Ctx tp ma m n) (T : Tk (bt tp.1) n e t u SP) (D : D1 dr re) (hr : ¬ (5 : Int32) ≤ dr.2.2.2.2.2.2.2.2.2.2.1) : LOut tp n e (fun t_ a_ b_ c_ d_ e_ dr_ => CH mz tp (tC n t_) (a_, b_, c_, d_, e_) hi sc pl dr_ wa wb rc) (fun f_ u_ w_ rm_ rs_ SP_ re_ => MM o (th, mtr, wh, ta, f_, mo, sd, ac, mk) (mU mq n u_ w_ rm_ rs_) (mAq ma SP_) re_) ra rp mfa wr re (EX4_readHeard [.ref 3, .ref 29] (CH mz tp (tC n t) (ra, rp, nb, cc, cp) hi sc pl dr wa wb rc)) (BX12_readHeard_16 [(0, .ref 0)] [.int 60, .int 0, .ref 0] (MM o (th, mtr, wh, ta, mfa, mo, sd, ac, mk) (mU mq n u wr rm rs) (mAq ma SP) re)) := by
  rcases t_whole (mz := mz) (ra := ra) (rp := rp) (nb := nb) (cc := cc) (cp := cp) (hi := hi) (sc := sc) (pl := pl) (dr := dr) (wa := wa) (wb := wb) (rc := rc) (o := o) (th := th) (mtr := mtr) (wh := wh) (ta := ta) (mfa := mfa) (mo := mo) (sd := sd) (ac := ac) (mk := mk) (mq := mq) (wr := wr) (rm := rm) (rs := rs) (ma := ma) (re := re) H T 0 60 with ⟨v, e2, t2, u2, SP2, v1, v2, T2, A2, g1, g2, _⟩ | ⟨f, nb2, hf, g1, g2, _⟩
  · rcases t_word (mz := mz) (ra := ra) (rp := rp) (nb := v) (cc := cc) (cp := cp) (hi := hi) (sc := sc) (pl := pl) (dr := dr) (wa := wa) (wb := wb) (rc := rc) (o := o) (th := th) (mtr := mtr) (wh := wh) (ta := ta) (mfa := mfa) (mo := mo) (sd := sd) (ac := ac) (mk := mk) (mq := mq) (wr := wr) (rm := rm) (rs := rs) (ma := ma) (re := re) H T2 St_6 St_25 (by decide) (by unfold Lt; decide) with ⟨e3, t3, u3, SP3, T3, A3, k1, k2⟩ | ⟨k1, k2⟩
    · rcases t_cell (mz := mz) (ra := ra) (rp := rp) (nb := v) (cc := cc) (cp := cp) (hi := hi) (sc := sc) (pl := pl) (dr := dr) (wa := wa) (wb := wb) (rc := rc) (o := o) (th := th) (mtr := mtr) (wh := wh) (ta := ta) (mfa := mfa) (mo := mo) (sd := sd) (ac := ac) (mk := mk) (mq := mq) (wr := wr) (rm := rm) (rs := rs) (ma := ma) (re := re) H T3 D.w.1 D.w.2.1 with ⟨x, y, p, e4, t4, u4, SP4, x1, x2, y1, y2, T4, A4, j1, j2⟩ | ⟨f, w, nb2, cc2, cp2, t4, u4, SP4, hf, h5, j1, v, j2⟩
      · obtain ⟨w, h, du, pa, sh, gc, hc, wc, ro, wn, mn, ⟨W, G, N, P, GA, NO, HE, WK⟩, X⟩ := D
        rw [N.1.1] at x2
        rw [N.1.2] at y2
        obtain ⟨c, hc1, hc2⟩ := cell_of W x1 x2 y1 y2
        rw [← N.1.1] at hc2
        obtain ⟨s, hs, rfl⟩ := nI_of (Int32.not_lt.mpr v1)
        have hs60 : s ≤ 60 := (nI_leI hs (by omega)).mp (show nI s ≤ nI 60 from v2)
        obtain ⟨e1, e5, e6, e7⟩ := HE
        have hc5 : hc < 5 := by
          by_cases h9 : 5 ≤ hc
          · rw [e5] at hr
            exact absurd (show (5 : Int32) ≤ nI hc from nI_le (a := 5) h9 (by omega)) hr
          · omega
        have hin := nI_in (N := 5) hc5 (by omega)
        have A5 : Af e e4 t4 := ⟨by have := A2.1; have := A3.1; have := A4.1; omega, fun hh => by have := A4.2 hh; have := A2.1; have := A3.1; omega⟩
        have hadd : ∀ tk2 : TkS, EX3_addHeard [.ref 29, .int (nI s), .int (re.1.1 * y + x)] (CH mz tp tk2 (ra, rp, y, re.1.1 * y + x, p) hi sc pl dr wa wb rc) = some (CH mz tp tk2 (ra, rp, y, re.1.1 * y + x, p) hi sc pl (dr.1, dr.2.1, (dr.2.2.1.1, (upd dr.2.2.1.2.1 (nI hc).toNatClampNeg (re.1.1 * y + x)), (upd dr.2.2.1.2.2 (nI hc).toNatClampNeg (nI s))), dr.2.2.2.1, (dr.2.2.2.2.1, dr.2.2.2.2.2.1, dr.2.2.2.2.2.2.1, dr.2.2.2.2.2.2.2.1, dr.2.2.2.2.2.2.2.2.1, dr.2.2.2.2.2.2.2.2.2.1, nI hc + 1, dr.2.2.2.2.2.2.2.2.2.2.2)) wa wb rc) := fun tk2 => by
          rw [eX3_addHeard_s, qX3_addHeard_0, if_neg hr, if_neg hr, e5, if_neg hin, if_neg hin]
        apply LOut.ok T4 A5
        · rw [eX4_readHeard_s, qX4_readHeard_0, qX4_readHeard_4 (h := g1), if_b2i, if_pos rfl, qX4_readHeard_20 (h := k1), if_b2i, if_pos rfl, qX4_readHeard_31 (h := j1), if_b2i, if_pos rfl]
          rw [qX4_readHeard_45 (h := hadd _)]
        · rw [qX12_readHeard_16_m (h := g2), qX12_readHeard_24_m (h := k2), qX12_readHeard_28_m (h := j2), if_neg T4.over, e6, if_neg hin, if_neg hin]
        · refine ⟨w, h, du, pa, sh, gc, hc + 1, wc, ro, wn, mn, ⟨W, G, N, P, GA, NO, ⟨by omega, ?_, ?_, fun i hi => ?_⟩, WK⟩, X⟩
          · show nI hc + 1 = _; rw [nI_1]
          · show nI hc + 1 = _; rw [nI_1]
          · dsimp only
            rw [nI_clamp (by omega)]
            by_cases e8 : i = hc
            · subst e8
              exact ⟨c, s, hc1, hs60, by rw [pk_us, hc2], by rw [pk_us, hc2], pk_us, pk_us⟩
            · obtain ⟨c', s', q1, q2, q3, q4, q5, q6⟩ := e7 i (by omega)
              exact ⟨c', s', q1, q2, by rw [pk_un e8, q3], by rw [pk_un e8, q4], by rw [pk_un e8, q5], by rw [pk_un e8, q6]⟩
      · refine Or.inr ⟨f, w, nb2, cc2, cp2, t4, u4, SP4, dr, rm, rs, hf, h5, ?_, ?_⟩
        · rw [eX4_readHeard_s, qX4_readHeard_0, qX4_readHeard_4 (h := g1), if_b2i, if_pos rfl, qX4_readHeard_20 (h := k1), if_b2i, if_pos rfl, qX4_readHeard_31 (h := j1), if_b2i, if_neg (by decide)]
        · rw [qX12_readHeard_16_m (h := g2), qX12_readHeard_24_m (h := k2), qX12_readHeard_28_m (h := j2), if_pos h5]
    · obtain ⟨z, hz⟩ := o_cell (o := o) (th := th) (mtr := mtr) (wh := wh) (ta := ta) (mo := mo) (sd := sd) (ac := ac) (mk := mk) (mq := mq) (rm := rm) (rs := rs) (ma := ma) (re := re) (n := n) (SP := SP2) (mfa := 1) (wr := t2.2.2.1) (u := ov u2) rfl
      refine Or.inr ⟨1, t2.2.2.1, v, cc, cp, t2, ov u2, SP2, dr, rm, rs, by decide, rfl, ?_, ?_⟩
      · rw [eX4_readHeard_s, qX4_readHeard_0, qX4_readHeard_4 (h := g1), if_b2i, if_pos rfl, qX4_readHeard_20 (h := k1), if_b2i, if_neg (by decide)]
      · rw [qX12_readHeard_16_m (h := g2), qX12_readHeard_24_m (h := k2), qX12_readHeard_28_m (h := hz), if_pos rfl]
  · obtain ⟨z, hz⟩ := o_cell (o := o) (th := th) (mtr := mtr) (wh := wh) (ta := ta) (mo := mo) (sd := sd) (ac := ac) (mk := mk) (mq := mq) (rm := rm) (rs := rs) (ma := ma) (re := re) (n := n) (SP := SP) (mfa := f) (wr := t.2.2.1) (u := ov u) rfl
    refine Or.inr ⟨f, t.2.2.1, nb2, cc, cp, t, ov u, SP, dr, rm, rs, hf, rfl, ?_, ?_⟩
    · rw [eX4_readHeard_s, qX4_readHeard_0, qX4_readHeard_4 (h := g1), if_b2i, if_neg (by decide)]
    · rw [qX12_readHeard_16_m (h := g2), qX12_readHeard_24_m (h := o_needs rfl), qX12_readHeard_28_m (h := hz), if_pos rfl]
theorem l_gate (H : Ctx tp ma m n) (T : Tk (bt tp.1) n e t u SP) (D : D1 dr re) (hr : ¬ (4 : Int32) ≤ dr.2.2.2.2.2.2.2.1) : LOut tp n e (fun t_ a_ b_ c_ d_ e_ dr_ => CH mz tp (tC n t_) (a_, b_, c_, d_, e_) hi sc pl dr_ wa wb rc) (fun f_ u_ w_ rm_ rs_ SP_ re_ => MM o (th, mtr, wh, ta, f_, mo, sd, ac, mk) (mU mq n u_ w_ rm_ rs_) (mAq ma SP_) re_) ra rp mfa wr re (EX4_readGate [.ref 3, .ref 29] (CH mz tp (tC n t) (ra, rp, nb, cc, cp) hi sc pl dr wa wb rc)) (BX12_readGate_23 [(0, .ref 0)] [.int (re.1.1 - 1), .int 0, .ref 0] (MM o (th, mtr, wh, ta, mfa, mo, sd, ac, mk) (mU mq n u wr rm rs) (mAq ma SP) re)) := by
  obtain ⟨hw, hh, _⟩ := D.w
  rcases t_whole (mz := mz) (ra := ra) (rp := rp) (nb := nb) (cc := cc) (cp := cp) (hi := hi) (sc := sc) (pl := pl) (dr := dr) (wa := wa) (wb := wb) (rc := rc) (o := o) (th := th) (mtr := mtr) (wh := wh) (ta := ta) (mfa := mfa) (mo := mo) (sd := sd) (ac := ac) (mk := mk) (mq := mq) (wr := wr) (rm := rm) (rs := rs) (ma := ma) (re := re) H T 0 (re.1.1 - 1) with ⟨x, e2, t2, u2, SP2, x1, x2, T2, A2, k1, k2, _⟩ | ⟨f, nb2, hf, k1, k2, _⟩
  · rcases t_sign (mz := mz) (ra := ra) (rp := rp) (nb := x) (cc := cc) (cp := cp) (hi := hi) (sc := sc) (pl := pl) (dr := dr) (wa := wa) (wb := wb) (rc := rc) (o := o) (th := th) (mtr := mtr) (wh := wh) (ta := ta) (mfa := mfa) (mo := mo) (sd := sd) (ac := ac) (mk := mk) (mq := mq) (wr := wr) (rm := rm) (rs := rs) (ma := ma) (re := re) H T2 44 with ⟨_, e3, t3, u3, SP3, T3, A3, j1, j2, _⟩ | ⟨j1, j2, _⟩
    · rcases t_whole (mz := mz) (ra := ra) (rp := rp) (nb := x) (cc := cc) (cp := t3.2.2.1) (hi := hi) (sc := sc) (pl := pl) (dr := dr) (wa := wa) (wb := wb) (rc := rc) (o := o) (th := th) (mtr := mtr) (wh := wh) (ta := ta) (mfa := mfa) (mo := mo) (sd := sd) (ac := ac) (mk := mk) (mq := mq) (wr := wr) (rm := rm) (rs := rs) (ma := ma) (re := re) H T3 0 (re.1.2.1 - 1) with ⟨y, e4, t4, u4, SP4, y1, y2, T4, A4, i1, _, i2, i3⟩ | ⟨f, nb2, hf, i1, _, i2⟩
      · have hcell : EX4_takeCell [.ref 3, .ref 30] (CH mz tp (tC n t) (ra, rp, nb, cc, cp) hi sc pl dr wa wb rc) = some (true, (CH mz tp (tC n t4) (ra, rp, y, re.1.1 * y + x, t3.2.2.1) hi sc pl dr wa wb rc)) := by
          rw [eX4_takeCell_s, qX4_takeCell_0, hw, qX4_takeCell_8 (h := k1), if_b2i, if_pos rfl, qX4_takeCell_24 (h := j1), if_b2i, if_pos rfl, hh, qX4_takeCell_51 (h := i1), if_b2i, if_pos rfl, hw]
        have A5 : Af e e4 t4 := ⟨by have := A2.1; have := A3.1; have := A4.1; omega, fun hh => by have := A4.2 hh; have := A2.1; have := A3.1; omega⟩
        obtain ⟨w, h, du, pa, sh, gc, hc, wc, ro, wn, mn, ⟨W, G, N, P, GA, NO, HE, WK⟩, X⟩ := D
        rw [N.1.1] at x2
        rw [N.1.2] at y2
        obtain ⟨c, hc1, hc2⟩ := cell_of W x1 x2 y1 y2
        rw [← N.1.1] at hc2
        have hn := W.n
        obtain ⟨e1, e5, e6, e7, e8, e9⟩ := GA
        have hg4 : gc < 4 := by
          by_cases h9 : 4 ≤ gc
          · rw [e5] at hr
            exact absurd (show (4 : Int32) ≤ nI gc from nI_le (a := 4) h9 (by omega)) hr
          · omega
        have hin := nI_in (N := 4) hg4 (by omega)
        have hm0 : BX12_readGate_23 [(0, .ref 0)] [.int (re.1.1 - 1), .int 0, .ref 0] (MM o (th, mtr, wh, ta, mfa, mo, sd, ac, mk) (mU mq n u wr rm rs) (mAq ma SP) re) = (if tb re.2.1.2.2.2.2.2 c = true then BX12_readGate_82 [(0, .ref 0), (2, .int (nI c))] [.int 3, .ref 0] (MM o (th, mtr, wh, ta, mfa, mo, sd, ac, mk) (mU mq n u3 wr rm rs) (mAq ma SP3) re) else BX12_readGate_85 [(0, .ref 0), (2, .int (nI c))] [] (MM o (th, mtr, wh, ta, mfa, mo, sd, ac, mk) (mU mq n u3 wr rm rs) (mAq ma SP3) re)) := by
          rw [qX12_readGate_23_m (h := k2), qX12_readGate_30_m (h := j2), qX12_readGate_51_m (h := i2), if_neg T3.over, hc2, qX12_readGate_74_m (h := e_has _ _ (by omega)), if_b2i]
        by_cases hb : tb re.2.1.2.2.2.2.2 c = true
        · refine Or.inr ⟨3, t3.2.2.1, y, re.1.1 * y + x, t3.2.2.1, t4, ov u3, SP3, dr, rm, rs, by decide, rfl, ?_, ?_⟩
          · rw [eX4_readGate_s, qX4_readGate_0, qX4_readGate_5 (h := hcell), if_b2i, if_pos rfl, hc2, qX4_readGate_21 (h := e_isIn _ _ (by omega)), if_b2i, e7, if_pos hb]
          · have hfl := t_flaw (o := o) (th := th) (mtr := mtr) (wh := wh) (ta := ta) (mfa := mfa) (mo := mo) (sd := sd) (ac := ac) (mk := mk) (mq := mq) (wr := wr) (rm := rm) (rs := rs) (ma := ma) (re := re) (SP := SP3) (n := n) T3.over 3
            rw [← T3.pc, hm0, if_pos hb, qX12_readGate_82_m (h := hfl), qX12_readGate_85_m, qX12_readGate_86_m (h := o_go rfl), if_pos rfl]
        · have hadd : ∀ tk2 : TkS, EX3_addGate [.ref 29, .int (nI c)] (CH mz tp tk2 (ra, rp, y, nI c, t3.2.2.1) hi sc pl dr wa wb rc) = some (CH mz tp tk2 (ra, rp, y, nI c, t3.2.2.1) hi sc pl (dr.1, dr.2.1, ((upd dr.2.2.1.1 gc (nI c)), dr.2.2.1.2.1, dr.2.2.1.2.2), dr.2.2.2.1, (dr.2.2.2.2.1, dr.2.2.2.2.2.1, dr.2.2.2.2.2.2.1, nI (gc + 1), dr.2.2.2.2.2.2.2.2.1 ||| (bitL (nI c)), dr.2.2.2.2.2.2.2.2.2.1, dr.2.2.2.2.2.2.2.2.2.2.1, dr.2.2.2.2.2.2.2.2.2.2.2)) wa wb rc) := fun tk2 => by
            rw [eX3_addGate_s, qX3_addGate_0, if_neg hr, e5, if_neg hin, nI_clamp (by omega), nI_1]
          apply LOut.ok T4 A5
          · rw [eX4_readGate_s, qX4_readGate_0, qX4_readGate_5 (h := hcell), if_b2i, if_pos rfl, hc2, qX4_readGate_21 (h := e_isIn _ _ (by omega)), if_b2i, e7, if_neg hb, qX4_readGate_42 (h := hadd _)]
          · rw [hm0, if_neg hb, qX12_readGate_85_m, qX12_readGate_86_m (h := i3), if_neg T4.over, e6, if_neg hin, nI_clamp (by omega), nI_1]
          · refine ⟨w, h, du, pa, sh, gc + 1, hc, wc, ro, wn, mn, ⟨W, G, N, P, ⟨by omega, rfl, rfl, ?_, fun i hi => ?_, fun k => ?_⟩, NO, HE, WK⟩, X⟩
            · show dr.2.2.2.2.2.2.2.2.1 ||| bitL (nI c) = re.2.1.2.2.2.2.2 ||| bitL (nI c)
              rw [e7]
            · dsimp only
              by_cases e10 : i = gc
              · subst e10
                exact ⟨c, hc1, pk_us, pk_us⟩
              · obtain ⟨c', q1, q2, q3⟩ := e8 i (by omega)
                exact ⟨c', q1, by rw [pk_un e10, q2], by rw [pk_un e10, q3]⟩
            · show tb (dr.2.2.2.2.2.2.2.2.1 ||| bitL (nI c)) k = true ↔ ∃ i, i < gc + 1 ∧ upd dr.2.2.1.1 gc (nI c) i = nI k ∧ k < w * h
              rw [tb_or, Bool.or_eq_true, e9, tb_bit c (by omega), decide_eq_true_iff]
              constructor
              · rintro (⟨i, q1, q2, q3⟩ | rfl)
                · exact ⟨i, by omega, by rw [pk_un (by omega), q2], q3⟩
                · exact ⟨gc, by omega, pk_us, hc1⟩
              · rintro ⟨i, q1, q2, q3⟩
                by_cases e10 : i = gc
                · subst e10
                  rw [pk_us] at q2
                  exact Or.inr ((nI_eq (by omega) (by omega)).mp q2).symm
                · rw [pk_un e10] at q2
                  exact Or.inl ⟨i, by omega, q2, q3⟩
      · refine Or.inr ⟨f, t3.2.2.1, nb2, cc, t3.2.2.1, t3, ov u3, SP3, dr, rm, rs, hf, rfl, ?_, ?_⟩
        · have hcell : EX4_takeCell [.ref 3, .ref 30] (CH mz tp (tC n t) (ra, rp, nb, cc, cp) hi sc pl dr wa wb rc) = some (false, (CH mz tp (tC n t3) (f, t3.2.2.1, nb2, cc, t3.2.2.1) hi sc pl dr wa wb rc)) := by
            rw [eX4_takeCell_s, qX4_takeCell_0, hw, qX4_takeCell_8 (h := k1), if_b2i, if_pos rfl, qX4_takeCell_24 (h := j1), if_b2i, if_pos rfl, hh, qX4_takeCell_51 (h := i1), if_b2i, if_neg (by decide)]
          rw [eX4_readGate_s, qX4_readGate_0, qX4_readGate_5 (h := hcell), if_b2i, if_neg (by decide)]
        · rw [qX12_readGate_23_m (h := k2), qX12_readGate_30_m (h := j2), qX12_readGate_51_m (h := i2), if_pos rfl, qX12_readGate_85_m, qX12_readGate_86_m (h := o_go rfl), if_pos rfl]
    · refine Or.inr ⟨1, t2.2.2.1, x, cc, cp, t2, ov u2, SP2, dr, rm, rs, by decide, rfl, ?_, ?_⟩
      · have hcell : EX4_takeCell [.ref 3, .ref 30] (CH mz tp (tC n t) (ra, rp, nb, cc, cp) hi sc pl dr wa wb rc) = some (false, (CH mz tp (tC n t2) (1, t2.2.2.1, x, cc, cp) hi sc pl dr wa wb rc)) := by
          rw [eX4_takeCell_s, qX4_takeCell_0, hw, qX4_takeCell_8 (h := k1), if_b2i, if_pos rfl, qX4_takeCell_24 (h := j1), if_b2i, if_neg (by decide)]
        rw [eX4_readGate_s, qX4_readGate_0, qX4_readGate_5 (h := hcell), if_b2i, if_neg (by decide)]
      · rw [qX12_readGate_23_m (h := k2), qX12_readGate_30_m (h := j2), qX12_readGate_51_m (h := o_bounded rfl 0 _), if_pos rfl, qX12_readGate_85_m, qX12_readGate_86_m (h := o_go rfl), if_pos rfl]
  · refine Or.inr ⟨f, t.2.2.1, nb2, cc, cp, t, ov u, SP, dr, rm, rs, hf, rfl, ?_, ?_⟩
    · have hcell : EX4_takeCell [.ref 3, .ref 30] (CH mz tp (tC n t) (ra, rp, nb, cc, cp) hi sc pl dr wa wb rc) = some (false, (CH mz tp (tC n t) (f, t.2.2.1, nb2, cc, cp) hi sc pl dr wa wb rc)) := by
        rw [eX4_takeCell_s, qX4_takeCell_0, hw, qX4_takeCell_8 (h := k1), if_b2i, if_neg (by decide)]
      rw [eX4_readGate_s, qX4_readGate_0, qX4_readGate_5 (h := hcell), if_b2i, if_neg (by decide)]
    · rw [qX12_readGate_23_m (h := k2), qX12_readGate_30_m (h := o_needsSign rfl 44), qX12_readGate_51_m (h := o_bounded rfl 0 _), if_pos rfl, qX12_readGate_85_m, qX12_readGate_86_m (h := o_go rfl), if_pos rfl]
end
