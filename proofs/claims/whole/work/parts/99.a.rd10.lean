/-! All lines. -/
/-- what the reading comes to -/
def ROut (tp : TpS) (n : Nat) (fc : TT → Int32 → Int32 → Int32 → Int32 → Int32 → PlS → HP) (fm : Int32 → UU → Int32 → Int64 → Int64 → (Nat → Int32) → MeS → HP) (ra rp mfa wr : Int32) (c : Option (Bool × HP)) (mm : Option HP) : Prop :=
  (∃ t2 u2 SP2 dr2 re2 rm2 rs2 nb2 cc2 cp2, D1 dr2 re2 ∧ c = some (true, fc t2 ra rp nb2 cc2 cp2 dr2) ∧ mm = some (fm mfa u2 wr rm2 rs2 SP2 re2)) ∨
  (∃ f w nb2 cc2 cp2 t2 u2 SP2 dr2 re2 rm2 rs2, 0 < f ∧ c = some (false, fc t2 f w nb2 cc2 cp2 dr2) ∧ mm = some (fm f u2 w rm2 rs2 SP2 re2))
section
variable {mz : MzS} {tp : TpS} {ra rp nb cc cp : Int32} {hi : HiS} {sc : ScS} {pl dr : PlS} {wa wb : WaS} {rc : Nat → Int32} {o : Option MeS} {th mtr wh ta mfa : Int32} {mo : Int64} {sd ac mk : Int32} {mq : MsS} {wr : Int32} {rm rs : Int64} {ma : MaS} {SP : Nat → Int32} {re : MeS} {m n e : Nat} {t : TT} {u : UU}
theorem o_all33 (h : u.2.1 = 5) : BX12_readAll_33 [(0, .ref 0)] [] (MM o (th, mtr, wh, ta, mfa, mo, sd, ac, mk) (mU mq n u wr rm rs) (mAq ma SP) re) = some (MM o (th, mtr, wh, ta, mfa, mo, sd, ac, mk) (mU mq n u wr rm rs) (mAq ma SP) re) := by
  rw [qX12_readAll_33_n, qX12_readAll_63_n (h := o_flaw h 6), if_pos_neg_same, if_pos_neg_same]
theorem o_all2 (h : u.2.1 = 5) (k : KT HP) : BX12_readAll_2 k [(0, .ref 0), (1, .int (b2i false))] [] (MM o (th, mtr, wh, ta, mfa, mo, sd, ac, mk) (mU mq n u wr rm rs) (mAq ma SP) re) = some (MM o (th, mtr, wh, ta, mfa, mo, sd, ac, mk) (mU mq n u wr rm rs) (mAq ma SP) re) := by
  rw [qX12_readAll_2_n, if_pos (show b2i false = 0 from rfl), if_neg (by rw [h]; decide), qX12_readAll_30_n (h := o_flaw h 1), o_all33 h]
theorem c_lacks {tk : TkS} {rd : RdS} : EX3_lacksRows [.ref 29] (CH mz tp tk rd hi sc pl dr wa wb rc) = some (decide (¬ dr.1.2.2.1 ≤ dr.2.1.1.2.2)) := by
  rw [eX3_lacksRows_s, qX3_lacksRows_0]
  by_cases h : dr.1.2.2.1 ≤ dr.2.1.1.2.2
  · rw [if_pos h, decide_eq_false (fun h2 => h2 h)]
  · rw [if_neg h, decide_eq_true h]
end
theorem rd_loop {mz : MzS} {tp : TpS} {ra rp : Int32} {hi : HiS} {sc : ScS} {pl : PlS} {wa wb : WaS} {rc : Nat → Int32} {o : Option MeS} {th mtr wh ta mfa : Int32} {mo : Int64} {sd ac mk : Int32} {mq : MsS} {wr : Int32} {ma : MaS} {m n : Nat} (H : Ctx tp ma m n) : ∀ (d : Nat) (nb cc cp : Int32) (dr : PlS) (rm rs : Int64) (SP : Nat → Int32) (re : MeS) (e c N1 N2 : Nat) (t : TT) (u : UU), n - c < d → c ≤ e → d ≤ N1 → d < N2 → Tk (bt tp.1) n e t u SP → (D0 dr re ∨ D1 dr re) → ROut tp n (fun t_ a_ b_ c_ d_ e_ dr_ => CH mz tp (tC n t_) (a_, b_, c_, d_, e_) hi sc pl dr_ wa wb rc) (fun f_ u_ w_ rm_ rs_ SP_ re_ => MM o (th, mtr, wh, ta, f_, mo, sd, ac, mk) (mU mq n u_ w_ rm_ rs_) (mAq ma SP_) re_) ra rp mfa wr (lp BX4_read_24 N1 [(0, .ref 3), (1, .ref 29), (2, .int (nI n)), (3, .int (nI c))] [] (CH mz tp (tC n t) (ra, rp, nb, cc, cp) hi sc pl dr wa wb rc)) (lp BX12_readAll_2 N2 [(0, .ref 0), (1, .int 1)] [] (MM o (th, mtr, wh, ta, mfa, mo, sd, ac, mk) (mU mq n u wr rm rs) (mAq ma SP) re)) := by
  intro d
  induction d with
  | zero => intro nb cc cp dr rm rs SP re e c N1 N2 t u h; omega
  | succ d ih =>
    intro nb cc cp dr rm rs SP re e c N1 N2 t u hd hce hN1 hN2 T D
    obtain ⟨M1, rfl⟩ : ∃ M1, N1 = M1 + 1 := ⟨N1 - 1, by omega⟩
    obtain ⟨M2, rfl⟩ : ∃ M2, N2 = M2 + 1 + 1 := ⟨N2 - 2, by omega⟩
    have hen := T.e.2
    have hn900 : n ≤ 900 := by have := H.1; have := H.2.2.1; omega
    have hcl : lp BX4_read_24 (M1 + 1) [(0, .ref 3), (1, .ref 29), (2, .int (nI n)), (3, .int (nI c))] [] (CH mz tp (tC n t) (ra, rp, nb, cc, cp) hi sc pl dr wa wb rc) = BX4_read_31 (lp BX4_read_24 M1) [(0, .ref 3), (1, .ref 29), (2, .int (nI n)), (3, .int (nI c))] [.ref 29, .ref 3] (CH mz tp (tC n t) (ra, rp, nb, cc, cp) hi sc pl dr wa wb rc) := by
      show BX4_read_24 (lp BX4_read_24 M1) _ _ _ = _
      rw [qX4_read_24, if_lt (by omega) (by omega), if_neg (by omega)]
    have hml : lp BX12_readAll_2 (M2 + 1 + 1) [(0, .ref 0), (1, .int 1)] [] (MM o (th, mtr, wh, ta, mfa, mo, sd, ac, mk) (mU mq n u wr rm rs) (mAq ma SP) re) = BX12_readAll_7 (lp BX12_readAll_2 (M2 + 1)) [(0, .ref 0)] [.ref 0] (MM o (th, mtr, wh, ta, mfa, mo, sd, ac, mk) (mU mq n u wr rm rs) (mAq ma SP) re) := by
      show BX12_readAll_2 (lp BX12_readAll_2 (M2 + 1)) _ _ _ = _
      rw [qX12_readAll_2_n, if_neg (by decide)]
    rw [hcl, hml]
    rcases l_line (mz := mz) (ra := ra) (rp := rp) (nb := nb) (cc := cc) (cp := cp) (hi := hi) (sc := sc) (pl := pl) (dr := dr) (wa := wa) (wb := wb) (rc := rc) (o := o) (th := th) (mtr := mtr) (wh := wh) (ta := ta) (mfa := mfa) (mo := mo) (sd := sd) (ac := ac) (mk := mk) (mq := mq) (wr := wr) (rm := rm) (rs := rs) (ma := ma) (re := re) H T D with ⟨e2, t2, u2, SP2, dr2, re2, rm2, rs2, nb2, cc2, cp2, T2, A2, D2, h1, h2⟩ | ⟨f, w, nb2, cc2, cp2, t2, u2, SP2, dr2, rm2, rs2, hf, h5, h1, h2⟩
    · rcases t_sign (mz := mz) (ra := ra) (rp := rp) (nb := nb2) (cc := cc2) (cp := cp2) (hi := hi) (sc := sc) (pl := pl) (dr := dr2) (wa := wa) (wb := wb) (rc := rc) (o := o) (th := th) (mtr := mtr) (wh := wh) (ta := ta) (mo := mo) (sd := sd) (ac := ac) (mk := mk) (mq := mq) (ma := ma) (mfa := mfa) (wr := wr) (rm := rm2) (rs := rs2) (re := re2) (SP := SP2) (u := u2) H T2 59 with ⟨k3, e3, t3, u3, SP3, T3, A3, j1, _, j2⟩ | ⟨j1, _, j2⟩
      · have h0 : ¬ t2.2.1 = 0 := by rw [k3]; decide
        have hA := A2.2 h0
        have hA3 := A3.1
        have he3 := T3.e.2
        have R := ih nb2 cc2 cp2 dr2 rm2 rs2 SP3 re2 e3 (c + 1) M1 (M2 + 1) t3 u3 (by omega) (by omega) (by omega) (by omega) T3 (Or.inr D2)
        rw [qX4_read_31 (h := h1), if_b2i, if_pos rfl, if_neg h0, qX4_read_70 (h := j1), if_b2i, if_pos rfl, nI_1, qX12_readAll_7_n (h := h2), qX12_readAll_13_n (h := j2)]
        exact R
      · by_cases h0 : t2.2.1 = 0
        · obtain ⟨w1, w2, w3, _⟩ := D2.w
          have hro : (dr2.1.2.2.1 ≤ dr2.2.1.1.2.2) ↔ re2.1.2.1 ≤ re2.1.2.2.2.2.2.1 := by
            obtain ⟨w, h, du, pa, sh, gc, hc, wc, ro, wn, mn, ⟨W, G, N, P, GA, NO, HE, WK⟩, X0, X1, X2, X3, X4⟩ := D2
            rw [G.2.1, N.1.2, X1.2.1, X1.2.2]
          have hm2 : ∀ k, BX12_readAll_2 k [(0, .ref 0), (1, .int (b2i false))] [] (MM o (th, mtr, wh, ta, mfa, mo, sd, ac, mk) (mU mq n u2 wr rm2 rs2) (mAq ma SP2) re2) = BX12_readAll_33 [(0, .ref 0)] [] (MM o (th, mtr, wh, ta, mfa, mo, sd, ac, mk) (mU mq n u2 wr rm2 rs2) (mAq ma SP2) re2) := fun k => by
            rw [qX12_readAll_2_n, if_pos (show b2i false = 0 from rfl), if_pos (T2.k0.mp h0)]
          by_cases hr : dr2.1.2.2.1 ≤ dr2.2.1.1.2.2
          · refine Or.inl ⟨t2, u2, SP2, dr2, re2, rm2, rs2, nb2, cc2, cp2, D2, ?_, ?_⟩
            · rw [qX4_read_31 (h := h1), if_b2i, if_pos rfl, if_pos h0, qX4_read_50 (h := c_lacks), decide_eq_false (fun h => h hr), if_b2i, if_neg (by decide)]
            · rw [qX12_readAll_7_n (h := h2), qX12_readAll_13_n (h := j2)]
              show BX12_readAll_2 _ _ _ _ = _
              rw [hm2, qX12_readAll_33_n, if_neg w3, if_pos (hro.mp hr)]
          · have hfl := t_flaw (o := o) (th := th) (mtr := mtr) (wh := wh) (ta := ta) (mo := mo) (sd := sd) (ac := ac) (mk := mk) (mq := mq) (ma := ma) (mfa := mfa) (wr := wr) (rm := rm2) (rs := rs2) (re := re2) (SP := SP2) (n := n) T2.over 6
            refine Or.inr ⟨6, t2.2.2.1, nb2, cc2, cp2, t2, ov u2, SP2, dr2, re2, rm2, rs2, by decide, ?_, ?_⟩
            · rw [qX4_read_31 (h := h1), if_b2i, if_pos rfl, if_pos h0, qX4_read_50 (h := c_lacks), decide_eq_true hr, if_b2i, if_pos rfl]
            · rw [← T2.pc, qX12_readAll_7_n (h := h2), qX12_readAll_13_n (h := j2)]
              show BX12_readAll_2 _ _ _ _ = _
              rw [hm2, qX12_readAll_33_n, if_neg w3, if_neg (fun h => hr (hro.mpr h)), qX12_readAll_63_n (h := hfl)]
        · have hfl := t_flaw (o := o) (th := th) (mtr := mtr) (wh := wh) (ta := ta) (mo := mo) (sd := sd) (ac := ac) (mk := mk) (mq := mq) (ma := ma) (mfa := mfa) (wr := wr) (rm := rm2) (rs := rs2) (re := re2) (SP := SP2) (n := n) T2.over 1
          refine Or.inr ⟨1, t2.2.2.1, nb2, cc2, cp2, t2, ov u2, SP2, dr2, re2, rm2, rs2, by decide, ?_, ?_⟩
          · rw [qX4_read_31 (h := h1), if_b2i, if_pos rfl, if_neg h0, qX4_read_70 (h := j1), if_b2i, if_neg (by decide)]
          · rw [← T2.pc, qX12_readAll_7_n (h := h2), qX12_readAll_13_n (h := j2)]
            show BX12_readAll_2 _ _ _ _ = _
            rw [qX12_readAll_2_n, if_pos (show b2i false = 0 from rfl), if_neg (fun h => h0 (T2.k0.mpr h)), qX12_readAll_30_n (h := hfl), o_all33 rfl]
    · refine Or.inr ⟨f, w, nb2, cc2, cp2, t2, u2, SP2, dr2, re, rm2, rs2, hf, ?_, ?_⟩
      · rw [qX4_read_31 (h := h1), if_b2i, if_neg (by decide)]
      · rw [qX12_readAll_7_n (h := h2), qX12_readAll_13_n (h := o_eatsSign h5 59)]
        show BX12_readAll_2 _ _ _ _ = _
        rw [o_all2 h5]
