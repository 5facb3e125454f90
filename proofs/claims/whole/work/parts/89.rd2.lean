/-! The line of sizes. -/
def D0 (dr : PlS) (re : MeS) : Prop := dr.1.2.2.2.1 = 0 ∧ re.1.1 = 0 ∧ dr.2.1 = ((0, 0, 0), (0, 0, 0), (0, 0, 0)) ∧ re.2.1 = (0, 0, 0, 0, 0, 0) ∧ dr.2.2.2.2.2.2.2 = (0, 0, -2, 0, 0) ∧ re.1.2.2.2.2.2 = (0, 0, 0, 0, 0, 0, -2)
theorem num_of {v lo hh : Int32} {a b : Nat} (h1 : lo ≤ v) (h2 : v ≤ hh) (ha : lo = nI a) (hb : hh = nI b) (h3 : a < 2 ^ 31) (h4 : b < 2 ^ 31) : ∃ k, a ≤ k ∧ k ≤ b ∧ v = nI k := by
  subst ha hb
  have h0 : ¬ v < 0 := fun h => by
    have h5 : nI a < 0 := Int32.lt_of_le_of_lt h1 h
    exact nI_pos h3 h5
  obtain ⟨k, hk, rfl⟩ := nI_of h0
  exact ⟨k, (nI_leI h3 hk).mp h1, (nI_leI hk h4).mp h2, rfl⟩
theorem D0_D1 {dr : PlS} {re : MeS} (D : D0 dr re) {g : GrS} {w h du pa sh : Nat} (W : WH w h) (G : GrOK g w h) (h1 : 1 ≤ du ∧ du ≤ 200) (h2 : pa ≤ 99) (h3 : 1 ≤ sh ∧ sh ≤ 4) : D1 (g, dr.2.1, dr.2.2.1, dr.2.2.2.1, (nI du, nI pa, nI sh, dr.2.2.2.2.2.2.2.1, dr.2.2.2.2.2.2.2.2.1, dr.2.2.2.2.2.2.2.2.2.1, dr.2.2.2.2.2.2.2.2.2.2.1, dr.2.2.2.2.2.2.2.2.2.2.2)) (mR (nI w) (nI h) (nI du) (nI pa) (nI sh) re.1.2.2.2.2.2.1 re.1.2.2.2.2.2.2.1 re.1.2.2.2.2.2.2.2.1 re.1.2.2.2.2.2.2.2.2.1 re.1.2.2.2.2.2.2.2.2.2.1 re.1.2.2.2.2.2.2.2.2.2.2.1 re.1.2.2.2.2.2.2.2.2.2.2.2 re.2.1.1 re.2.1.2.1 re.2.1.2.2.1 re.2.1.2.2.2.1 re.2.1.2.2.2.2.1 re.2.1.2.2.2.2.2 re.2.2.1 re.2.2.2.1 re.2.2.2.2.1 re.2.2.2.2.2.1 re.2.2.2.2.2.2.1 re.2.2.2.2.2.2.2.1 re.2.2.2.2.2.2.2.2.1 re.2.2.2.2.2.2.2.2.2) := by
  obtain ⟨d1, d2, d3, d4, d5, d6⟩ := D
  rw [d3, d4, d5, d6]
  have s0 : Sub 0 (w * h) := fun k hk => by rw [tb_0] at hk; exact absurd hk (by decide)
  refine ⟨w, h, du, pa, sh, 0, 0, 0, 0, 0, 0, ⟨W, G, ⟨⟨rfl, rfl⟩, ⟨h1.1, h1.2, rfl, rfl⟩, ⟨h2, rfl, rfl⟩, ⟨h3.1, h3.2, rfl, rfl⟩⟩, ⟨rfl, rfl, rfl, rfl, s0, s0, s0, s0⟩, ⟨by omega, rfl, rfl, rfl, fun i hi => by omega, fun k => ?_⟩, ⟨rfl, Or.inl rfl⟩, ⟨by omega, rfl, rfl, fun i hi => by omega⟩, ⟨by omega, rfl, rfl, fun i hi => by omega⟩⟩, ⟨rfl, s0⟩, ⟨by omega, rfl, rfl⟩, ⟨by omega, rfl, rfl⟩, ⟨by omega, rfl, rfl⟩, fun i hi => by omega⟩
  show tb 0 k = true ↔ _
  rw [tb_0]
  constructor
  · intro h; exact absurd h (by decide)
  · rintro ⟨i, hi, _⟩; omega
section
variable {mz : MzS} {tp : TpS} {ra rp nb cc cp : Int32} {hi : HiS} {sc : ScS} {pl dr : PlS} {wa wb : WaS} {rc : Nat → Int32} {o : Option MeS} {th mtr wh ta mfa : Int32} {mo : Int64} {sd ac mk : Int32} {mq : MsS} {wr : Int32} {rm rs : Int64} {ma : MaS} {SP : Nat → Int32} {re : MeS} {m n e : Nat} {t : TT} {u : UU}
theorem l_meadow (H : Ctx tp ma m n) (T : Tk (bt tp.1) n e t u SP) (hk : t.2.1 = 1) (D : D0 dr re) : LOut tp n e (fun t_ a_ b_ c_ d_ e_ dr_ => CH mz tp (tC n t_) (a_, b_, c_, d_, e_) hi sc pl dr_ wa wb rc) (fun f_ u_ w_ rm_ rs_ SP_ re_ => MM o (th, mtr, wh, ta, f_, mo, sd, ac, mk) (mU mq n u_ w_ rm_ rs_) (mAq ma SP_) re_) ra rp mfa wr re (EX4_readSizes [.ref 3, .ref 29] (CH mz tp (tC n t) (ra, rp, nb, cc, cp) hi sc pl dr wa wb rc)) (EX12_readMeadow [.ref 0] (MM o (th, mtr, wh, ta, mfa, mo, sd, ac, mk) (mU mq n u wr rm rs) (mAq ma SP) re)) := by
  obtain ⟨e1, t1, u1, SP1, T1, A1, g1, g2⟩ := t_go (mz := mz) (ra := ra) (rp := rp) (nb := nb) (cc := cc) (cp := cp) (hi := hi) (sc := sc) (pl := pl) (dr := dr) (wa := wa) (wb := wb) (rc := rc) (o := o) (th := th) (mtr := mtr) (wh := wh) (ta := ta) (mfa := mfa) (mo := mo) (sd := sd) (ac := ac) (mk := mk) (mq := mq) (wr := wr) (rm := rm) (rs := rs) (ma := ma) (re := re) (SP := SP) H T.e.2 T.e.1 (T.sp (Or.inl hk)) T.over
  have hc0 : EX4_readSizes [.ref 3, .ref 29] (CH mz tp (tC n t) (ra, rp, nb, cc, cp) hi sc pl dr wa wb rc) = BX4_readSizes_13 [(0, .ref 3), (1, .ref 29)] [.int 8, .int 2, .ref 2001, .ref 3] (CH mz tp (tC n t1) (ra, rp, nb, cc, cp) hi sc pl dr wa wb rc) := by
    rw [eX4_readSizes_s, qX4_readSizes_0, qX4_readSizes_4 (h := g1)]
  have hm0 : EX12_readMeadow [.ref 0] (MM o (th, mtr, wh, ta, mfa, mo, sd, ac, mk) (mU mq n u wr rm rs) (mAq ma SP) re) = BX12_readMeadow_25 [(0, .ref 0)] [.int 8, .int 2, .ref 2014, .ref 0] (MM o (th, mtr, wh, ta, mfa, mo, sd, ac, mk) (mU mq n u1 wr rm rs) (mAq ma SP1) re) := by
    rw [eX12_readMeadow_s_m, qX12_readMeadow_0_m, D.2.1, if_pos (by decide), ← D.2.1, qX12_readMeadow_15_m, qX12_readMeadow_16_m (h := g2)]
  rw [hc0, hm0]
  rcases t_part (mz := mz) (ra := ra) (rp := rp) (nb := nb) (cc := cc) (cp := cp) (hi := hi) (sc := sc) (pl := pl) (dr := dr) (wa := wa) (wb := wb) (rc := rc) (o := o) (th := th) (mtr := mtr) (wh := wh) (ta := ta) (mfa := mfa) (mo := mo) (sd := sd) (ac := ac) (mk := mk) (mq := mq) (wr := wr) (rm := rm) (rs := rs) (ma := ma) (re := re) H T1 St_1 St_14 (by decide) (by unfold Lt; decide) 2 8 with ⟨v1, e2, t2, u2, SP2, p1, q1, T2, A2, c1, m1⟩ | ⟨f, w, nb2, t2, u2, SP2, hf, h5, c1, m1⟩
  · rcases t_part (mz := mz) (ra := ra) (rp := rp) (nb := v1) (cc := cc) (cp := cp) (hi := hi) (sc := sc) (pl := pl) (dr := dr) (wa := wa) (wb := wb) (rc := rc) (o := o) (th := th) (mtr := mtr) (wh := wh) (ta := ta) (mfa := mfa) (mo := mo) (sd := sd) (ac := ac) (mk := mk) (mq := mq) (wr := wr) (rm := rm) (rs := rs) (ma := ma) (re := re) H T2 St_2 St_15 (by decide) (by unfold Lt; decide) 2 6 with ⟨v2, e3, t3, u3, SP3, p2, q2, T3, A3, c2, m2⟩ | ⟨f, w, nb2, t3, u3, SP3, hf, h5, c2, m2⟩
    · rcases t_part (mz := mz) (ra := ra) (rp := rp) (nb := v2) (cc := cc) (cp := cp) (hi := hi) (sc := sc) (pl := pl) (dr := dr) (wa := wa) (wb := wb) (rc := rc) (o := o) (th := th) (mtr := mtr) (wh := wh) (ta := ta) (mfa := mfa) (mo := mo) (sd := sd) (ac := ac) (mk := mk) (mq := mq) (wr := wr) (rm := rm) (rs := rs) (ma := ma) (re := re) H T3 St_3 St_16 (by decide) (by unfold Lt; decide) 1 200 with ⟨v3, e4, t4, u4, SP4, p3, q3, T4, A4, c3, m3⟩ | ⟨f, w, nb2, t4, u4, SP4, hf, h5, c3, m3⟩
      · rcases t_part (mz := mz) (ra := ra) (rp := rp) (nb := v3) (cc := cc) (cp := cp) (hi := hi) (sc := sc) (pl := pl) (dr := dr) (wa := wa) (wb := wb) (rc := rc) (o := o) (th := th) (mtr := mtr) (wh := wh) (ta := ta) (mfa := mfa) (mo := mo) (sd := sd) (ac := ac) (mk := mk) (mq := mq) (wr := wr) (rm := rm) (rs := rs) (ma := ma) (re := re) H T4 St_4 St_17 (by decide) (by unfold Lt; decide) 0 99 with ⟨v4, e5, t5, u5, SP5, p4, q4, T5, A5, c4, m4⟩ | ⟨f, w, nb2, t5, u5, SP5, hf, h5, c4, m4⟩
        · rcases t_part (mz := mz) (ra := ra) (rp := rp) (nb := v4) (cc := cc) (cp := cp) (hi := hi) (sc := sc) (pl := pl) (dr := dr) (wa := wa) (wb := wb) (rc := rc) (o := o) (th := th) (mtr := mtr) (wh := wh) (ta := ta) (mfa := mfa) (mo := mo) (sd := sd) (ac := ac) (mk := mk) (mq := mq) (wr := wr) (rm := rm) (rs := rs) (ma := ma) (re := re) H T5 St_5 St_18 (by decide) (by unfold Lt; decide) 1 4 with ⟨v5, e6, t6, u6, SP6, p5, q5, T6, A6, c5, m5⟩ | ⟨f, w, nb2, t6, u6, SP6, hf, h5, c5, m5⟩
          · obtain ⟨w, w1, w2, rfl⟩ := num_of (a := 2) (b := 8) p1 q1 rfl rfl (by decide) (by decide)
            obtain ⟨h, h1, h2, rfl⟩ := num_of (a := 2) (b := 6) p2 q2 rfl rfl (by decide) (by decide)
            obtain ⟨du, d1, d2, rfl⟩ := num_of (a := 1) (b := 200) p3 q3 rfl rfl (by decide) (by decide)
            obtain ⟨pa, a1, a2, rfl⟩ := num_of (a := 0) (b := 99) p4 q4 rfl rfl (by decide) (by decide)
            obtain ⟨sh, s1, s2, rfl⟩ := num_of (a := 1) (b := 4) p5 q5 rfl rfl (by decide) (by decide)
            obtain ⟨g, G, eg⟩ := c_lay (mz := mz) (tp := tp) (tk := tC n t6) (rd := (ra, rp, nI sh, cc, cp)) (hi := hi) (sc := sc) (pl := pl) (wa := wa) (wb := wb) (rc := rc) (dr := dr) (⟨w1, w2, h1, h2⟩ : WH w h)
            have hl : EX3_lay [.ref 29, .int (nI w), .int (nI h), .int (nI du), .int (nI pa), .int (nI sh)] (CH mz tp (tC n t6) (ra, rp, nI sh, cc, cp) hi sc pl dr wa wb rc) = some (CH mz tp (tC n t6) (ra, rp, nI sh, cc, cp) hi sc pl (g, dr.2.1, dr.2.2.1, dr.2.2.2.1, (nI du, nI pa, nI sh, dr.2.2.2.2.2.2.2.1, dr.2.2.2.2.2.2.2.2.1, dr.2.2.2.2.2.2.2.2.2.1, dr.2.2.2.2.2.2.2.2.2.2.1, dr.2.2.2.2.2.2.2.2.2.2.2)) wa wb rc) := by
              rw [eX3_lay_s, qX3_lay_0, qX3_lay_6 (h := eg)]
            have A7 : Af e e6 t6 := ⟨by have := A1.1; have := A2.1; have := A3.1; have := A4.1; have := A5.1; have := A6.1; omega, fun hh => by have := A6.2 hh; have := A1.1; have := A2.1; have := A3.1; have := A4.1; have := A5.1; omega⟩
            apply LOut.ok T6 A7
            · rw [qX4_readSizes_13 (h := c1), if_b2i, if_pos rfl, qX4_readSizes_32 (h := c2), if_b2i, if_pos rfl, qX4_readSizes_52 (h := c3), if_b2i, if_pos rfl, qX4_readSizes_72 (h := c4), if_b2i, if_pos rfl, qX4_readSizes_91 (h := c5), if_b2i, if_pos rfl, qX4_readSizes_110 (h := hl)]
            · rw [qX12_readMeadow_25_m (h := m1), qX12_readMeadow_35_m (h := m2), qX12_readMeadow_46_m (h := m3), qX12_readMeadow_56_m (h := m4), qX12_readMeadow_66_m (h := m5), if_neg T6.over]
            · exact D0_D1 D ⟨w1, w2, h1, h2⟩ G ⟨d1, d2⟩ a2 ⟨s1, s2⟩
          · refine Or.inr ⟨f, w, nb2, cc, cp, t6, u6, SP6, dr, rm, rs, hf, h5, ?_, ?_⟩
            · rw [qX4_readSizes_13 (h := c1), if_b2i, if_pos rfl, qX4_readSizes_32 (h := c2), if_b2i, if_pos rfl, qX4_readSizes_52 (h := c3), if_b2i, if_pos rfl, qX4_readSizes_72 (h := c4), if_b2i, if_pos rfl, qX4_readSizes_91 (h := c5), if_b2i, if_neg (by decide)]
            · rw [qX12_readMeadow_25_m (h := m1), qX12_readMeadow_35_m (h := m2), qX12_readMeadow_46_m (h := m3), qX12_readMeadow_56_m (h := m4), qX12_readMeadow_66_m (h := m5), if_pos h5]
        · refine Or.inr ⟨f, w, nb2, cc, cp, t5, u5, SP5, dr, rm, rs, hf, h5, ?_, ?_⟩
          · rw [qX4_readSizes_13 (h := c1), if_b2i, if_pos rfl, qX4_readSizes_32 (h := c2), if_b2i, if_pos rfl, qX4_readSizes_52 (h := c3), if_b2i, if_pos rfl, qX4_readSizes_72 (h := c4), if_b2i, if_neg (by decide)]
          · rw [qX12_readMeadow_25_m (h := m1), qX12_readMeadow_35_m (h := m2), qX12_readMeadow_46_m (h := m3), qX12_readMeadow_56_m (h := m4), qX12_readMeadow_66_m (h := o_part h5 1 4), if_pos h5]
      · refine Or.inr ⟨f, w, nb2, cc, cp, t4, u4, SP4, dr, rm, rs, hf, h5, ?_, ?_⟩
        · rw [qX4_readSizes_13 (h := c1), if_b2i, if_pos rfl, qX4_readSizes_32 (h := c2), if_b2i, if_pos rfl, qX4_readSizes_52 (h := c3), if_b2i, if_neg (by decide)]
        · rw [qX12_readMeadow_25_m (h := m1), qX12_readMeadow_35_m (h := m2), qX12_readMeadow_46_m (h := m3), qX12_readMeadow_56_m (h := o_part h5 0 99), qX12_readMeadow_66_m (h := o_part h5 1 4), if_pos h5]
    · refine Or.inr ⟨f, w, nb2, cc, cp, t3, u3, SP3, dr, rm, rs, hf, h5, ?_, ?_⟩
      · rw [qX4_readSizes_13 (h := c1), if_b2i, if_pos rfl, qX4_readSizes_32 (h := c2), if_b2i, if_neg (by decide)]
      · rw [qX12_readMeadow_25_m (h := m1), qX12_readMeadow_35_m (h := m2), qX12_readMeadow_46_m (h := o_part h5 1 200), qX12_readMeadow_56_m (h := o_part h5 0 99), qX12_readMeadow_66_m (h := o_part h5 1 4), if_pos h5]
  · refine Or.inr ⟨f, w, nb2, cc, cp, t2, u2, SP2, dr, rm, rs, hf, h5, ?_, ?_⟩
    · rw [qX4_readSizes_13 (h := c1), if_b2i, if_neg (by decide)]
    · rw [qX12_readMeadow_25_m (h := m1), qX12_readMeadow_35_m (h := o_part h5 2 6), qX12_readMeadow_46_m (h := o_part h5 1 200), qX12_readMeadow_56_m (h := o_part h5 0 99), qX12_readMeadow_66_m (h := o_part h5 1 4), if_pos h5]
end
