/-! What the readers take. -/
theorem Tk.e {B : Nat → Nat} {n e : Nat} {t : TT} {u : UU} {SP : Nat → Int32} (h : Tk B n e t u SP) : t.1 = nI e ∧ e ≤ n := by
  obtain ⟨q, _, h2, h, _⟩ := h
  exact ⟨h, h2⟩
theorem Tk.k0 {B : Nat → Nat} {n e : Nat} {t : TT} {u : UU} {SP : Nat → Int32} (h : Tk B n e t u SP) : (t.2.1 = 0 ↔ u.2.1 = 1) := by
  obtain ⟨q, _, _, _, _, _, h⟩ := h
  rcases h with ⟨_, h1, h⟩ | ⟨h1, h, _⟩ | ⟨h1, h, _⟩ | ⟨h1, h, _⟩ | ⟨h1, h⟩ <;> rw [h1, h] <;> decide
theorem Tk.k1 {B : Nat → Nat} {n e : Nat} {t : TT} {u : UU} {SP : Nat → Int32} (h : Tk B n e t u SP) : (t.2.1 = 1 ↔ u.2.1 = 2) := by
  obtain ⟨q, _, _, _, _, _, h⟩ := h
  rcases h with ⟨_, h1, h⟩ | ⟨h1, h, _⟩ | ⟨h1, h, _⟩ | ⟨h1, h, _⟩ | ⟨h1, h⟩ <;> rw [h1, h] <;> decide
theorem Tk.k2 {B : Nat → Nat} {n e : Nat} {t : TT} {u : UU} {SP : Nat → Int32} (h : Tk B n e t u SP) : (t.2.1 = 2 ↔ u.2.1 = 3) := by
  obtain ⟨q, _, _, _, _, _, h⟩ := h
  rcases h with ⟨_, h1, h⟩ | ⟨h1, h, _⟩ | ⟨h1, h, _⟩ | ⟨h1, h, _⟩ | ⟨h1, h⟩ <;> rw [h1, h] <;> decide
theorem Tk.k3 {B : Nat → Nat} {n e : Nat} {t : TT} {u : UU} {SP : Nat → Int32} (h : Tk B n e t u SP) : (t.2.1 = 3 ↔ u.2.1 = 4) := by
  obtain ⟨q, _, _, _, _, _, h⟩ := h
  rcases h with ⟨_, h1, h⟩ | ⟨h1, h, _⟩ | ⟨h1, h, _⟩ | ⟨h1, h, _⟩ | ⟨h1, h⟩ <;> rw [h1, h] <;> decide
theorem Tk.sp {B : Nat → Nat} {n e : Nat} {t : TT} {u : UU} {SP : Nat → Int32} (h : Tk B n e t u SP) (hk : t.2.1 = 1 ∨ t.2.1 = 2 ∨ t.2.1 = 3) : u.1 = nI e := by
  obtain ⟨q, _, _, _, _, _, h⟩ := h
  rcases h with ⟨_, h1, h⟩ | ⟨h1, _, h, _⟩ | ⟨h1, _, h, _⟩ | ⟨h1, _, h, _⟩ | ⟨h1, h⟩
  · rw [h1] at hk; exact absurd hk (by decide)
  · exact h
  · exact h
  · exact h
  · rw [h1] at hk; exact absurd hk (by decide)
theorem Tk.w3 {B : Nat → Nat} {n e : Nat} {t : TT} {u : UU} {SP : Nat → Int32} (h : Tk B n e t u SP) (hk : t.2.1 = 3) : ∃ q, q < e ∧ t.2.2.1 = nI q ∧ u.2.2.2.1 = nI (B q) := by
  obtain ⟨q, _, _, _, h0, _, h⟩ := h
  rcases h with ⟨_, h1, h⟩ | ⟨h1, _, h, _⟩ | ⟨h1, _, h, _⟩ | ⟨h1, _, h, h2, h3⟩ | ⟨h1, h⟩
  · rw [h1] at hk; exact absurd hk (by decide)
  · rw [h1] at hk; exact absurd hk (by decide)
  · rw [h1] at hk; exact absurd hk (by decide)
  · exact ⟨q, h2, h0, h3⟩
  · rw [h1] at hk; exact absurd hk (by decide)
theorem Tk.w2 {B : Nat → Nat} {n e : Nat} {t : TT} {u : UU} {SP : Nat → Int32} (h : Tk B n e t u SP) (hk : t.2.1 = 2) : t.2.2.2.1 = u.2.2.2.2.1 := by
  obtain ⟨q, _, _, _, h0, _, h⟩ := h
  rcases h with ⟨_, h1, h⟩ | ⟨h1, _, h, _⟩ | ⟨h1, _, h, _, h3⟩ | ⟨h1, _, h, h2, h3⟩ | ⟨h1, h⟩
  · rw [h1] at hk; exact absurd hk (by decide)
  · rw [h1] at hk; exact absurd hk (by decide)
  · exact h3
  · rw [h1] at hk; exact absurd hk (by decide)
  · rw [h1] at hk; exact absurd hk (by decide)
theorem Tk.w1 {B : Nat → Nat} {n e : Nat} {t : TT} {u : UU} {SP : Nat → Int32} (h : Tk B n e t u SP) (hk : t.2.1 = 1) : ∃ q, t.2.2.1 = nI q ∧ q < e ∧ e - q ≤ 8 ∧ u.2.2.2.2.2.1 = nI (e - q) ∧ t.2.2.2.2 = cdv B q (e - q) ∧ u.2.2.2.2.2.2 = cdv B q (e - q) ∧ Lt B q (e - q) ∧ ∀ i, i < e - q → SP i = nI (B (q + i)) := by
  obtain ⟨q, _, _, _, h0, _, h⟩ := h
  rcases h with ⟨_, h1, h⟩ | ⟨h1, _, h, g⟩ | ⟨h1, _, h, _, h3⟩ | ⟨h1, _, h, h2, h3⟩ | ⟨h1, h⟩
  · rw [h1] at hk; exact absurd hk (by decide)
  · exact ⟨q, h0, g⟩
  · rw [h1] at hk; exact absurd hk (by decide)
  · rw [h1] at hk; exact absurd hk (by decide)
  · rw [h1] at hk; exact absurd hk (by decide)
theorem zb_t : (zb (b2i true)) = some true := rfl
theorem zb_f : (zb (b2i false)) = some false := rfl
section
variable {mz : MzS} {tp : TpS} {ra rp nb cc cp : Int32} {hi : HiS} {sc : ScS} {pl dr : PlS} {wa wb : WaS} {rc : Nat → Int32} {o : Option MeS} {th mtr wh ta mfa : Int32} {mo : Int64} {sd ac mk : Int32} {mq : MsS} {wr : Int32} {rm rs : Int64} {ma : MaS} {SP : Nat → Int32} {re : MeS} {m n e : Nat} {t : TT} {u : UU}
theorem t_sign (H : Ctx tp ma m n) (T : Tk (bt tp.1) n e t u SP) (c : Int32) :
    (t.2.1 = 3 ∧ ∃ e2 t2 u2 SP2, Tk (bt tp.1) n e2 t2 u2 SP2 ∧ Af e e2 t2 ∧ EX4_takeSign [.ref 3, .int c] (CH mz tp (tC n t) (ra, rp, nb, cc, cp) hi sc pl dr wa wb rc) = some (true, (CH mz tp (tC n t2) (ra, rp, nb, cc, cp) hi sc pl dr wa wb rc)) ∧ EX12_needsSign [.ref 0, .int c] (MM o (th, mtr, wh, ta, mfa, mo, sd, ac, mk) (mU mq n u wr rm rs) (mAq ma SP) re) = some (MM o (th, mtr, wh, ta, mfa, mo, sd, ac, mk) (mU mq n u2 wr rm rs) (mAq ma SP2) re) ∧ EX12_eatsSign [.ref 0, .int c] (MM o (th, mtr, wh, ta, mfa, mo, sd, ac, mk) (mU mq n u wr rm rs) (mAq ma SP) re) = some (true, (MM o (th, mtr, wh, ta, mfa, mo, sd, ac, mk) (mU mq n u2 wr rm rs) (mAq ma SP2) re))) ∨
    (EX4_takeSign [.ref 3, .int c] (CH mz tp (tC n t) (ra, rp, nb, cc, cp) hi sc pl dr wa wb rc) = some (false, (CH mz tp (tC n t) (1, t.2.2.1, nb, cc, cp) hi sc pl dr wa wb rc)) ∧ EX12_needsSign [.ref 0, .int c] (MM o (th, mtr, wh, ta, mfa, mo, sd, ac, mk) (mU mq n u wr rm rs) (mAq ma SP) re) = some (MM o (th, mtr, wh, ta, 1, mo, sd, ac, mk) (mU mq n (ov u) t.2.2.1 rm rs) (mAq ma SP) re) ∧ EX12_eatsSign [.ref 0, .int c] (MM o (th, mtr, wh, ta, mfa, mo, sd, ac, mk) (mU mq n u wr rm rs) (mAq ma SP) re) = some (false, (MM o (th, mtr, wh, ta, mfa, mo, sd, ac, mk) (mU mq n u wr rm rs) (mAq ma SP) re))) := by
  have hfl := t_flaw (o := o) (th := th) (mtr := mtr) (wh := wh) (ta := ta) (mfa := mfa) (mo := mo) (sd := sd) (ac := ac) (mk := mk) (mq := mq) (wr := wr) (rm := rm) (rs := rs) (ma := ma) (SP := SP) (re := re) (n := n) T.over 1
  have hgo5 := o_go (o := o) (th := th) (mtr := mtr) (wh := wh) (ta := ta) (mfa := 1) (mo := mo) (sd := sd) (ac := ac) (mk := mk) (mq := mq) (wr := u.2.2.1) (rm := rm) (rs := rs) (ma := ma) (SP := SP) (re := re) (n := n) (u := ov u) rfl
  by_cases hk : t.2.1 = 3
  · obtain ⟨q, hq, hst, hsg⟩ := T.w3 hk
    obtain ⟨hm, ht, hn, hB⟩ := id H
    have hen := T.e.2
    have hby := c_byte (mz := mz) (rd := (ra, rp, nb, cc, cp)) (hi := hi) (sc := sc) (pl := pl) (dr := dr) (wa := wa) (wb := wb) (rc := rc) hm ht (tk := tC n t) (k := q) (by omega)
    rw [← hst] at hby
    have hcs : EX7_isSign [.ref 4, .int c] (CH mz tp (tC n t) (ra, rp, nb, cc, cp) hi sc pl dr wa wb rc) = some (decide (nI (bt tp.1 q) = c)) := by
      rw [eX7_isSign_s, qX7_isSign_0, if_pos hk, qX7_isSign_16 (h := hby)]
      by_cases h : nI (bt tp.1 q) = c
      · rw [if_pos h, decide_eq_true h]
      · rw [if_neg h, decide_eq_false h]
    by_cases h : nI (bt tp.1 q) = c
    · obtain ⟨e2, t2, u2, SP2, T2, A2, g1, g2⟩ := t_go (mz := mz) (ra := ra) (rp := rp) (nb := nb) (cc := cc) (cp := cp) (hi := hi) (sc := sc) (pl := pl) (dr := dr) (wa := wa) (wb := wb) (rc := rc) (o := o) (th := th) (mtr := mtr) (wh := wh) (ta := ta) (mfa := mfa) (mo := mo) (sd := sd) (ac := ac) (mk := mk) (mq := mq) (wr := wr) (rm := rm) (rs := rs) (SP := SP) (re := re) H hen T.e.1 (T.sp (Or.inr (Or.inr hk))) T.over
      refine Or.inl ⟨hk, e2, t2, u2, SP2, T2, A2, ?_, ?_, ?_⟩
      · rw [eX4_takeSign_s, qX4_takeSign_0, qX4_takeSign_5 (h := hcs), decide_eq_true h, if_b2i, if_pos rfl, qX4_takeSign_21 (h := g1)]
      · rw [eX12_needsSign_s_m, qX12_needsSign_0_m, if_pos (T.k3.mp hk), hsg, if_pos h, ← hsg, qX12_needsSign_22_m (h := g2)]
      · rw [eX12_eatsSign_s_m, qX12_eatsSign_0_m, if_pos (T.k3.mp hk), hsg, if_pos h, ← hsg, qX12_eatsSign_21_m, if_neg (by decide), qX12_eatsSign_27_m (h := g2)]
        rfl
    · refine Or.inr ⟨?_, ?_, ?_⟩
      · rw [eX4_takeSign_s, qX4_takeSign_0, qX4_takeSign_5 (h := hcs), decide_eq_false h, if_b2i, if_neg (by decide)]
      · rw [← T.pc, eX12_needsSign_s_m, qX12_needsSign_0_m, if_pos (T.k3.mp hk), hsg, if_neg h, ← hsg, qX12_needsSign_18_m (h := hfl), qX12_needsSign_22_m (h := hgo5)]
      · rw [eX12_eatsSign_s_m, qX12_eatsSign_0_m, if_pos (T.k3.mp hk), hsg, if_neg h, ← hsg, qX12_eatsSign_20_m, qX12_eatsSign_21_m, if_pos rfl]
        rfl
  · refine Or.inr ⟨?_, ?_, ?_⟩
    · have hcs : EX7_isSign [.ref 4, .int c] (CH mz tp (tC n t) (ra, rp, nb, cc, cp) hi sc pl dr wa wb rc) = some false := by
        rw [eX7_isSign_s, qX7_isSign_0, if_neg hk]
      rw [eX4_takeSign_s, qX4_takeSign_0, qX4_takeSign_5 (h := hcs), if_b2i, if_neg (by decide)]
    · rw [← T.pc, eX12_needsSign_s_m, qX12_needsSign_0_m, if_neg (fun h => hk (T.k3.mpr h)), qX12_needsSign_18_m (h := hfl), qX12_needsSign_22_m (h := hgo5)]
    · rw [eX12_eatsSign_s_m, qX12_eatsSign_0_m, if_neg (fun h => hk (T.k3.mpr h)), qX12_eatsSign_20_m, qX12_eatsSign_21_m, if_pos rfl]
      rfl
/-- the same word by the letters and by the codes -/
theorem t_isW {a a2 : Nat} {s : Nat → Nat} {L : Nat} (H : Ctx tp ma m n) (T : Tk (bt tp.1) n e t u SP) (S : St a s L) (S2 : St a2 s L) (hL : L ≤ 8) (hs : Lt s 0 L) : ∃ b : Bool, (b = true → t.2.1 = 1) ∧ EX7_isWord [.ref 4, .ref a] (CH mz tp (tC n t) (ra, rp, nb, cc, cp) hi sc pl dr wa wb rc) = some b ∧ EX12_isWord [.ref 0, .ref a2] (MM o (th, mtr, wh, ta, mfa, mo, sd, ac, mk) (mU mq n u wr rm rs) (mAq ma SP) re) = some b := by
  by_cases hk : t.2.1 = 1
  · obtain ⟨q, g1, g2, g3, g4, g5, g6, g7, g8⟩ := T.w1 hk
    obtain ⟨hm, ht, hn, hB⟩ := id H
    have hE := T.e
    have hc := c_isWord (mz := mz) (rd := (ra, rp, nb, cc, cp)) (hi := hi) (sc := sc) (pl := pl) (dr := dr) (wa := wa) (wb := wb) (rc := rc) S hm ht hn (ed := nI n) (va := t.2.2.2.1) (co := t.2.2.2.2) (q := q) (e := e) (by omega) hE.2
    have hm2 := t_isWord (o := o) (th := th) (mtr := mtr) (wh := wh) (ta := ta) (mfa := mfa) (mo := mo) (sd := sd) (ac := ac) (mk := mk) (mq := mq) (wr := wr) (rm := rm) (rs := rs) (ma := ma) (SP := SP) (re := re) (n := n) S2 (T.k1.mp hk)
    refine ⟨_, fun _ => hk, ?_, hm2⟩
    show EX7_isWord [.ref 4, .ref a] (CH mz tp (tK (nI n) t.1 t.2.1 t.2.2.1 t.2.2.2.1 t.2.2.2.2) (ra, rp, nb, cc, cp) hi sc pl dr wa wb rc) = _
    rw [hE.1, hk, g1, hc, g6]
    congr 1
    refine decide_eq_decide.mpr ?_
    rw [cd_inj g3 hL g7 hs]
    refine ⟨fun h => ⟨h.1, fun k hk => by rw [Nat.zero_add]; exact h.2 k hk⟩, fun h => ⟨h.1, fun k hk => by rw [h.2 k hk, Nat.zero_add]⟩⟩
  · exact ⟨false, fun h => absurd h (by decide), c_isWordN hk, o_isWord (fun h => hk (T.k1.mpr h))⟩
theorem t_word {a a2 : Nat} {s : Nat → Nat} {L : Nat} (H : Ctx tp ma m n) (T : Tk (bt tp.1) n e t u SP) (S : St a s L) (S2 : St a2 s L) (hL : L ≤ 8) (hs : Lt s 0 L) :
    (∃ e2 t2 u2 SP2, Tk (bt tp.1) n e2 t2 u2 SP2 ∧ Af e e2 t2 ∧ EX4_takeWord [.ref 3, .ref a] (CH mz tp (tC n t) (ra, rp, nb, cc, cp) hi sc pl dr wa wb rc) = some (true, (CH mz tp (tC n t2) (ra, rp, nb, cc, cp) hi sc pl dr wa wb rc)) ∧ EX12_needs [.ref 0, .ref a2] (MM o (th, mtr, wh, ta, mfa, mo, sd, ac, mk) (mU mq n u wr rm rs) (mAq ma SP) re) = some (MM o (th, mtr, wh, ta, mfa, mo, sd, ac, mk) (mU mq n u2 wr rm rs) (mAq ma SP2) re)) ∨
    (EX4_takeWord [.ref 3, .ref a] (CH mz tp (tC n t) (ra, rp, nb, cc, cp) hi sc pl dr wa wb rc) = some (false, (CH mz tp (tC n t) (1, t.2.2.1, nb, cc, cp) hi sc pl dr wa wb rc)) ∧ EX12_needs [.ref 0, .ref a2] (MM o (th, mtr, wh, ta, mfa, mo, sd, ac, mk) (mU mq n u wr rm rs) (mAq ma SP) re) = some (MM o (th, mtr, wh, ta, 1, mo, sd, ac, mk) (mU mq n (ov u) t.2.2.1 rm rs) (mAq ma SP) re)) := by
  have hfl := t_flaw (o := o) (th := th) (mtr := mtr) (wh := wh) (ta := ta) (mfa := mfa) (mo := mo) (sd := sd) (ac := ac) (mk := mk) (mq := mq) (wr := wr) (rm := rm) (rs := rs) (ma := ma) (SP := SP) (re := re) (n := n) T.over 1
  have hgo5 := o_go (o := o) (th := th) (mtr := mtr) (wh := wh) (ta := ta) (mfa := 1) (mo := mo) (sd := sd) (ac := ac) (mk := mk) (mq := mq) (wr := u.2.2.1) (rm := rm) (rs := rs) (ma := ma) (SP := SP) (re := re) (n := n) (u := ov u) rfl
  obtain ⟨b, hb, i1, i2⟩ := t_isW (mz := mz) (ra := ra) (rp := rp) (nb := nb) (cc := cc) (cp := cp) (hi := hi) (sc := sc) (pl := pl) (dr := dr) (wa := wa) (wb := wb) (rc := rc) (o := o) (th := th) (mtr := mtr) (wh := wh) (ta := ta) (mfa := mfa) (mo := mo) (sd := sd) (ac := ac) (mk := mk) (mq := mq) (wr := wr) (rm := rm) (rs := rs) (re := re) H T S S2 hL hs
  cases b with
  | true =>
    obtain ⟨e2, t2, u2, SP2, T2, A2, g1, g2⟩ := t_go (mz := mz) (ra := ra) (rp := rp) (nb := nb) (cc := cc) (cp := cp) (hi := hi) (sc := sc) (pl := pl) (dr := dr) (wa := wa) (wb := wb) (rc := rc) (o := o) (th := th) (mtr := mtr) (wh := wh) (ta := ta) (mfa := mfa) (mo := mo) (sd := sd) (ac := ac) (mk := mk) (mq := mq) (wr := wr) (rm := rm) (rs := rs) (SP := SP) (re := re) H T.e.2 T.e.1 (T.sp (Or.inl (hb rfl))) T.over
    refine Or.inl ⟨e2, t2, u2, SP2, T2, A2, ?_, ?_⟩
    · rw [eX4_takeWord_s, qX4_takeWord_0, qX4_takeWord_5 (h := i1), if_b2i, if_pos rfl, qX4_takeWord_21 (h := g1)]
    · rw [eX12_needs_s_m, qX12_needs_0_m, qX12_needs_2_m (h := i2), if_b2i, if_pos rfl, qX12_needs_14_m (h := g2)]
  | false =>
    refine Or.inr ⟨?_, ?_⟩
    · rw [eX4_takeWord_s, qX4_takeWord_0, qX4_takeWord_5 (h := i1), if_b2i, if_neg (by decide)]
    · rw [← T.pc, eX12_needs_s_m, qX12_needs_0_m, qX12_needs_2_m (h := i2), if_b2i, if_neg (by decide), qX12_needs_10_m (h := hfl), qX12_needs_14_m (h := hgo5)]
end
