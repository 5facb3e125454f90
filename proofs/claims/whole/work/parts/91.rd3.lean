/-! Rows. -/
def okl (z : Int32) (b : Nat) : Prop := b = 109 ∨ b = 115 ∨ (z ≠ 0 ∧ b = 97)
def pmk (L : Nat) (b : Nat → Nat) (w l : Nat) : Nat → Int64
  | 0 => 0
  | x + 1 => if b x = L then pmk L b w l x ||| bitL (nI (w * l + x)) else pmk L b w l x
theorem pmk_s (L : Nat) (b : Nat → Nat) (w l x : Nat) : pmk L b w l (x + 1) = if b x = L then pmk L b w l x ||| bitL (nI (w * l + x)) else pmk L b w l x := rfl
theorem pmk_sub (L : Nat) (b : Nat → Nat) {w l h : Nat} (hl : l < h) (hn : w * h ≤ 48) : ∀ x, x ≤ w → Sub (pmk L b w l x) (w * h) := fun x => by
  induction x with
  | zero => intro _ k hk; rw [show pmk L b w l 0 = 0 from rfl, tb_0] at hk; exact absurd hk (by decide)
  | succ x ih =>
    intro hx
    have hr : w * (l + 1) ≤ w * h := Nat.mul_le_mul_left w (by omega)
    rw [Nat.mul_succ] at hr
    rw [pmk_s]
    split
    · intro k hk
      rw [tb_or, Bool.or_eq_true] at hk
      rcases hk with hk | hk
      · exact ih (by omega) k hk
      · rw [tb_bit _ (by omega), decide_eq_true_iff] at hk
        omega
    · exact ih (by omega)
theorem Sub_orL {x y : Int64} {n : Nat} (h1 : Sub x n) (h2 : Sub y n) : Sub (x ||| y) n := fun k hk => by
  rw [tb_or, Bool.or_eq_true] at hk
  rcases hk with hk | hk
  · exact h1 k hk
  · exact h2 k hk
theorem orL0 (x : Int64) : x ||| 0 = x := tb_ext (fun k _ => by rw [tb_or, tb_0, Bool.or_false])
theorem row_first (z : Int32) (b : Nat → Nat) (w : Nat) : (∀ x, x < w → okl z (b x)) ∨ ∃ x0, x0 < w ∧ (∀ x, x < x0 → okl z (b x)) ∧ ¬ okl z (b x0) := by
  induction w with
  | zero => exact Or.inl (fun x hx => by omega)
  | succ w ih =>
    rcases ih with h | ⟨x0, h1, h2, h3⟩
    · by_cases hb : okl z (b w)
      · refine Or.inl (fun x hx => ?_)
        by_cases e : x = w
        · rw [e]; exact hb
        · exact h x (by omega)
      · exact Or.inr ⟨w, by omega, h, hb⟩
    · exact Or.inr ⟨x0, by omega, h2, h3⟩
section
variable {mz : MzS} {tp : TpS} {ra rp nb cc cp : Int32} {hi : HiS} {sc : ScS} {pl dr : PlS} {wa wb : WaS} {rc : Nat → Int32} {o : Option MeS} {th mtr wh ta mfa : Int32} {mo : Int64} {sd ac mk : Int32} {mq : MsS} {wr : Int32} {rm rs : Int64} {ma : MaS} {SP : Nat → Int32} {re : MeS} {m n e : Nat} {t : TT} {u : UU}
theorem c_letter (H : Ctx tp ma m n) {q x : Nat} (hq : t.2.2.1 = nI q) (hx : q + x < n) : EX7_letter [.ref 4, .int (nI x)] (CH mz tp (tC n t) (ra, rp, nb, cc, cp) hi sc pl dr wa wb rc) = some (nI (bt tp.1 (q + x))) := by
  obtain ⟨hm, ht, hn, hB⟩ := H
  rw [eX7_letter_s, qX7_letter_0, hq, nI_add, ← hq, qX7_letter_10 (h := c_byte hm ht (by omega))]
/-- the model reads a row's letters -/
theorem m_cells (H : Ctx tp ma m n) (z : Int32) {q w l x0 : Nat} (hw : re.1.1 = nI w) (hw8 : w ≤ 8) (hl : l < 900) (hx0 : x0 ≤ w) (hSP : ∀ i, i < w → SP i = nI (bt tp.1 (q + i))) (h5 : u.2.1 ≠ 5) (hok : ∀ x, x < x0 → okl z (bt tp.1 (q + x))) {R : Option HP} (hend : ∀ k, BX12_readCells_54 k [(0, .ref 0), (1, .int (nI l)), (2, .int z), (3, .int (nI x0))] [] (MM o (th, mtr, wh, ta, mfa, mo, sd, ac, mk) (mU mq n u wr (pmk 109 (fun x => bt tp.1 (q + x)) w l x0) (pmk 115 (fun x => bt tp.1 (q + x)) w l x0)) (mAq ma SP) re) = R) : lp (BX12_readCells_54) FU [(0, .ref 0), (1, .int (nI l)), (2, .int z), (3, .int 0)] [] (MM o (th, mtr, wh, ta, mfa, mo, sd, ac, mk) (mU mq n u wr 0 0) (mAq ma SP) re) = R := by
  refine lp_run (fun x => [(0, .ref 0), (1, .int (nI l)), (2, .int z), (3, .int (nI x))]) (fun x => (MM o (th, mtr, wh, ta, mfa, mo, sd, ac, mk) (mU mq n u wr (pmk 109 (fun x => bt tp.1 (q + x)) w l x) (pmk 115 (fun x => bt tp.1 (q + x)) w l x)) (mAq ma SP) re)) (t := x0) (by have := FU_ge; omega) (fun x hx k => ?_) hend
  have hb := bt_lt tp.1 (q + x)
  have hin := nI_in (N := 8) (by omega : x < 8) (by omega)
  rw [qX12_readCells_54_m, hw, if_le (by omega) (by omega), if_neg (by omega), if_neg h5, if_neg hin, if_neg hin, if_neg hin, nI_clamp (by omega), hSP x (by omega), show (109 : Int32) = nI 109 from rfl, show (115 : Int32) = nI 115 from rfl, show (97 : Int32) = nI 97 from rfl, if_eq (by omega) (by omega), if_eq (by omega) (by omega), if_eq (by omega) (by omega), pk_mul, nI_add, nI_1, pmk_s, pmk_s, ← hw]
  rcases hok x hx with h | h | ⟨h, h'⟩
  · rw [if_pos h, if_pos h, if_neg (by omega : ¬ bt tp.1 (q + x) = 115)]
  · rw [if_neg (by omega : ¬ bt tp.1 (q + x) = 109), if_pos h, if_neg (by omega : ¬ bt tp.1 (q + x) = 109), if_pos h]
  · rw [if_neg (by omega : ¬ bt tp.1 (q + x) = 109), if_neg (by omega : ¬ bt tp.1 (q + x) = 115), if_neg h, if_pos h', if_neg (by omega : ¬ bt tp.1 (q + x) = 109), if_neg (by omega : ¬ bt tp.1 (q + x) = 115)]

theorem c_cells_r (H : Ctx tp ma m n) (z : Int32) {q w l x0 : Nat} (hq : t.2.2.1 = nI q) (hw : dr.1.2.1 = nI w) (hl : dr.2.1.1.2.2 = nI l) (hw8 : w ≤ 8) (hen : q + w ≤ n) (hx0 : x0 ≤ w) (hok : ∀ x, x < x0 → okl z (bt tp.1 (q + x))) {R : Option (Bool × HP)} (hend : ∀ k, BX4_readRow_48 k [(0, .ref 3), (1, .ref 29), (2, .ref 32), (3, .int z), (4, .int (nI w)), (5, .int (nI x0))] [] (CH mz tp (tC n t) (ra, rp, nb, cc, cp) hi sc pl (dr.1, ((dr.2.1.1.1 ||| pmk 109 (fun x => bt tp.1 (q + x)) w l x0, dr.2.1.1.2.1 ||| pmk 115 (fun x => bt tp.1 (q + x)) w l x0, dr.2.1.1.2.2), dr.2.1.2.1, dr.2.1.2.2), dr.2.2.1, dr.2.2.2.1, dr.2.2.2.2) wa wb rc) = R) : lp (BX4_readRow_48) FU [(0, .ref 3), (1, .ref 29), (2, .ref 32), (3, .int z), (4, .int (nI w)), (5, .int 0)] [] (CH mz tp (tC n t) (ra, rp, nb, cc, cp) hi sc pl dr wa wb rc) = R := by
  have h0 : (CH mz tp (tC n t) (ra, rp, nb, cc, cp) hi sc pl dr wa wb rc) = (CH mz tp (tC n t) (ra, rp, nb, cc, cp) hi sc pl (dr.1, ((dr.2.1.1.1 ||| pmk 109 (fun x => bt tp.1 (q + x)) w l 0, dr.2.1.1.2.1 ||| pmk 115 (fun x => bt tp.1 (q + x)) w l 0, dr.2.1.1.2.2), dr.2.1.2.1, dr.2.1.2.2), dr.2.2.1, dr.2.2.2.1, dr.2.2.2.2) wa wb rc) := by
    rw [show pmk 109 (fun x => bt tp.1 (q + x)) w l 0 = 0 from rfl, show pmk 115 (fun x => bt tp.1 (q + x)) w l 0 = 0 from rfl, orL0, orL0]
  rw [h0]
  refine lp_run (fun x => [(0, .ref 3), (1, .ref 29), (2, .ref 32), (3, .int z), (4, .int (nI w)), (5, .int (nI x))]) (fun x => (CH mz tp (tC n t) (ra, rp, nb, cc, cp) hi sc pl (dr.1, ((dr.2.1.1.1 ||| pmk 109 (fun x => bt tp.1 (q + x)) w l x, dr.2.1.1.2.1 ||| pmk 115 (fun x => bt tp.1 (q + x)) w l x, dr.2.1.1.2.2), dr.2.1.2.1, dr.2.1.2.2), dr.2.2.1, dr.2.2.2.1, dr.2.2.2.2) wa wb rc)) (t := x0) (by have := FU_ge; omega) (fun x hx k => ?_) hend
  have hb := bt_lt tp.1 (q + x)
  have hlet := c_letter (mz := mz) (ra := ra) (rp := rp) (nb := nb) (cc := cc) (cp := cp) (hi := hi) (sc := sc) (pl := pl) (dr := (dr.1, ((dr.2.1.1.1 ||| pmk 109 (fun x => bt tp.1 (q + x)) w l x, dr.2.1.1.2.1 ||| pmk 115 (fun x => bt tp.1 (q + x)) w l x, dr.2.1.1.2.2), dr.2.1.2.1, dr.2.1.2.2), dr.2.2.1, dr.2.2.2.1, dr.2.2.2.2)) (wa := wa) (wb := wb) (rc := rc) (x := x) H hq (by omega)
  have htell : EX2_tell [.ref 32, .int (nI (w * l + x)), .int (nI (bt tp.1 (q + x)))] (CH mz tp (tC n t) (ra, rp, nb, cc, cp) hi sc pl (dr.1, ((dr.2.1.1.1 ||| pmk 109 (fun x => bt tp.1 (q + x)) w l x, dr.2.1.1.2.1 ||| pmk 115 (fun x => bt tp.1 (q + x)) w l x, dr.2.1.1.2.2), dr.2.1.2.1, dr.2.1.2.2), dr.2.2.1, dr.2.2.2.1, dr.2.2.2.2) wa wb rc) = some (CH mz tp (tC n t) (ra, rp, nb, cc, cp) hi sc pl (dr.1, ((dr.2.1.1.1 ||| pmk 109 (fun x => bt tp.1 (q + x)) w l (x + 1), dr.2.1.1.2.1 ||| pmk 115 (fun x => bt tp.1 (q + x)) w l (x + 1), dr.2.1.1.2.2), dr.2.1.2.1, dr.2.1.2.2), dr.2.2.1, dr.2.2.2.1, dr.2.2.2.2) wa wb rc) := by
    rw [eX2_tell_s_r, qX2_tell_0_r, show (109 : Int32) = nI 109 from rfl, show (115 : Int32) = nI 115 from rfl, if_eq (by omega) (by omega), if_eq (by omega) (by omega), pmk_s, pmk_s]
    by_cases h1 : bt tp.1 (q + x) = 109
    · rw [if_pos h1, if_pos h1, if_neg (by omega : ¬ bt tp.1 (q + x) = 115), ← Int64.or_assoc]
    · rw [if_neg h1, if_neg h1]
      by_cases h2 : bt tp.1 (q + x) = 115
      · rw [if_pos h2, if_pos h2, ← Int64.or_assoc]
      · rw [if_neg h2, if_neg h2]
  have hx2 : dr.1.2.1 * dr.2.1.1.2.2 + nI x = nI (w * l + x) := by rw [hw, hl, pk_mul, nI_add]
  rw [qX4_readRow_48_r, if_le (by omega) (by omega), if_neg (by omega), qX4_readRow_61_r (h := hlet)]
  dsimp only
  rw [hx2, qX4_readRow_114_r (h := htell), show (109 : Int32) = nI 109 from rfl, show (115 : Int32) = nI 115 from rfl, show (97 : Int32) = nI 97 from rfl, if_eq (by omega) (by omega), if_eq (by omega) (by omega), if_eq (by omega) (by omega), nI_1]
  rcases hok x hx with h | h | ⟨h, h'⟩
  · rw [if_pos h]
  · rw [if_neg (by omega : ¬ bt tp.1 (q + x) = 109), if_pos h]
  · rw [if_neg (by omega : ¬ bt tp.1 (q + x) = 109), if_neg (by omega : ¬ bt tp.1 (q + x) = 115), if_neg h, if_pos h']

theorem c_cells_w (H : Ctx tp ma m n) (z : Int32) {q w l x0 : Nat} (hq : t.2.2.1 = nI q) (hw : dr.1.2.1 = nI w) (hl : dr.2.1.2.1.2.2 = nI l) (hw8 : w ≤ 8) (hen : q + w ≤ n) (hx0 : x0 ≤ w) (hok : ∀ x, x < x0 → okl z (bt tp.1 (q + x))) {R : Option (Bool × HP)} (hend : ∀ k, BX4_readRow_48 k [(0, .ref 3), (1, .ref 29), (2, .ref 33), (3, .int z), (4, .int (nI w)), (5, .int (nI x0))] [] (CH mz tp (tC n t) (ra, rp, nb, cc, cp) hi sc pl (dr.1, (dr.2.1.1, (dr.2.1.2.1.1 ||| pmk 109 (fun x => bt tp.1 (q + x)) w l x0, dr.2.1.2.1.2.1 ||| pmk 115 (fun x => bt tp.1 (q + x)) w l x0, dr.2.1.2.1.2.2), dr.2.1.2.2), dr.2.2.1, dr.2.2.2.1, dr.2.2.2.2) wa wb rc) = R) : lp (BX4_readRow_48) FU [(0, .ref 3), (1, .ref 29), (2, .ref 33), (3, .int z), (4, .int (nI w)), (5, .int 0)] [] (CH mz tp (tC n t) (ra, rp, nb, cc, cp) hi sc pl dr wa wb rc) = R := by
  have h0 : (CH mz tp (tC n t) (ra, rp, nb, cc, cp) hi sc pl dr wa wb rc) = (CH mz tp (tC n t) (ra, rp, nb, cc, cp) hi sc pl (dr.1, (dr.2.1.1, (dr.2.1.2.1.1 ||| pmk 109 (fun x => bt tp.1 (q + x)) w l 0, dr.2.1.2.1.2.1 ||| pmk 115 (fun x => bt tp.1 (q + x)) w l 0, dr.2.1.2.1.2.2), dr.2.1.2.2), dr.2.2.1, dr.2.2.2.1, dr.2.2.2.2) wa wb rc) := by
    rw [show pmk 109 (fun x => bt tp.1 (q + x)) w l 0 = 0 from rfl, show pmk 115 (fun x => bt tp.1 (q + x)) w l 0 = 0 from rfl, orL0, orL0]
  rw [h0]
  refine lp_run (fun x => [(0, .ref 3), (1, .ref 29), (2, .ref 33), (3, .int z), (4, .int (nI w)), (5, .int (nI x))]) (fun x => (CH mz tp (tC n t) (ra, rp, nb, cc, cp) hi sc pl (dr.1, (dr.2.1.1, (dr.2.1.2.1.1 ||| pmk 109 (fun x => bt tp.1 (q + x)) w l x, dr.2.1.2.1.2.1 ||| pmk 115 (fun x => bt tp.1 (q + x)) w l x, dr.2.1.2.1.2.2), dr.2.1.2.2), dr.2.2.1, dr.2.2.2.1, dr.2.2.2.2) wa wb rc)) (t := x0) (by have := FU_ge; omega) (fun x hx k => ?_) hend
  have hb := bt_lt tp.1 (q + x)
  have hlet := c_letter (mz := mz) (ra := ra) (rp := rp) (nb := nb) (cc := cc) (cp := cp) (hi := hi) (sc := sc) (pl := pl) (dr := (dr.1, (dr.2.1.1, (dr.2.1.2.1.1 ||| pmk 109 (fun x => bt tp.1 (q + x)) w l x, dr.2.1.2.1.2.1 ||| pmk 115 (fun x => bt tp.1 (q + x)) w l x, dr.2.1.2.1.2.2), dr.2.1.2.2), dr.2.2.1, dr.2.2.2.1, dr.2.2.2.2)) (wa := wa) (wb := wb) (rc := rc) (x := x) H hq (by omega)
  have htell : EX2_tell [.ref 33, .int (nI (w * l + x)), .int (nI (bt tp.1 (q + x)))] (CH mz tp (tC n t) (ra, rp, nb, cc, cp) hi sc pl (dr.1, (dr.2.1.1, (dr.2.1.2.1.1 ||| pmk 109 (fun x => bt tp.1 (q + x)) w l x, dr.2.1.2.1.2.1 ||| pmk 115 (fun x => bt tp.1 (q + x)) w l x, dr.2.1.2.1.2.2), dr.2.1.2.2), dr.2.2.1, dr.2.2.2.1, dr.2.2.2.2) wa wb rc) = some (CH mz tp (tC n t) (ra, rp, nb, cc, cp) hi sc pl (dr.1, (dr.2.1.1, (dr.2.1.2.1.1 ||| pmk 109 (fun x => bt tp.1 (q + x)) w l (x + 1), dr.2.1.2.1.2.1 ||| pmk 115 (fun x => bt tp.1 (q + x)) w l (x + 1), dr.2.1.2.1.2.2), dr.2.1.2.2), dr.2.2.1, dr.2.2.2.1, dr.2.2.2.2) wa wb rc) := by
    rw [eX2_tell_s_w, qX2_tell_0_w, show (109 : Int32) = nI 109 from rfl, show (115 : Int32) = nI 115 from rfl, if_eq (by omega) (by omega), if_eq (by omega) (by omega), pmk_s, pmk_s]
    by_cases h1 : bt tp.1 (q + x) = 109
    · rw [if_pos h1, if_pos h1, if_neg (by omega : ¬ bt tp.1 (q + x) = 115), ← Int64.or_assoc]
    · rw [if_neg h1, if_neg h1]
      by_cases h2 : bt tp.1 (q + x) = 115
      · rw [if_pos h2, if_pos h2, ← Int64.or_assoc]
      · rw [if_neg h2, if_neg h2]
  have hx2 : dr.1.2.1 * dr.2.1.2.1.2.2 + nI x = nI (w * l + x) := by rw [hw, hl, pk_mul, nI_add]
  rw [qX4_readRow_48_w, if_le (by omega) (by omega), if_neg (by omega), qX4_readRow_61_w (h := hlet)]
  dsimp only
  rw [hx2, qX4_readRow_114_w (h := htell), show (109 : Int32) = nI 109 from rfl, show (115 : Int32) = nI 115 from rfl, show (97 : Int32) = nI 97 from rfl, if_eq (by omega) (by omega), if_eq (by omega) (by omega), if_eq (by omega) (by omega), nI_1]
  rcases hok x hx with h | h | ⟨h, h'⟩
  · rw [if_pos h]
  · rw [if_neg (by omega : ¬ bt tp.1 (q + x) = 109), if_pos h]
  · rw [if_neg (by omega : ¬ bt tp.1 (q + x) = 109), if_neg (by omega : ¬ bt tp.1 (q + x) = 115), if_neg h, if_pos h']

theorem c_cells_m (H : Ctx tp ma m n) (z : Int32) {q w l x0 : Nat} (hq : t.2.2.1 = nI q) (hw : dr.1.2.1 = nI w) (hl : dr.2.1.2.2.2.2 = nI l) (hw8 : w ≤ 8) (hen : q + w ≤ n) (hx0 : x0 ≤ w) (hok : ∀ x, x < x0 → okl z (bt tp.1 (q + x))) {R : Option (Bool × HP)} (hend : ∀ k, BX4_readRow_48 k [(0, .ref 3), (1, .ref 29), (2, .ref 34), (3, .int z), (4, .int (nI w)), (5, .int (nI x0))] [] (CH mz tp (tC n t) (ra, rp, nb, cc, cp) hi sc pl (dr.1, (dr.2.1.1, dr.2.1.2.1, (dr.2.1.2.2.1 ||| pmk 109 (fun x => bt tp.1 (q + x)) w l x0, dr.2.1.2.2.2.1 ||| pmk 115 (fun x => bt tp.1 (q + x)) w l x0, dr.2.1.2.2.2.2)), dr.2.2.1, dr.2.2.2.1, dr.2.2.2.2) wa wb rc) = R) : lp (BX4_readRow_48) FU [(0, .ref 3), (1, .ref 29), (2, .ref 34), (3, .int z), (4, .int (nI w)), (5, .int 0)] [] (CH mz tp (tC n t) (ra, rp, nb, cc, cp) hi sc pl dr wa wb rc) = R := by
  have h0 : (CH mz tp (tC n t) (ra, rp, nb, cc, cp) hi sc pl dr wa wb rc) = (CH mz tp (tC n t) (ra, rp, nb, cc, cp) hi sc pl (dr.1, (dr.2.1.1, dr.2.1.2.1, (dr.2.1.2.2.1 ||| pmk 109 (fun x => bt tp.1 (q + x)) w l 0, dr.2.1.2.2.2.1 ||| pmk 115 (fun x => bt tp.1 (q + x)) w l 0, dr.2.1.2.2.2.2)), dr.2.2.1, dr.2.2.2.1, dr.2.2.2.2) wa wb rc) := by
    rw [show pmk 109 (fun x => bt tp.1 (q + x)) w l 0 = 0 from rfl, show pmk 115 (fun x => bt tp.1 (q + x)) w l 0 = 0 from rfl, orL0, orL0]
  rw [h0]
  refine lp_run (fun x => [(0, .ref 3), (1, .ref 29), (2, .ref 34), (3, .int z), (4, .int (nI w)), (5, .int (nI x))]) (fun x => (CH mz tp (tC n t) (ra, rp, nb, cc, cp) hi sc pl (dr.1, (dr.2.1.1, dr.2.1.2.1, (dr.2.1.2.2.1 ||| pmk 109 (fun x => bt tp.1 (q + x)) w l x, dr.2.1.2.2.2.1 ||| pmk 115 (fun x => bt tp.1 (q + x)) w l x, dr.2.1.2.2.2.2)), dr.2.2.1, dr.2.2.2.1, dr.2.2.2.2) wa wb rc)) (t := x0) (by have := FU_ge; omega) (fun x hx k => ?_) hend
  have hb := bt_lt tp.1 (q + x)
  have hlet := c_letter (mz := mz) (ra := ra) (rp := rp) (nb := nb) (cc := cc) (cp := cp) (hi := hi) (sc := sc) (pl := pl) (dr := (dr.1, (dr.2.1.1, dr.2.1.2.1, (dr.2.1.2.2.1 ||| pmk 109 (fun x => bt tp.1 (q + x)) w l x, dr.2.1.2.2.2.1 ||| pmk 115 (fun x => bt tp.1 (q + x)) w l x, dr.2.1.2.2.2.2)), dr.2.2.1, dr.2.2.2.1, dr.2.2.2.2)) (wa := wa) (wb := wb) (rc := rc) (x := x) H hq (by omega)
  have htell : EX2_tell [.ref 34, .int (nI (w * l + x)), .int (nI (bt tp.1 (q + x)))] (CH mz tp (tC n t) (ra, rp, nb, cc, cp) hi sc pl (dr.1, (dr.2.1.1, dr.2.1.2.1, (dr.2.1.2.2.1 ||| pmk 109 (fun x => bt tp.1 (q + x)) w l x, dr.2.1.2.2.2.1 ||| pmk 115 (fun x => bt tp.1 (q + x)) w l x, dr.2.1.2.2.2.2)), dr.2.2.1, dr.2.2.2.1, dr.2.2.2.2) wa wb rc) = some (CH mz tp (tC n t) (ra, rp, nb, cc, cp) hi sc pl (dr.1, (dr.2.1.1, dr.2.1.2.1, (dr.2.1.2.2.1 ||| pmk 109 (fun x => bt tp.1 (q + x)) w l (x + 1), dr.2.1.2.2.2.1 ||| pmk 115 (fun x => bt tp.1 (q + x)) w l (x + 1), dr.2.1.2.2.2.2)), dr.2.2.1, dr.2.2.2.1, dr.2.2.2.2) wa wb rc) := by
    rw [eX2_tell_s_m, qX2_tell_0_m, show (109 : Int32) = nI 109 from rfl, show (115 : Int32) = nI 115 from rfl, if_eq (by omega) (by omega), if_eq (by omega) (by omega), pmk_s, pmk_s]
    by_cases h1 : bt tp.1 (q + x) = 109
    · rw [if_pos h1, if_pos h1, if_neg (by omega : ¬ bt tp.1 (q + x) = 115), ← Int64.or_assoc]
    · rw [if_neg h1, if_neg h1]
      by_cases h2 : bt tp.1 (q + x) = 115
      · rw [if_pos h2, if_pos h2, ← Int64.or_assoc]
      · rw [if_neg h2, if_neg h2]
  have hx2 : dr.1.2.1 * dr.2.1.2.2.2.2 + nI x = nI (w * l + x) := by rw [hw, hl, pk_mul, nI_add]
  rw [qX4_readRow_48_m, if_le (by omega) (by omega), if_neg (by omega), qX4_readRow_61_m (h := hlet)]
  dsimp only
  rw [hx2, qX4_readRow_114_m (h := htell), show (109 : Int32) = nI 109 from rfl, show (115 : Int32) = nI 115 from rfl, show (97 : Int32) = nI 97 from rfl, if_eq (by omega) (by omega), if_eq (by omega) (by omega), if_eq (by omega) (by omega), nI_1]
  rcases hok x hx with h | h | ⟨h, h'⟩
  · rw [if_pos h]
  · rw [if_neg (by omega : ¬ bt tp.1 (q + x) = 109), if_pos h]
  · rw [if_neg (by omega : ¬ bt tp.1 (q + x) = 109), if_neg (by omega : ¬ bt tp.1 (q + x) = 115), if_neg h, if_pos h']
end
