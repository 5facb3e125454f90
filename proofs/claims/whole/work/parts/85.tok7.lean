/-! One word of a list. -/
def pks (ki : Int32) (co : Int64) (C : Nat → Int64) : Nat → Nat → Int32
  | 0, _ => -1
  | d + 1, j => if ki = 1 ∧ co = C j then nI j else pks ki co C d (j + 1)
theorem pks_spec (ki : Int32) (co : Int64) (C : Nat → Int64) (d j : Nat) : (∃ i, j ≤ i ∧ i < j + d ∧ pks ki co C d j = nI i ∧ ki = 1 ∧ co = C i ∧ ∀ l, j ≤ l → l < i → ¬ (ki = 1 ∧ co = C l)) ∨ (pks ki co C d j = -1 ∧ ∀ l, j ≤ l → l < j + d → ¬ (ki = 1 ∧ co = C l)) := by
  induction d generalizing j with
  | zero => exact Or.inr ⟨rfl, fun l h1 h2 => by omega⟩
  | succ d ih =>
    by_cases h : ki = 1 ∧ co = C j
    · exact Or.inl ⟨j, Nat.le_refl _, by omega, if_pos h, h.1, h.2, fun l h1 h2 => by omega⟩
    · have e : pks ki co C (d + 1) j = pks ki co C d (j + 1) := if_neg h
      rcases ih (j + 1) with ⟨i, h1, h2, h3, h4, h5, h6⟩ | ⟨h1, h2⟩
      · refine Or.inl ⟨i, by omega, by omega, e.trans h3, h4, h5, fun l h7 h8 => ?_⟩
        by_cases e2 : l = j
        · rw [e2]; exact h
        · exact h6 l (by omega) h8
      · refine Or.inr ⟨e.trans h1, fun l h7 h8 => ?_⟩
        by_cases e2 : l = j
        · rw [e2]; exact h
        · exact h2 l (by omega) (by omega)
theorem pick_c (s : Nat → Nat) (ki : Int32) (co : Int64) (x : Nat × Nat × Nat) (t : List (Nat × Nat × Nat)) : pick s ki co (x :: t) = if ki = 1 ∧ co = cdv s x.2.1 x.2.2 then nI x.1 else pick s ki co t := rfl
def CKd (j : Nat) : Int64 := ([cdv sx_27 0 4, cdv sx_28 0 5, cdv sx_29 0 4, cdv sx_30 0 3, cdv sx_31 0 3] : List Int64).getD j 0
def CSd (j : Nat) : Int64 := ([cdv sx_34 0 5, cdv sx_35 0 4, cdv sx_36 0 5, cdv sx_37 0 4] : List Int64).getD j 0
def CLn (j : Nat) : Int64 := ([cdv sx_13 0 6, cdv sx_19 0 3, cdv sx_20 0 4, cdv sx_21 0 4, cdv sx_22 0 4, cdv sx_23 0 5, cdv sx_24 0 5, cdv sx_26 0 6] : List Int64).getD j 0
theorem pk_K (ki : Int32) (co : Int64) : pick sx_7 ki co (bnd sx_7 23 (23 + 1) 0 0 0) = pks ki co CKd 5 0 := by
  rw [show bnd sx_7 23 (23 + 1) 0 0 0 = [(0, 0, 4), (1, 5, 5), (2, 11, 4), (3, 16, 3), (4, 20, 3)] from by decide +kernel]
  simp only [pick_c, pks]
  rw [show cdv sx_7 0 4 = CKd 0 from by decide +kernel, show cdv sx_7 5 5 = CKd (0 + 1) from by decide +kernel, show cdv sx_7 11 4 = CKd (0 + 1 + 1) from by decide +kernel, show cdv sx_7 16 3 = CKd (0 + 1 + 1 + 1) from by decide +kernel, show cdv sx_7 20 3 = CKd (0 + 1 + 1 + 1 + 1) from by decide +kernel]
  rfl
theorem pk_S (ki : Int32) (co : Int64) : pick sx_10 ki co (bnd sx_10 21 (21 + 1) 0 0 0) = pks ki co CSd 4 0 := by
  rw [show bnd sx_10 21 (21 + 1) 0 0 0 = [(0, 0, 5), (1, 6, 4), (2, 11, 5), (3, 17, 4)] from by decide +kernel]
  simp only [pick_c, pks]
  rw [show cdv sx_10 0 5 = CSd 0 from by decide +kernel, show cdv sx_10 6 4 = CSd (0 + 1) from by decide +kernel, show cdv sx_10 11 5 = CSd (0 + 1 + 1) from by decide +kernel, show cdv sx_10 17 4 = CSd (0 + 1 + 1 + 1) from by decide +kernel]
  rfl
theorem pk_L (ki : Int32) (co : Int64) : pick sx_0 ki co (bnd sx_0 44 (44 + 1) 0 0 0) = pks ki co CLn 8 0 := by
  rw [show bnd sx_0 44 (44 + 1) 0 0 0 = [(0, 0, 6), (1, 7, 3), (2, 11, 4), (3, 16, 4), (4, 21, 4), (5, 26, 5), (6, 32, 5), (7, 38, 6)] from by decide +kernel]
  simp only [pick_c, pks]
  rw [show cdv sx_0 0 6 = CLn 0 from by decide +kernel, show cdv sx_0 7 3 = CLn (0 + 1) from by decide +kernel, show cdv sx_0 11 4 = CLn (0 + 1 + 1) from by decide +kernel, show cdv sx_0 16 4 = CLn (0 + 1 + 1 + 1) from by decide +kernel, show cdv sx_0 21 4 = CLn (0 + 1 + 1 + 1 + 1) from by decide +kernel, show cdv sx_0 26 5 = CLn (0 + 1 + 1 + 1 + 1 + 1) from by decide +kernel, show cdv sx_0 32 5 = CLn (0 + 1 + 1 + 1 + 1 + 1 + 1) from by decide +kernel, show cdv sx_0 38 6 = CLn (0 + 1 + 1 + 1 + 1 + 1 + 1 + 1) from by decide +kernel]
  rfl
section
variable {mz : MzS} {tp : TpS} {ra rp nb cc cp : Int32} {hi : HiS} {sc : ScS} {pl dr : PlS} {wa wb : WaS} {rc : Nat → Int32} {o : Option MeS} {th mtr wh ta mfa : Int32} {mo : Int64} {sd ac mk : Int32} {mq : MsS} {wr : Int32} {rm rs : Int64} {ma : MaS} {SP : Nat → Int32} {re : MeS} {m n e : Nat} {t : TT} {u : UU}
theorem t_is {a : Nat} {s : Nat → Nat} {L : Nat} {C : Int64} (S : St a s L) (hC : cdv s 0 L = C) (T : Tk (bt tp.1) n e t u SP) : EX12_isWord [.ref 0, .ref a] (MM o (th, mtr, wh, ta, mfa, mo, sd, ac, mk) (mU mq n u wr rm rs) (mAq ma SP) re) = some (decide (t.2.1 = 1 ∧ t.2.2.2.2 = C)) := by
  by_cases hk : t.2.1 = 1
  · obtain ⟨q, g1, g2, g3, g4, g5, g6, g7, g8⟩ := T.w1 hk
    rw [t_isWord S (T.k1.mp hk), g6, ← g5, hC]
    congr 1
    exact decide_eq_decide.mpr ⟨fun h => ⟨hk, h⟩, fun h => h.2⟩
  · rw [o_isWord (fun h => hk (T.k1.mpr h)), decide_eq_false (fun h => hk h.1)]
theorem t_eatN {a : Nat} {s : Nat → Nat} {L : Nat} {C : Int64} (S : St a s L) (hC : cdv s 0 L = C) (T : Tk (bt tp.1) n e t u SP) (h : ¬ (t.2.1 = 1 ∧ t.2.2.2.2 = C)) : EX12_eatsWord [.ref 0, .ref a] (MM o (th, mtr, wh, ta, mfa, mo, sd, ac, mk) (mU mq n u wr rm rs) (mAq ma SP) re) = some (false, (MM o (th, mtr, wh, ta, mfa, mo, sd, ac, mk) (mU mq n u wr rm rs) (mAq ma SP) re)) := by
  rw [eX12_eatsWord_s_m, qX12_eatsWord_0_m, qX12_eatsWord_2_m (h := t_is S hC T), decide_eq_false h, if_b2i, if_neg (by decide)]
  rfl
theorem t_eatY {a : Nat} {s : Nat → Nat} {L : Nat} {C : Int64} {u2 : UU} {SP2 : Nat → Int32} (S : St a s L) (hC : cdv s 0 L = C) (T : Tk (bt tp.1) n e t u SP) (h : t.2.1 = 1 ∧ t.2.2.2.2 = C) (g : EX12_goesOn [.ref 0] (MM o (th, mtr, wh, ta, mfa, mo, sd, ac, mk) (mU mq n u wr rm rs) (mAq ma SP) re) = some (MM o (th, mtr, wh, ta, mfa, mo, sd, ac, mk) (mU mq n u2 wr rm rs) (mAq ma SP2) re)) : EX12_eatsWord [.ref 0, .ref a] (MM o (th, mtr, wh, ta, mfa, mo, sd, ac, mk) (mU mq n u wr rm rs) (mAq ma SP) re) = some (true, (MM o (th, mtr, wh, ta, mfa, mo, sd, ac, mk) (mU mq n u2 wr rm rs) (mAq ma SP2) re)) := by
  rw [eX12_eatsWord_s_m, qX12_eatsWord_0_m, qX12_eatsWord_2_m (h := t_is S hC T), decide_eq_true h, if_b2i, if_pos rfl, qX12_eatsWord_11_m (h := g)]
  rfl
/-- a word out of a list of words -/
theorem t_oneOf {a : Nat} {s : Nat → Nat} {L d : Nat} {C : Nat → Int64} (hd : d < 9) (S : St a s L) (hp : ∀ ki co, pick s ki co (bnd s L (L + 1) 0 0 0) = pks ki co C d 0) (H : Ctx tp ma m n) (T : Tk (bt tp.1) n e t u SP) :
    (∃ i e2 t2 u2 SP2, i < d ∧ (t.2.1 = 1 ∧ t.2.2.2.2 = C i) ∧ (∀ l, l < i → ¬ (t.2.1 = 1 ∧ t.2.2.2.2 = C l)) ∧ Tk (bt tp.1) n e2 t2 u2 SP2 ∧ Af e e2 t2 ∧ EX4_takeOneOf [.ref 3, .ref a] (CH mz tp (tC n t) (ra, rp, nb, cc, cp) hi sc pl dr wa wb rc) = some (true, (CH mz tp (tC n t2) (ra, rp, nI i, cc, cp) hi sc pl dr wa wb rc)) ∧ EX12_goesOn [.ref 0] (MM o (th, mtr, wh, ta, mfa, mo, sd, ac, mk) (mU mq n u wr rm rs) (mAq ma SP) re) = some (MM o (th, mtr, wh, ta, mfa, mo, sd, ac, mk) (mU mq n u2 wr rm rs) (mAq ma SP2) re)) ∨
    ((∀ l, l < d → ¬ (t.2.1 = 1 ∧ t.2.2.2.2 = C l)) ∧ EX4_takeOneOf [.ref 3, .ref a] (CH mz tp (tC n t) (ra, rp, nb, cc, cp) hi sc pl dr wa wb rc) = some (false, (CH mz tp (tC n t) (1, t.2.2.1, -1, cc, cp) hi sc pl dr wa wb rc))) := by
  have hN := c_numberIn (mz := mz) (tp := tp) (ed := nI n) (nx := t.1) (ki := t.2.1) (st := t.2.2.1) (va := t.2.2.2.1) (co := t.2.2.2.2) (rd := (ra, rp, nb, cc, cp)) (hi := hi) (sc := sc) (pl := pl) (dr := dr) (wa := wa) (wb := wb) (rc := rc) S
  rw [hp] at hN
  rcases pks_spec t.2.1 t.2.2.2.2 C d 0 with ⟨i, h1, h2, h3, h4, h5, h6⟩ | ⟨h1, h2⟩
  · obtain ⟨e2, t2, u2, SP2, T2, A2, g1, g2⟩ := t_go (mz := mz) (ra := ra) (rp := rp) (nb := nI i) (cc := cc) (cp := cp) (hi := hi) (sc := sc) (pl := pl) (dr := dr) (wa := wa) (wb := wb) (rc := rc) (o := o) (th := th) (mtr := mtr) (wh := wh) (ta := ta) (mfa := mfa) (mo := mo) (sd := sd) (ac := ac) (mk := mk) (mq := mq) (wr := wr) (rm := rm) (rs := rs) (ma := ma) (re := re) (SP := SP) H T.e.2 T.e.1 (T.sp (Or.inl h4)) T.over
    refine Or.inl ⟨i, e2, t2, u2, SP2, by omega, ⟨h4, h5⟩, fun l hl => h6 l (by omega) hl, T2, A2, ?_, g2⟩
    rw [h3] at hN
    rw [eX4_takeOneOf_s, qX4_takeOneOf_0, qX4_takeOneOf_6 (h := hN), if_neg (nI_m1 (by omega)), qX4_takeOneOf_30 (h := g1)]
  · refine Or.inr ⟨fun l hl => h2 l (by omega) (by omega), ?_⟩
    rw [h1] at hN
    rw [eX4_takeOneOf_s, qX4_takeOneOf_0, qX4_takeOneOf_6 (h := hN), if_pos rfl]
/-- the sort of a line, for both -/
theorem t_sort (T : Tk (bt tp.1) n e t u SP) :
    (∃ i, i < 8 ∧ (t.2.1 = 1 ∧ t.2.2.2.2 = CLn i) ∧ (∀ l, l < i → ¬ (t.2.1 = 1 ∧ t.2.2.2.2 = CLn l)) ∧ EX7_numberIn [.ref 4, .ref 2000] (CH mz tp (tC n t) (ra, rp, nb, cc, cp) hi sc pl dr wa wb rc) = some (nI i)) ∨
    ((∀ l, l < 8 → ¬ (t.2.1 = 1 ∧ t.2.2.2.2 = CLn l)) ∧ EX7_numberIn [.ref 4, .ref 2000] (CH mz tp (tC n t) (ra, rp, nb, cc, cp) hi sc pl dr wa wb rc) = some (-1)) := by
  have hN := c_numberIn (mz := mz) (tp := tp) (ed := nI n) (nx := t.1) (ki := t.2.1) (st := t.2.2.1) (va := t.2.2.2.1) (co := t.2.2.2.2) (rd := (ra, rp, nb, cc, cp)) (hi := hi) (sc := sc) (pl := pl) (dr := dr) (wa := wa) (wb := wb) (rc := rc) St_0
  rw [pk_L] at hN
  rcases pks_spec t.2.1 t.2.2.2.2 CLn 8 0 with ⟨i, h1, h2, h3, h4, h5, h6⟩ | ⟨h1, h2⟩
  · rw [h3] at hN
    exact Or.inl ⟨i, by omega, ⟨h4, h5⟩, fun l hl => h6 l (by omega) hl, hN⟩
  · rw [h1] at hN
    exact Or.inr ⟨fun l hl => h2 l (by omega) (by omega), hN⟩
/-- a walker's name, in the model -/
theorem t_nameY (T : Tk (bt tp.1) n e t u SP) (hk : t.2.1 = 1) (h : ∀ l, l < 8 → ¬ (t.2.1 = 1 ∧ t.2.2.2.2 = CLn l)) : EX12_isName [.ref 0] (MM o (th, mtr, wh, ta, mfa, mo, sd, ac, mk) (mU mq n u wr rm rs) (mAq ma SP) re) = some true := by
  have J := fun (a L : Nat) (s : Nat → Nat) (C : Int64) (S : St a s L) (hC : cdv s 0 L = C) => t_is (o := o) (th := th) (mtr := mtr) (wh := wh) (ta := ta) (mfa := mfa) (mo := mo) (sd := sd) (ac := ac) (mk := mk) (mq := mq) (wr := wr) (rm := rm) (rs := rs) (ma := ma) (re := re) S hC T
  have w0 := J _ _ _ (CLn 0) St_13 rfl
  have w1 := J _ _ _ (CLn 1) St_19 rfl
  have w2 := J _ _ _ (CLn 2) St_20 rfl
  have w3 := J _ _ _ (CLn 3) St_21 rfl
  have w4 := J _ _ _ (CLn 4) St_22 rfl
  have w5 := J _ _ _ (CLn 5) St_23 rfl
  have w6 := J _ _ _ (CLn 6) St_24 rfl
  have w7 := J _ _ _ (CLn 7) St_26 rfl
  rw [eX12_isName_s_m, qX12_isName_0_m, if_pos (T.k1.mp hk), qX12_isName_11_m (h := w0), if_b2i, decide_eq_false (h 0 (by omega)), if_neg (by decide), qX12_isName_20_m (h := w1), if_b2i, decide_eq_false (h 1 (by omega)), if_neg (by decide), qX12_isName_29_m (h := w2), if_b2i, decide_eq_false (h 2 (by omega)), if_neg (by decide), qX12_isName_38_m (h := w3), if_b2i, decide_eq_false (h 3 (by omega)), if_neg (by decide), qX12_isName_49_m (h := w4), if_b2i, decide_eq_false (h 4 (by omega)), if_neg (by decide), qX12_isName_58_m (h := w5), if_b2i, decide_eq_false (h 5 (by omega)), if_neg (by decide), qX12_isName_67_m (h := w6), if_b2i, decide_eq_false (h 6 (by omega)), if_neg (by decide), qX12_isName_76_m (h := w7), if_b2i, decide_eq_false (h 7 (by omega)), if_neg (by decide)]
theorem t_nameN (T : Tk (bt tp.1) n e t u SP) (hk : t.2.1 = 1) {i : Nat} (hi8 : i < 8) (hi : t.2.1 = 1 ∧ t.2.2.2.2 = CLn i) (h : ∀ l, l < i → ¬ (t.2.1 = 1 ∧ t.2.2.2.2 = CLn l)) : EX12_isName [.ref 0] (MM o (th, mtr, wh, ta, mfa, mo, sd, ac, mk) (mU mq n u wr rm rs) (mAq ma SP) re) = some false := by
  have J := fun (a L : Nat) (s : Nat → Nat) (C : Int64) (S : St a s L) (hC : cdv s 0 L = C) => t_is (o := o) (th := th) (mtr := mtr) (wh := wh) (ta := ta) (mfa := mfa) (mo := mo) (sd := sd) (ac := ac) (mk := mk) (mq := mq) (wr := wr) (rm := rm) (rs := rs) (ma := ma) (re := re) S hC T
  have w0 := J _ _ _ (CLn 0) St_13 rfl
  have w1 := J _ _ _ (CLn 1) St_19 rfl
  have w2 := J _ _ _ (CLn 2) St_20 rfl
  have w3 := J _ _ _ (CLn 3) St_21 rfl
  have w4 := J _ _ _ (CLn 4) St_22 rfl
  have w5 := J _ _ _ (CLn 5) St_23 rfl
  have w6 := J _ _ _ (CLn 6) St_24 rfl
  have w7 := J _ _ _ (CLn 7) St_26 rfl
  rcases (by omega : i = 0 ∨ i = 1 ∨ i = 2 ∨ i = 3 ∨ i = 4 ∨ i = 5 ∨ i = 6 ∨ i = 7) with rfl | rfl | rfl | rfl | rfl | rfl | rfl | rfl
  · rw [eX12_isName_s_m, qX12_isName_0_m, if_pos (T.k1.mp hk), qX12_isName_11_m (h := w0), if_b2i, decide_eq_true hi, if_pos rfl]
  · rw [eX12_isName_s_m, qX12_isName_0_m, if_pos (T.k1.mp hk), qX12_isName_11_m (h := w0), if_b2i, decide_eq_false (h 0 (by omega)), if_neg (by decide), qX12_isName_20_m (h := w1), if_b2i, decide_eq_true hi, if_pos rfl]
  · rw [eX12_isName_s_m, qX12_isName_0_m, if_pos (T.k1.mp hk), qX12_isName_11_m (h := w0), if_b2i, decide_eq_false (h 0 (by omega)), if_neg (by decide), qX12_isName_20_m (h := w1), if_b2i, decide_eq_false (h 1 (by omega)), if_neg (by decide), qX12_isName_29_m (h := w2), if_b2i, decide_eq_true hi, if_pos rfl]
  · rw [eX12_isName_s_m, qX12_isName_0_m, if_pos (T.k1.mp hk), qX12_isName_11_m (h := w0), if_b2i, decide_eq_false (h 0 (by omega)), if_neg (by decide), qX12_isName_20_m (h := w1), if_b2i, decide_eq_false (h 1 (by omega)), if_neg (by decide), qX12_isName_29_m (h := w2), if_b2i, decide_eq_false (h 2 (by omega)), if_neg (by decide), qX12_isName_38_m (h := w3), if_b2i, decide_eq_true hi, if_pos rfl]
  · rw [eX12_isName_s_m, qX12_isName_0_m, if_pos (T.k1.mp hk), qX12_isName_11_m (h := w0), if_b2i, decide_eq_false (h 0 (by omega)), if_neg (by decide), qX12_isName_20_m (h := w1), if_b2i, decide_eq_false (h 1 (by omega)), if_neg (by decide), qX12_isName_29_m (h := w2), if_b2i, decide_eq_false (h 2 (by omega)), if_neg (by decide), qX12_isName_38_m (h := w3), if_b2i, decide_eq_false (h 3 (by omega)), if_neg (by decide), qX12_isName_49_m (h := w4), if_b2i, decide_eq_true hi, if_pos rfl]
  · rw [eX12_isName_s_m, qX12_isName_0_m, if_pos (T.k1.mp hk), qX12_isName_11_m (h := w0), if_b2i, decide_eq_false (h 0 (by omega)), if_neg (by decide), qX12_isName_20_m (h := w1), if_b2i, decide_eq_false (h 1 (by omega)), if_neg (by decide), qX12_isName_29_m (h := w2), if_b2i, decide_eq_false (h 2 (by omega)), if_neg (by decide), qX12_isName_38_m (h := w3), if_b2i, decide_eq_false (h 3 (by omega)), if_neg (by decide), qX12_isName_49_m (h := w4), if_b2i, decide_eq_false (h 4 (by omega)), if_neg (by decide), qX12_isName_58_m (h := w5), if_b2i, decide_eq_true hi, if_pos rfl]
  · rw [eX12_isName_s_m, qX12_isName_0_m, if_pos (T.k1.mp hk), qX12_isName_11_m (h := w0), if_b2i, decide_eq_false (h 0 (by omega)), if_neg (by decide), qX12_isName_20_m (h := w1), if_b2i, decide_eq_false (h 1 (by omega)), if_neg (by decide), qX12_isName_29_m (h := w2), if_b2i, decide_eq_false (h 2 (by omega)), if_neg (by decide), qX12_isName_38_m (h := w3), if_b2i, decide_eq_false (h 3 (by omega)), if_neg (by decide), qX12_isName_49_m (h := w4), if_b2i, decide_eq_false (h 4 (by omega)), if_neg (by decide), qX12_isName_58_m (h := w5), if_b2i, decide_eq_false (h 5 (by omega)), if_neg (by decide), qX12_isName_67_m (h := w6), if_b2i, decide_eq_true hi, if_pos rfl]
  · rw [eX12_isName_s_m, qX12_isName_0_m, if_pos (T.k1.mp hk), qX12_isName_11_m (h := w0), if_b2i, decide_eq_false (h 0 (by omega)), if_neg (by decide), qX12_isName_20_m (h := w1), if_b2i, decide_eq_false (h 1 (by omega)), if_neg (by decide), qX12_isName_29_m (h := w2), if_b2i, decide_eq_false (h 2 (by omega)), if_neg (by decide), qX12_isName_38_m (h := w3), if_b2i, decide_eq_false (h 3 (by omega)), if_neg (by decide), qX12_isName_49_m (h := w4), if_b2i, decide_eq_false (h 4 (by omega)), if_neg (by decide), qX12_isName_58_m (h := w5), if_b2i, decide_eq_false (h 5 (by omega)), if_neg (by decide), qX12_isName_67_m (h := w6), if_b2i, decide_eq_false (h 6 (by omega)), if_neg (by decide), qX12_isName_76_m (h := w7), if_b2i, decide_eq_true hi, if_pos rfl]
end
