/-! What the calls share: is it a cell, a number; the n-th cell. -/
def inr (n : Nat) (x : Int32) : Bool := !decide (x < 0) && !decide (nI n ≤ x)
theorem inr_nI {n j : Nat} (hn : n < 2 ^ 31) (hj : j < n) : inr n (nI j) = true := by
  unfold inr
  rw [decide_eq_false (nI_pos (by omega)), decide_eq_false (nI_ge hj (by omega))]
  rfl
theorem inr_true {n : Nat} {x : Int32} (hn : n < 2 ^ 31) (hx : inr n x = true) : ∃ j, j < n ∧ x = nI j := by
  unfold inr at hx
  rw [Bool.and_eq_true] at hx
  rcases pk_ix x hn with h | h | h
  · rw [decide_eq_true h] at hx; cases hx.1
  · rw [decide_eq_true h] at hx; cases hx.2
  · exact h
theorem inr_if {α : Type} {n : Nat} {x : Int32} (a b : α) : (if x < 0 then a else if nI n ≤ x then a else b) = (if inr n x = true then b else a) := by
  unfold inr
  by_cases h1 : x < 0
  · rw [if_pos h1, if_neg (by simp [h1])]
  · rw [if_neg h1]
    by_cases h2 : nI n ≤ x
    · rw [if_pos h2, if_neg (by simp [h2])]
    · rw [if_neg h2, if_pos (by simp [h1, h2])]
theorem inr_dec {n : Nat} {x : Int32} (h0 : 0 < n) (hn : n < 2 ^ 30) : decide ((0 : Int32) ≤ x ∧ x ≤ nI n - 1) = inr n x := by
  have e : nI n - 1 = nI (n - 1) := pk_sub (b := 1) h0
  rw [e]
  cases h : inr n x
  · refine decide_eq_false (fun h2 => ?_)
    rcases pk_ix x (show n < 2 ^ 31 by omega) with h3 | h3 | ⟨j, h3, rfl⟩
    · exact absurd h3 (Int32.not_lt.mpr h2.1)
    · have := Int32.le_trans h3 h2.2
      rw [nI_leI (by omega) (by omega)] at this
      omega
    · rw [inr_nI (by omega) h3] at h; cases h
  · obtain ⟨j, hj, rfl⟩ := inr_true (by omega) h
    exact decide_eq_true ⟨nI_pos' (by omega), (nI_leI (by omega) (by omega)).mpr (by omega)⟩
theorem inr_dec2 {n : Nat} {x : Int32} (hn : n < 2 ^ 29) : decide ((0 : Int32) ≤ x ∧ x ≤ nI n) = inr (n + 1) x := by
  have := inr_dec (n := n + 1) (x := x) (Nat.succ_pos n) (show n + 1 < 2 ^ 30 by omega)
  rw [nI_pred] at this
  exact this
section
variable {cl : Int64} {se tr fa fp : Int32} {tp : TpS} {tk : TkS} {rd : RdS} {hi : HiS} {sc : ScS} {pl : PlS} {dr : PlS} {wa : WaS} {wb : WaS} {rc : Nat → Int32} {w h : Nat}
theorem c_isCell (G : GrOK pl.1 w h) (x y : Int32) : EX10_isCell [.ref 0, .int x, .int y] (CH (1, cl, se, tr, fa, fp) tp tk rd hi sc pl dr wa wb rc) = some (inr w x && inr h y) := by
  have e : EX0_isInside [.ref 15, .int x, .int y] (CH (1, cl, se, tr, fa, fp) tp tk rd hi sc pl dr wa wb rc) = some (inr w x && inr h y) := by
    rw [eX0_isInside_s, qX0_isInside_0, G.1, G.2.1, inr_if, inr_if]
    cases inr w x <;> cases inr h y <;> rfl
  rw [eX10_isCell_s_1, qX10_isCell_0_1, qX10_isCell_16_1 (h := e), if_b2i]
  cases inr w x <;> cases inr h y <;> rfl
theorem c_isMown (G : GrOK pl.1 w h) (H : WH w h) {X Y : Nat} (hX : X < w) (hY : Y < h) : EX10_isMown [.ref 0, .int (nI X), .int (nI Y)] (CH (1, cl, se, tr, fa, fp) tp tk rd hi sc pl dr wa wb rc) = some (tb cl (w * Y + X)) := by
  have hn := H.n
  have hc := yx_lt hX hY
  rw [eX10_isMown_s_1, qX10_isMown_0_1, G.1, pk_mul, nI_add, qX10_isMown_16_1 (h := e_isIn _ _ (by omega)), zb_b2i]
theorem c_isNumber (G : GrOK pl.1 w h) (x : Int32) : EX10_isNumber [.ref 0, .int x] (CH (1, cl, se, tr, fa, fp) tp tk rd hi sc pl dr wa wb rc) = some (inr (w * h) x) := by
  rw [eX10_isNumber_s_1, qX10_isNumber_0_1, G.2.2.1, inr_if]
  cases inr (w * h) x <;> rfl
end
section
variable {mp : MpS} {mq : MsS} {ma : MaS} {me : MeS} {rdv : Value} {w h : Nat}
theorem m_isCell (H : WH w h) (h1 : me.1.1 = nI w) (h2 : me.1.2.1 = nI h) (x y : Int32) : EX12_isCell [.ref 0, .int x, .int y] (M1 mp mq ma me rdv) = some (inr w x && inr h y) := by
  obtain ⟨k1, k2, k3, k4⟩ := H
  rw [eX12_isCell_s, qX12_isCell_0, h1, qX12_isCell_18 (h := e_in _ _ _ _), h2, qX12_isCell_35 (h := e_in _ _ _ _), inr_dec (by omega) (by omega), inr_dec (by omega) (by omega), if_b2i, if_b2i]
  cases inr w x <;> cases inr h y <;> rfl
theorem m_isNumber (h1 : me.1.1 = nI w) (h2 : me.1.2.1 = nI h) (x : Int32) : EX12_isNumber [.ref 0, .int x] (M1 mp mq ma me rdv) = some (inr (w * h) x) := by
  rw [eX12_isNumber_s, qX12_isNumber_0, h1, h2, pk_mul, inr_if]
  cases inr (w * h) x <;> rfl
theorem m_isWalker {wc : Nat} (h1 : me.1.2.2.2.2.2.2.2.2.2.2.1 = nI wc) (x : Int32) : EX12_isWalker [.ref 0, .int x] (M1 mp mq ma me rdv) = some (inr wc x) := by
  rw [eX12_isWalker_s, qX12_isWalker_0, h1, inr_if]
  cases inr wc x <;> rfl
end
/-! the n-th cell -/
def dropL (m : Int64) : Nat → Int64
  | 0 => m
  | i + 1 => dropL m i &&& (dropL m i - 1)
theorem ct_lt {p : Nat → Bool} {i j : Nat} (h1 : p i = true) (hij : i < j) : fb_ct p i < fb_ct p j := by
  have a1 : fb_ct p (i + 1) = fb_ct p i + 1 := by rw [fb_ct_succ, if_pos h1]
  have a3 := fb_ct_mono p (m := i + 1) (n := j) (by omega)
  omega
theorem tb_drop (m : Int64) {i : Nat} (hi : i ≤ pcn m) (k : Nat) : tb (dropL m i) k = (tb m k && decide (i ≤ fb_ct (tb m) k)) := by
  induction i generalizing k with
  | zero => show tb m k = _; simp
  | succ i ih =>
    have ih : ∀ k, tb (dropL m i) k = (tb m k && decide (i ≤ fb_ct (tb m) k)) := fun k => ih (by omega) k
    obtain ⟨c, hc, h1, h2⟩ := fb_ct_kth (p := tb m) (k := i) (n := 64) hi
    have hz : dropL m i ≠ 0 := tb_ne0.mpr ⟨c, hc, by rw [ih, h1, h2]; simp⟩
    obtain ⟨q, hq, a1, a2, a3⟩ := tb_low hz
    have e : q = c := by
      rcases Nat.lt_trichotomy q c with h | h | h
      · rw [ih, Bool.and_eq_true, decide_eq_true_iff] at a1
        have := ct_lt a1.1 h
        omega
      · exact h
      · have := a2 c h
        rw [ih, h1, h2] at this
        simp at this
    subst e
    show tb (dropL m i &&& (dropL m i - 1)) k = _
    rw [a3, ih]
    cases h5 : tb m k
    · rfl
    · by_cases e : k = q
      · subst e; simp [h2]
      · have : decide (i ≤ fb_ct (tb m) k) = decide (i + 1 ≤ fb_ct (tb m) k) := by
          rw [decide_eq_decide]
          constructor
          · intro h6
            rcases Nat.lt_trichotomy k q with h | h | h
            · have := ct_lt h5 h; omega
            · exact absurd h e
            · have := ct_lt h1 h; omega
          · intro h6; omega
        rw [this]
        simp [e]
/-- the cell that comes n-th -/
theorem nth_ex {m : Int64} {i : Nat} (hi : i < pcn m) : ∃ c, c < 64 ∧ tb m c = true ∧ fb_ct (tb m) c = i := fb_ct_kth hi
theorem drop_first {m : Int64} {c : Nat} (h1 : tb m c = true) (hc : c < 64) : tb (dropL m (fb_ct (tb m) c)) c = true ∧ ∀ j, j < c → tb (dropL m (fb_ct (tb m) c)) j = false := by
  have hi : fb_ct (tb m) c ≤ pcn m := fb_ct_mono _ (by omega)
  refine ⟨by rw [tb_drop m hi, h1]; simp, fun j hj => ?_⟩
  rw [tb_drop m hi]
  cases h2 : tb m j
  · rfl
  · have := ct_lt h2 hj
    rw [decide_eq_false (by omega)]
    rfl
section
variable (hp : HP)
theorem e_nth {m : Int64} {c : Nat} (hc : c < 48) (h1 : tb m c = true) : EX10_nthCell [.long m, .int (nI (fb_ct (tb m) c))] hp = some (nI c) := by
  rw [eX10_nthCell_s, qX10_nthCell_0]
  have hle := fb_ct_le (tb m) c
  refine lp_run (fun i => [(0, .long m), (2, .int (nI (fb_ct (tb m) c))), (3, .int (nI (fb_ct (tb m) i))), (4, .int (nI i))]) (fun _ => hp) (t := c) (by have := FU_ge; omega) (fun i hii k => ?_) (fun k => ?_)
  · have hl2 := fb_ct_le (tb m) i
    rw [qX10_nthCell_5, l48, if_le (by omega) (by omega), if_neg (by omega), qX10_nthCell_15 (h := e_isIn _ _ (by omega)), if_b2i, nI_1, nI_1]
    cases h2 : tb m i
    · rw [if_neg (by decide), fb_ct_succ, h2]; rfl
    · have := ct_lt h2 hii
      rw [if_pos rfl, if_eq (by omega) (by omega), if_neg (by omega), fb_ct_succ, h2]; rfl
  · rw [qX10_nthCell_5, l48, if_le (by omega) (by omega), if_neg (by omega), qX10_nthCell_15 (h := e_isIn _ _ (by omega)), if_b2i, h1, if_pos rfl, if_pos rfl]
theorem e_nth_no {m : Int64} {n : Int32} (hm : Sub m 48) (hno : inr (pcn m) n = false) : EX10_nthCell [.long m, .int n] hp = some (-2) := by
  rw [eX10_nthCell_s, qX10_nthCell_0]
  have hp48 : pcn m = fb_ct (tb m) 48 := by
    show fb_ct (tb m) (48 + 16) = _
    rw [fb_ct_split]
    have : fb_ct (fun k => tb m (48 + k)) 16 = 0 := fb_ct_zero.mpr (fun k _ => by
      cases h2 : tb m (48 + k)
      · rfl
      · have := hm _ h2; omega)
    omega
  refine lp_run (fun i => [(0, .long m), (2, .int n), (3, .int (nI (fb_ct (tb m) i))), (4, .int (nI i))]) (fun _ => hp) (t := 48) (by have := FU_ge; omega) (fun i hii k => ?_) (fun k => ?_)
  · have hl2 := fb_ct_le (tb m) i
    rw [qX10_nthCell_5, l48, if_le (by omega) (by omega), if_neg (by omega), qX10_nthCell_15 (h := e_isIn _ _ (by omega)), if_b2i, nI_1, nI_1]
    cases h2 : tb m i
    · rw [if_neg (by decide), fb_ct_succ, h2]; rfl
    · have := ct_lt h2 hii
      rw [if_pos rfl, if_neg, fb_ct_succ, h2]
      · rfl
      · intro e
        have hl3 := fb_ct_le (tb m) 48
        rw [← e, inr_nI (by omega) (by omega)] at hno
        cases hno
  · rw [qX10_nthCell_5, l48, if_le (by omega) (by omega), if_pos (by omega)]
end
