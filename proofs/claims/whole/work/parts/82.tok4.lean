/-! Both readers' tokens. -/
theorem St_0 : St 2000 sx_0 44 := ⟨rfl, by decide, sl_0, fun hp k hk => sc_0 hp k hk, by decide⟩
theorem St_1 : St 2001 sx_1 4 := ⟨rfl, by decide, sl_1, fun hp k hk => sc_1 hp k hk, by decide⟩
theorem St_2 : St 2002 sx_2 4 := ⟨rfl, by decide, sl_2, fun hp k hk => sc_2 hp k hk, by decide⟩
theorem St_3 : St 2003 sx_3 4 := ⟨rfl, by decide, sl_3, fun hp k hk => sc_3 hp k hk, by decide⟩
theorem St_4 : St 2004 sx_4 4 := ⟨rfl, by decide, sl_4, fun hp k hk => sc_4 hp k hk, by decide⟩
theorem St_5 : St 2005 sx_5 5 := ⟨rfl, by decide, sl_5, fun hp k hk => sc_5 hp k hk, by decide⟩
theorem St_6 : St 2006 sx_6 4 := ⟨rfl, by decide, sl_6, fun hp k hk => sc_6 hp k hk, by decide⟩
theorem St_7 : St 2007 sx_7 23 := ⟨rfl, by decide, sl_7, fun hp k hk => sc_7 hp k hk, by decide⟩
theorem St_8 : St 2008 sx_8 2 := ⟨rfl, by decide, sl_8, fun hp k hk => sc_8 hp k hk, by decide⟩
theorem St_9 : St 2009 sx_9 5 := ⟨rfl, by decide, sl_9, fun hp k hk => sc_9 hp k hk, by decide⟩
theorem St_10 : St 2010 sx_10 21 := ⟨rfl, by decide, sl_10, fun hp k hk => sc_10 hp k hk, by decide⟩
theorem St_11 : St 2011 sx_11 6 := ⟨rfl, by decide, sl_11, fun hp k hk => sc_11 hp k hk, by decide⟩
theorem St_13 : St 2013 sx_13 6 := ⟨rfl, by decide, sl_13, fun hp k hk => sc_13 hp k hk, by decide⟩
theorem St_14 : St 2014 sx_14 4 := ⟨rfl, by decide, sl_14, fun hp k hk => sc_14 hp k hk, by decide⟩
theorem St_15 : St 2015 sx_15 4 := ⟨rfl, by decide, sl_15, fun hp k hk => sc_15 hp k hk, by decide⟩
theorem St_16 : St 2016 sx_16 4 := ⟨rfl, by decide, sl_16, fun hp k hk => sc_16 hp k hk, by decide⟩
theorem St_17 : St 2017 sx_17 4 := ⟨rfl, by decide, sl_17, fun hp k hk => sc_17 hp k hk, by decide⟩
theorem St_18 : St 2018 sx_18 5 := ⟨rfl, by decide, sl_18, fun hp k hk => sc_18 hp k hk, by decide⟩
theorem St_19 : St 2019 sx_19 3 := ⟨rfl, by decide, sl_19, fun hp k hk => sc_19 hp k hk, by decide⟩
theorem St_20 : St 2020 sx_20 4 := ⟨rfl, by decide, sl_20, fun hp k hk => sc_20 hp k hk, by decide⟩
theorem St_21 : St 2021 sx_21 4 := ⟨rfl, by decide, sl_21, fun hp k hk => sc_21 hp k hk, by decide⟩
theorem St_22 : St 2022 sx_22 4 := ⟨rfl, by decide, sl_22, fun hp k hk => sc_22 hp k hk, by decide⟩
theorem St_23 : St 2023 sx_23 5 := ⟨rfl, by decide, sl_23, fun hp k hk => sc_23 hp k hk, by decide⟩
theorem St_24 : St 2024 sx_24 5 := ⟨rfl, by decide, sl_24, fun hp k hk => sc_24 hp k hk, by decide⟩
theorem St_25 : St 2025 sx_25 4 := ⟨rfl, by decide, sl_25, fun hp k hk => sc_25 hp k hk, by decide⟩
theorem St_26 : St 2026 sx_26 6 := ⟨rfl, by decide, sl_26, fun hp k hk => sc_26 hp k hk, by decide⟩
theorem St_27 : St 2027 sx_27 4 := ⟨rfl, by decide, sl_27, fun hp k hk => sc_27 hp k hk, by decide⟩
theorem St_28 : St 2028 sx_28 5 := ⟨rfl, by decide, sl_28, fun hp k hk => sc_28 hp k hk, by decide⟩
theorem St_29 : St 2029 sx_29 4 := ⟨rfl, by decide, sl_29, fun hp k hk => sc_29 hp k hk, by decide⟩
theorem St_30 : St 2030 sx_30 3 := ⟨rfl, by decide, sl_30, fun hp k hk => sc_30 hp k hk, by decide⟩
theorem St_31 : St 2031 sx_31 3 := ⟨rfl, by decide, sl_31, fun hp k hk => sc_31 hp k hk, by decide⟩
theorem St_32 : St 2032 sx_32 2 := ⟨rfl, by decide, sl_32, fun hp k hk => sc_32 hp k hk, by decide⟩
theorem St_33 : St 2033 sx_33 5 := ⟨rfl, by decide, sl_33, fun hp k hk => sc_33 hp k hk, by decide⟩
theorem St_34 : St 2034 sx_34 5 := ⟨rfl, by decide, sl_34, fun hp k hk => sc_34 hp k hk, by decide⟩
theorem St_35 : St 2035 sx_35 4 := ⟨rfl, by decide, sl_35, fun hp k hk => sc_35 hp k hk, by decide⟩
theorem St_36 : St 2036 sx_36 5 := ⟨rfl, by decide, sl_36, fun hp k hk => sc_36 hp k hk, by decide⟩
theorem St_37 : St 2037 sx_37 4 := ⟨rfl, by decide, sl_37, fun hp k hk => sc_37 hp k hk, by decide⟩
theorem St_38 : St 2038 sx_38 6 := ⟨rfl, by decide, sl_38, fun hp k hk => sc_38 hp k hk, by decide⟩
abbrev TT : Type := Int32 × Int32 × Int32 × Int32 × Int64
abbrev UU : Type := Int32 × Int32 × Int32 × Int32 × Int32 × Int32 × Int64
abbrev tC (n : Nat) (t : TT) : TkS := tK (nI n) t.1 t.2.1 t.2.2.1 t.2.2.2.1 t.2.2.2.2
abbrev mU (mq : MsS) (n : Nat) (u : UU) (wr : Int32) (rm rs : Int64) : MsS := mQ mq (nI n) u.1 u.2.1 u.2.2.1 u.2.2.2.1 u.2.2.2.2.1 u.2.2.2.2.2.1 u.2.2.2.2.2.2 wr rm rs
abbrev ov (u : UU) : UU := (u.1, 5, u.2.2)
def Ctx (tp : TpS) (ma : MaS) (m n : Nat) : Prop := m ≤ 900 ∧ tp.2 = nI m ∧ n ≤ m ∧ ∀ k, k < n → bt ma.1 k = bt tp.1 k
/-- the token that both look at; it ends at e -/
def Tk (B : Nat → Nat) (n e : Nat) (t : TT) (u : UU) (SP : Nat → Int32) : Prop :=
  ∃ q, q ≤ e ∧ e ≤ n ∧ t.1 = nI e ∧ t.2.2.1 = nI q ∧ u.2.2.1 = nI q ∧
   ((e = n ∧ t.2.1 = 0 ∧ u.2.1 = 1) ∨
    (t.2.1 = 1 ∧ u.2.1 = 2 ∧ u.1 = nI e ∧ q < e ∧ e - q ≤ 8 ∧ u.2.2.2.2.2.1 = nI (e - q) ∧ t.2.2.2.2 = cdv B q (e - q) ∧ u.2.2.2.2.2.2 = cdv B q (e - q) ∧ Lt B q (e - q) ∧ ∀ i, i < e - q → SP i = nI (B (q + i))) ∨
    (t.2.1 = 2 ∧ u.2.1 = 3 ∧ u.1 = nI e ∧ q < e ∧ t.2.2.2.1 = u.2.2.2.2.1) ∨
    (t.2.1 = 3 ∧ u.2.1 = 4 ∧ u.1 = nI e ∧ q < e ∧ u.2.2.2.1 = nI (B q)) ∨
    (t.2.1 = 4 ∧ u.2.1 = 0))
def Af (e e2 : Nat) (t2 : TT) : Prop := e ≤ e2 ∧ (t2.2.1 ≠ 0 → e < e2)
theorem Tk.over {B : Nat → Nat} {n e : Nat} {t : TT} {u : UU} {SP : Nat → Int32} (h : Tk B n e t u SP) : u.2.1 ≠ 5 := by
  obtain ⟨q, _, _, _, _, _, h⟩ := h
  rcases h with ⟨_, _, h⟩ | ⟨_, h, _⟩ | ⟨_, h, _⟩ | ⟨_, h, _⟩ | ⟨_, h⟩ <;> rw [h] <;> decide
theorem Tk.pc {B : Nat → Nat} {n e : Nat} {t : TT} {u : UU} {SP : Nat → Int32} (h : Tk B n e t u SP) : u.2.2.1 = t.2.2.1 := by
  obtain ⟨q, _, _, _, h1, h2, _⟩ := h
  rw [h1, h2]
section
variable {mz : MzS} {tp : TpS} {ra rp nb cc cp : Int32} {hi : HiS} {sc : ScS} {pl dr : PlS} {wa wb : WaS} {rc : Nat → Int32} {o : Option MeS} {th mtr wh ta mfa : Int32} {mo : Int64} {sd ac mk : Int32} {mq : MsS} {wr : Int32} {rm rs : Int64} {ma : MaS} {SP : Nat → Int32} {re : MeS} {m n e : Nat} {t : TT} {u : UU}
theorem t_go (H : Ctx tp ma m n) (hp : e ≤ n) (h1 : t.1 = nI e) (h2 : u.1 = nI e) (h3 : u.2.1 ≠ 5) : ∃ e2 t2 u2 SP2, Tk (bt tp.1) n e2 t2 u2 SP2 ∧ Af e e2 t2 ∧ EX7_goOn [.ref 4] (CH mz tp (tC n t) (ra, rp, nb, cc, cp) hi sc pl dr wa wb rc) = some (CH mz tp (tC n t2) (ra, rp, nb, cc, cp) hi sc pl dr wa wb rc) ∧ EX12_goesOn [.ref 0] (MM o (th, mtr, wh, ta, mfa, mo, sd, ac, mk) (mU mq n u wr rm rs) (mAq ma SP) re) = some (MM o (th, mtr, wh, ta, mfa, mo, sd, ac, mk) (mU mq n u2 wr rm rs) (mAq ma SP2) re) := by
  obtain ⟨hm, ht, hn, hB⟩ := H
  obtain ⟨t1, t2, t3, t4, t5⟩ := t
  obtain ⟨u1, u2, u3, u4, u5, u6, u7⟩ := u
  dsimp only at h1 h2 h3
  subst h1 h2
  obtain ⟨q, S⟩ := skp_ex (bt tp.1) hp
  have c0 := c_goOn0 (mz := mz) (rd := (ra, rp, nb, cc, cp)) (hi := hi) (sc := sc) (pl := pl) (dr := dr) (wa := wa) (wb := wb) (rc := rc) hm ht hn S t2 t3 t4 t5
  have m0 := m_goesOn0 (o := o) (th := th) (mtr := mtr) (wh := wh) (ta := ta) (mfa := mfa) (mo := mo) (sd := sd) (ac := ac) (mk := mk) (mq := mq) (so := u2) (pc := u3) (sg := u4) (nu := u5) (le := u6) (wo := u7) (wr := wr) (rm := rm) (rs := rs) (SP := SP) (re := re) (by omega : n ≤ 900) hB (bt_lt tp.1) S h3
  obtain ⟨c1, c2⟩ := c_tok (mz := mz) (rd := (ra, rp, nb, cc, cp)) (hi := hi) (sc := sc) (pl := pl) (dr := dr) (wa := wa) (wb := wb) (rc := rc) hm ht hn q S.2.1 t2 t3 t4 t5
  obtain ⟨m1, m2, m3, m4, m5⟩ := m_tok (o := o) (th := th) (mtr := mtr) (wh := wh) (ta := ta) (mfa := mfa) (mo := mo) (sd := sd) (ac := ac) (mk := mk) (mq := mq) (nu := u5) (le := u6) (wo := u7) (wr := wr) (rm := rm) (rs := rs) (SP := SP) (re := re) (by omega : n ≤ 900) hB (bt_lt tp.1) q S.2.1
  have S1 := S.1
  by_cases hq : q = n
  · refine ⟨n, (nI n, 0, nI n, 0, 0), (nI q, 1, nI q, 0, u5, u6, u7), SP, ⟨n, Nat.le_refl _, Nat.le_refl _, rfl, rfl, by rw [hq], Or.inl ⟨rfl, rfl, rfl⟩⟩, ⟨hp, fun h => absurd rfl h⟩, c0.trans (c1 hq), m0.trans (m1 hq)⟩
  · have hqn : q < n := by have := S.2.1; omega
    obtain ⟨r, R⟩ := rn_ex (bt tp.1) hqn
    have k0 := kd_le (bt tp.1 q)
    have R1 := R.1
    have R2 := R.2.1
    rcases (by omega : kd (bt tp.1 q) = 1 ∨ kd (bt tp.1 q) = 2 ∨ kd (bt tp.1 q) = 3 ∨ kd (bt tp.1 q) = 4) with k1 | k1 | k1 | k1
    · by_cases h8 : r - q ≤ 8
      · refine ⟨r, (nI r, 1, nI q, vl (bt tp.1) q (r - q), cdv (bt tp.1) q (r - q)), (nI r, 2, nI q, 0, u5, nI (r - q), cdv (bt tp.1) q (r - q)), spl (bt tp.1) q SP (r - q), ⟨q, by omega, R2, rfl, rfl, rfl, Or.inr (Or.inl ⟨rfl, rfl, rfl, R1, h8, rfl, rfl, rfl, fun k hk => ?_, fun i hi => ?_⟩)⟩, ⟨by omega, fun _ => by omega⟩, c0.trans ((c2 r hqn R).trans ?_), m0.trans ((m2 r hqn R k1).trans ?_)⟩
        · exact kd_1 ((R.2.2.1 (q + k) (by omega) (by omega)).trans k1)
        · rw [spl_at, if_pos hi]
        · rw [k1, if_neg (show ¬ mostB 1 < r - q from Nat.not_lt.mpr h8)]; rfl
        · rw [if_pos h8, Nat.min_eq_left h8]
      · refine ⟨r, (nI r, 4, nI q, vl (bt tp.1) q (r - q), cdv (bt tp.1) q (r - q)), (nI r, 0, nI q, 0, u5, nI (r - q), cdv (bt tp.1) q (min (r - q) 8)), spl (bt tp.1) q SP (min (r - q) 8), ⟨q, by omega, R2, rfl, rfl, rfl, Or.inr (Or.inr (Or.inr (Or.inr ⟨rfl, rfl⟩)))⟩, ⟨by omega, fun _ => by omega⟩, c0.trans ((c2 r hqn R).trans ?_), m0.trans ((m2 r hqn R k1).trans ?_)⟩
        · rw [k1, if_pos (show mostB 1 < r - q from Nat.not_le.mp h8)]; rfl
        · rw [if_neg h8]
    · by_cases h8 : r - q ≤ 3
      · refine ⟨r, (nI r, 2, nI q, vl (bt tp.1) q (r - q), cdv (bt tp.1) q (r - q)), (nI r, 3, nI q, 0, vl (bt tp.1) q (r - q), u6, u7), SP, ⟨q, by omega, R2, rfl, rfl, rfl, Or.inr (Or.inr (Or.inl ⟨rfl, rfl, rfl, R1, rfl⟩))⟩, ⟨by omega, fun _ => by omega⟩, c0.trans ((c2 r hqn R).trans ?_), m0.trans ((m3 r hqn R k1).trans ?_)⟩
        · rw [k1, if_neg (show ¬ mostB 2 < r - q from Nat.not_lt.mpr h8)]; rfl
        · rw [if_pos h8, Nat.min_eq_left h8]
      · refine ⟨r, (nI r, 4, nI q, vl (bt tp.1) q (r - q), cdv (bt tp.1) q (r - q)), (nI r, 0, nI q, 0, vl (bt tp.1) q (min (r - q) 3), u6, u7), SP, ⟨q, by omega, R2, rfl, rfl, rfl, Or.inr (Or.inr (Or.inr (Or.inr ⟨rfl, rfl⟩)))⟩, ⟨by omega, fun _ => by omega⟩, c0.trans ((c2 r hqn R).trans ?_), m0.trans ((m3 r hqn R k1).trans ?_)⟩
        · rw [k1, if_pos (show mostB 2 < r - q from Nat.not_le.mp h8)]; rfl
        · rw [if_neg h8]
    · have hr := R.2.2.2.2 (by omega)
      subst hr
      refine ⟨q + 1, (nI (q + 1), 3, nI q, vl (bt tp.1) q (q + 1 - q), cdv (bt tp.1) q (q + 1 - q)), (nI (q + 1), 4, nI q, nI (bt tp.1 q), u5, u6, u7), SP, ⟨q, by omega, R2, rfl, rfl, rfl, Or.inr (Or.inr (Or.inr (Or.inl ⟨rfl, rfl, rfl, R1, rfl⟩)))⟩, ⟨by omega, fun _ => by omega⟩, c0.trans ((c2 _ hqn R).trans ?_), m0.trans (m4 hqn k1)⟩
      rw [k1, if_neg (show ¬ mostB 3 < q + 1 - q from by show ¬ 1 < q + 1 - q; omega)]; rfl
    · have hr := R.2.2.2.2 (by omega)
      subst hr
      refine ⟨q + 1, (nI (q + 1), 4, nI q, vl (bt tp.1) q (q + 1 - q), cdv (bt tp.1) q (q + 1 - q)), (nI q, 0, nI q, 0, u5, u6, u7), SP, ⟨q, by omega, R2, rfl, rfl, rfl, Or.inr (Or.inr (Or.inr (Or.inr ⟨rfl, rfl⟩)))⟩, ⟨by omega, fun _ => by omega⟩, c0.trans ((c2 _ hqn R).trans ?_), m0.trans (m5 hqn k1)⟩
      rw [k1, if_neg (show ¬ mostB 4 < q + 1 - q from by show ¬ 1 < q + 1 - q; omega)]; rfl
/-! The model when it is over: nothing moves. -/
theorem o_go (h : u.2.1 = 5) : EX12_goesOn [.ref 0] (MM o (th, mtr, wh, ta, mfa, mo, sd, ac, mk) (mU mq n u wr rm rs) (mAq ma SP) re) = some (MM o (th, mtr, wh, ta, mfa, mo, sd, ac, mk) (mU mq n u wr rm rs) (mAq ma SP) re) := by
  rw [eX12_goesOn_s_m, qX12_goesOn_0_m, if_pos h]
theorem o_flaw (h : u.2.1 = 5) (k : Int32) : EX12_flaw [.ref 0, .int k] (MM o (th, mtr, wh, ta, mfa, mo, sd, ac, mk) (mU mq n u wr rm rs) (mAq ma SP) re) = some (MM o (th, mtr, wh, ta, mfa, mo, sd, ac, mk) (mU mq n u wr rm rs) (mAq ma SP) re) := by
  rw [eX12_flaw_s_m, qX12_flaw_0_m, if_pos h]
theorem t_flaw (h : u.2.1 ≠ 5) (k : Int32) : EX12_flaw [.ref 0, .int k] (MM o (th, mtr, wh, ta, mfa, mo, sd, ac, mk) (mU mq n u wr rm rs) (mAq ma SP) re) = some (MM o (th, mtr, wh, ta, k, mo, sd, ac, mk) (mU mq n (ov u) u.2.2.1 rm rs) (mAq ma SP) re) := by
  rw [eX12_flaw_s_m, qX12_flaw_0_m, if_neg h]
theorem o_isWord {a : Nat} (h : u.2.1 ≠ 2) : EX12_isWord [.ref 0, .ref a] (MM o (th, mtr, wh, ta, mfa, mo, sd, ac, mk) (mU mq n u wr rm rs) (mAq ma SP) re) = some false := by
  rw [eX12_isWord_s_m, qX12_isWord_0_m, if_neg h]
theorem t_isWord {a : Nat} {s : Nat → Nat} {L : Nat} (S : St a s L) (h : u.2.1 = 2) : EX12_isWord [.ref 0, .ref a] (MM o (th, mtr, wh, ta, mfa, mo, sd, ac, mk) (mU mq n u wr rm rs) (mAq ma SP) re) = some (decide (u.2.2.2.2.2.2 = cdv s 0 L)) := by
  rw [eX12_isWord_s_m, qX12_isWord_0_m, if_pos h, qX12_isWord_13_m (h := m_wordOf S _)]
  by_cases e : u.2.2.2.2.2.2 = cdv s 0 L
  · rw [if_pos ((lgc0 _ _).mpr e), decide_eq_true e]
  · rw [if_neg (fun h => e ((lgc0 _ _).mp h)), decide_eq_false e]
end
