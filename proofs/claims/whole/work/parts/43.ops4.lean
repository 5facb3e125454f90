/-! Acts: what is kept; mow, stand, week; the draw. -/
def shf {α : Type} (f : Nat → α) (i : Nat) : Nat → α := fun k => if k < i then f (k + 1) else f k
theorem shf_0 {α : Type} (f : Nat → α) : shf f 0 = f := funext fun k => if_neg (Nat.not_lt_zero k)
theorem shf_upd (f : Nat → Int32) (i : Nat) : upd (shf f i) i (shf f i (i + 1)) = shf f (i + 1) := by
  funext k
  have e : shf f i (i + 1) = f (i + 1) := if_neg (by omega)
  by_cases h : k = i
  · subst h; rw [pk_us, e]; exact (if_pos (by omega)).symm
  · rw [pk_un h]
    show (if k < i then f (k + 1) else f k) = (if k < i + 1 then f (k + 1) else f k)
    by_cases h2 : k < i
    · rw [if_pos h2, if_pos (by omega)]
    · rw [if_neg h2, if_neg (by omega)]
theorem shf_updL (f : Nat → Int64) (i : Nat) : vp_updL (shf f i) i (shf f i (i + 1)) = shf f (i + 1) := by
  funext k
  have e : shf f i (i + 1) = f (i + 1) := if_neg (by omega)
  by_cases h : k = i
  · subst h; rw [pk_uLs, e]; exact (if_pos (by omega)).symm
  · rw [pk_uLn h]
    show (if k < i then f (k + 1) else f k) = (if k < i + 1 then f (k + 1) else f k)
    by_cases h2 : k < i
    · rw [if_pos h2, if_pos (by omega)]
    · rw [if_neg h2, if_neg (by omega)]
abbrev sPast (ma : MaS) (pm : Nat → Int64) (ps : Nat → Int32) : MaS := (ma.1, ma.2.1, ma.2.2.1, ma.2.2.2.1, ma.2.2.2.2.1, ma.2.2.2.2.2.1, ma.2.2.2.2.2.2.1, ma.2.2.2.2.2.2.2.1, ma.2.2.2.2.2.2.2.2.1, ma.2.2.2.2.2.2.2.2.2.1, ma.2.2.2.2.2.2.2.2.2.2.1, pm, ma.2.2.2.2.2.2.2.2.2.2.2.2.1, ps, ma.2.2.2.2.2.2.2.2.2.2.2.2.2.2)
/-- an act is kept alike -/
theorem keep_both {n : Nat} {hi : HiS} {ac mk : Int32} {ma : MaS} {cl : Int64} {se : Int32} (HI : HiRel hi ac mk ma n) (C : Sub cl n) (S : SdOK se) : ∃ hi2 ac2 ma2, HiRel hi2 ac2 mk ma2 n ∧ ma2.1 = ma.1 ∧ (∀ tr fa fp tp tk rd sc pl dr wa wb rc z, EX10_act [.ref 0, .long z] (CH (1, cl, se, tr, fa, fp) tp tk rd hi sc pl dr wa wb rc) = some (CH (1, z, se, tr, fa, fp) tp tk rd hi2 sc pl dr wa wb rc)) ∧ ∀ th tr wh ta fa mq me rdv, EX12_keeps [.ref 0] (M1 (th, tr, wh, ta, fa, cl, se, ac, mk) mq ma me rdv) = some (M1 (th, tr, wh, ta, fa, cl, se, ac2, mk) mq ma2 me rdv) := by
  obtain ⟨a, k, ha, hk, i1, i2, i3, i4, i5, i6⟩ := HI
  subst i2 i4
  have c45 : ∀ (b : Nat) (hi : HiS), b < 20 → hi.2.2.2.2.1 = nI b → ∀ tr fa fp tp tk rd sc pl dr wa wb rc, BX1_keepAct_45 [(0, .ref 5), (1, .long cl), (3, .int se)] [] (CH (1, cl, se, tr, fa, fp) tp tk rd hi sc pl dr wa wb rc) = some (CH (1, cl, se, tr, fa, fp) tp tk rd (vp_updL hi.1 b cl, upd hi.2.1 b se, hi.2.2.1, hi.2.2.2.1, nI (b + 1), hi.2.2.2.2.2) sc pl dr wa wb rc) := by
    intro b hi hb e tr fa fp tp tk rd sc pl dr wa wb rc
    have h20 : ¬ (20 : Int32) ≤ nI b := nI_ge (b := 20) hb (by omega)
    rw [qX1_keepAct_45, e, if_neg (nI_pos (by omega)), if_neg h20, if_neg h20, if_neg (nI_in hb (by omega)), if_neg (nI_in hb (by omega)), nI_clamp (by omega), nI_1]
  have m63 : ∀ (b : Nat) (ma : MaS), b < 20 → ∀ th tr wh ta fa mq me rdv, BX12_keeps_63 [(0, .ref 0)] [] (M1 (th, tr, wh, ta, fa, cl, se, nI b, nI k) mq ma me rdv) = some (M1 (th, tr, wh, ta, fa, cl, se, nI (b + 1), nI k) mq (sPast ma (vp_updL ma.2.2.2.2.2.2.2.2.2.2.2.1 b cl) (upd ma.2.2.2.2.2.2.2.2.2.2.2.2.2.1 b se)) me rdv) := by
    intro b ma hb th tr wh ta fa mq me rdv
    rw [qX12_keeps_63_1, if_neg (nI_in hb (by omega)), if_neg (nI_in hb (by omega)), nI_clamp (by omega), nI_1]
  have rel : ∀ (b : Nat) (f : Nat → Int64) (s : Nat → Int32) (f2 : Nat → Int64) (s2 : Nat → Int32), b < 20 → (∀ i, i < b → f i = f2 i ∧ s i = s2 i ∧ Sub (f i) n ∧ SdOK (s i)) → ∀ i, i < b + 1 → vp_updL f b cl i = vp_updL f2 b cl i ∧ upd s b se i = upd s2 b se i ∧ Sub (vp_updL f b cl i) n ∧ SdOK (upd s b se i) := by
    intro b f s f2 s2 hb hh i hii
    by_cases e : i = b
    · subst e
      rw [pk_uLs, pk_uLs, pk_us, pk_us]
      exact ⟨rfl, rfl, C, S⟩
    · rw [pk_uLn e, pk_uLn e, pk_un e, pk_un e]
      exact hh i (by omega)
  by_cases h20 : a = 20
  · subst h20
    refine ⟨(vp_updL (va_cpy hi.1 hi.1 1 0 19) 19 cl, upd (va_cpy hi.2.1 hi.2.1 1 0 19) 19 se, hi.2.2.1, hi.2.2.2.1, nI 20, hi.2.2.2.2.2), nI 20, sPast ma (vp_updL (shf ma.2.2.2.2.2.2.2.2.2.2.2.1 19) 19 cl) (upd (shf ma.2.2.2.2.2.2.2.2.2.2.2.2.2.1 19) 19 se), ⟨20, k, by omega, hk, rfl, rfl, i3, rfl, rel 19 _ _ _ _ (by omega) (fun i hii => ?_), i6⟩, rfl, ?_, ?_⟩
    · have e1 : va_cpy hi.1 hi.1 1 0 19 i = hi.1 (i + 1) := by rw [pk_cpy_in (by omega) (by omega), show 1 + (i - 0) = i + 1 by omega]
      have e2 : va_cpy hi.2.1 hi.2.1 1 0 19 i = hi.2.1 (i + 1) := by rw [pk_cpy_in (by omega) (by omega), show 1 + (i - 0) = i + 1 by omega]
      have e3 : shf ma.2.2.2.2.2.2.2.2.2.2.2.1 19 i = ma.2.2.2.2.2.2.2.2.2.2.2.1 (i + 1) := if_pos hii
      have e4 : shf ma.2.2.2.2.2.2.2.2.2.2.2.2.2.1 19 i = ma.2.2.2.2.2.2.2.2.2.2.2.2.2.1 (i + 1) := if_pos hii
      rw [e1, e2, e3, e4]
      exact i5 (i + 1) (by omega)
    · intro tr fa fp tp tk rd sc pl dr wa wb rc z
      have c1 : EX1_keepAct [.ref 5, .long cl, .int se] (CH (1, cl, se, tr, fa, fp) tp tk rd hi sc pl dr wa wb rc) = some (CH (1, cl, se, tr, fa, fp) tp tk rd (vp_updL (va_cpy hi.1 hi.1 1 0 19) 19 cl, upd (va_cpy hi.2.1 hi.2.1 1 0 19) 19 se, hi.2.2.1, hi.2.2.2.1, nI 20, hi.2.2.2.2.2) sc pl dr wa wb rc) := by
        rw [eX1_keepAct_s, qX1_keepAct_0, i1, if_neg (by decide), c45 19 _ (by omega) rfl]
      rw [eX10_act_s_1, qX10_act_0_1, qX10_act_12_1 (h := c1)]
    · intro th tr wh ta fa mq me rdv
      rw [eX12_keeps_s_1, qX12_keeps_0_1, if_pos (show nI 20 = 20 from rfl)]
      have e0 : M1 (th, tr, wh, ta, fa, cl, se, nI 20, nI k) mq ma me rdv = M1 (th, tr, wh, ta, fa, cl, se, nI 20, nI k) mq (sPast ma (shf ma.2.2.2.2.2.2.2.2.2.2.2.1 0) (shf ma.2.2.2.2.2.2.2.2.2.2.2.2.2.1 0)) me rdv := by rw [shf_0, shf_0]
      rw [e0]
      refine lp_run (fun i => [(0, .ref 0), (1, .int (nI i))]) (fun i => M1 (th, tr, wh, ta, fa, cl, se, nI 20, nI k) mq (sPast ma (shf ma.2.2.2.2.2.2.2.2.2.2.2.1 i) (shf ma.2.2.2.2.2.2.2.2.2.2.2.2.2.1 i)) me rdv) (t := 19) (by have := FU_ge; omega) (fun i hii k2 => ?_) (fun k2 => ?_)
      · rw [qX12_keeps_11_1, nI_1, l20, if_le (by omega) (by omega), if_neg (by omega), if_neg (nI_in (by omega : i + 1 < 20) (by omega)), if_neg (nI_in (by omega : i < 20) (by omega)), if_neg (nI_in (by omega : i + 1 < 20) (by omega)), if_neg (nI_in (by omega : i < 20) (by omega)), nI_clamp (by omega), nI_clamp (by omega)]
        dsimp only
        rw [shf_upd, shf_updL]
      · rw [qX12_keeps_11_1, nI_1, l20, if_le (by omega) (by omega), if_pos (by omega), show nI 20 - 1 = nI 19 from rfl, m63 19 _ (by omega)]
  · refine ⟨(vp_updL hi.1 a cl, upd hi.2.1 a se, hi.2.2.1, hi.2.2.2.1, nI (a + 1), hi.2.2.2.2.2), nI (a + 1), sPast ma (vp_updL ma.2.2.2.2.2.2.2.2.2.2.2.1 a cl) (upd ma.2.2.2.2.2.2.2.2.2.2.2.2.2.1 a se), ⟨a + 1, k, by omega, hk, rfl, rfl, i3, rfl, rel a _ _ _ _ (by omega) i5, i6⟩, rfl, ?_, ?_⟩
    · intro tr fa fp tp tk rd sc pl dr wa wb rc z
      have c1 : EX1_keepAct [.ref 5, .long cl, .int se] (CH (1, cl, se, tr, fa, fp) tp tk rd hi sc pl dr wa wb rc) = some (CH (1, cl, se, tr, fa, fp) tp tk rd (vp_updL hi.1 a cl, upd hi.2.1 a se, hi.2.2.1, hi.2.2.2.1, nI (a + 1), hi.2.2.2.2.2) sc pl dr wa wb rc) := by
        rw [eX1_keepAct_s, qX1_keepAct_0, i1, l20, if_lt (by omega) (by omega), if_pos (by omega), c45 a _ (by omega) i1]
      rw [eX10_act_s_1, qX10_act_0_1, qX10_act_12_1 (h := c1)]
    · intro th tr wh ta fa mq me rdv
      rw [eX12_keeps_s_1, qX12_keeps_0_1, l20, if_eq (by omega) (by omega), if_neg h20, m63 a _ (by omega)]
theorem TpRel.keep {tp : TpS} {ta : Int32} {ma ma2 : MaS} (h : TpRel tp ta ma) (e : ma2.1 = ma.1) : TpRel tp ta ma2 := by
  unfold TpRel at *
  rw [e]
  exact h
theorem bit_or {m : Int64} {c : Nat} (hc : c < 64) (h : tb m c = false) : m ||| bitL (nI c) = m ^^^ bitL (nI c) := tb_ext (fun d _ => by
  rw [tb_or, tb_xor, tb_bit c hc]
  by_cases e : d = c
  · subst e; simp [h]
  · simp [e])
theorem bit_andn {m : Int64} {c : Nat} (hc : c < 64) (h : tb m c = true) : m &&& (bitL (nI c) ^^^ (-1)) = m ^^^ bitL (nI c) := tb_ext (fun d _ => by
  rw [tb_andnot, tb_xor, tb_bit c hc]
  by_cases e : d = c
  · subst e; simp [h]
  · simp [e])
theorem op_mow (x y : Int32) : Step Inv EX10_mow fZH EX12_mow fZH [.int x, .int y] := by
  refine step_of (fun cl se tr fa fp tp tk rd hi sc pl dr wa wb rc th wh ta mo sd mq ma rdv a1 a2 a3 a4 => ?_) (fun cl se tr fa fp tp tk rd hi sc pl dr wa wb rc th wh ta ac mk mq ma me rdv a1 I => ?_)
  · exact ⟨(false, _), (false, _), 0, _, _, rfl, rfl, rfl, rfl, inv0 a1 (by decide : (1 : Int32) ≠ 4) a3 a4⟩
  · obtain ⟨T, S, w, h, du, pa, sh, gc, hq, wc, ⟨H, G, N, P, GA, NO, HE, WK⟩, C, HI⟩ := id I
    have hn := H.n
    cases hb : (inr w x && inr h y)
    · have e : EX10_mow [.ref 0, .int x, .int y] (CH (1, cl, se, tr, fa, fp) tp tk rd hi sc pl dr wa wb rc) = some (false, CH (1, cl, se, 1, fa, fp) tp tk rd hi sc pl dr wa wb rc) := by
        rw [eX10_mow_s_1, qX10_mow_0_1, qX10_mow_3_1 (h := c_isCell G _ _), hb, if_b2i, if_neg (by decide)]
      have e1 : EX12_changesTo [.ref 0, .int x, .int y, .int 1] (M1 (0, tr, wh, ta, fa, cl, se, ac, mk) mq ma me rdv) = some (false, M1 (0, 1, -1, ta, fa, cl, se, ac, mk) mq ma me rdv) := by
        rw [eX12_changesTo_s_1, qX12_changesTo_0_1, qX12_changesTo_3_1 (h := m_isCell H N.1.1 N.1.2 _ _), hb, if_b2i, if_neg (by decide)]
      have e2 : EX12_mow [.ref 0, .int x, .int y] (M1 (th, tr, wh, ta, fa, cl, se, ac, mk) mq ma me rdv) = some (false, M1 (0, 1, -1, ta, fa, cl, se, ac, mk) mq ma me rdv) := by
        rw [eX12_mow_s_1, qX12_mow_0_1, qX12_mow_9_1 (h := e1), zb_b2i]; rfl
      exact ⟨_, _, 0, _, _, e, e2, rfl, rfl, inv1 I (by decide)⟩
    · rw [Bool.and_eq_true] at hb
      obtain ⟨X, hX, rfl⟩ := inr_true (by have := H.2.1; omega) hb.1
      obtain ⟨Y, hY, rfl⟩ := inr_true (by have := H.2.2.2; omega) hb.2
      have hc := yx_lt hX hY
      have hb2 : (inr w (nI X) && inr h (nI Y)) = true := by rw [hb.1, hb.2]; rfl
      cases h5 : tb cl (w * Y + X)
      · obtain ⟨hi2, ac2, ma2, R1, R2, R3, R4⟩ := keep_both HI C S
        have e : EX10_mow [.ref 0, .int (nI X), .int (nI Y)] (CH (1, cl, se, tr, fa, fp) tp tk rd hi sc pl dr wa wb rc) = some (true, CH (1, cl ^^^ bitL (nI (w * Y + X)), se, 0, fa, fp) tp tk rd hi2 sc pl dr wa wb rc) := by
          rw [eX10_mow_s_1, qX10_mow_0_1, qX10_mow_3_1 (h := c_isCell G _ _), hb2, if_b2i, if_pos rfl, qX10_mow_18_1 (h := c_isMown G H hX hY), h5, if_b2i, if_neg (by decide), G.1, pk_mul, nI_add, bit_or (by omega) h5, qX10_mow_51_1 (h := R3 _ _ _ _ _ _ _ _ _ _ _ _ _)]
        have e1 : EX12_changesTo [.ref 0, .int (nI X), .int (nI Y), .int 1] (M1 (0, tr, wh, ta, fa, cl, se, ac, mk) mq ma me rdv) = some (true, M1 (0, 0, -1, ta, fa, cl ^^^ bitL (nI (w * Y + X)), se, ac2, mk) mq ma2 me rdv) := by
          rw [eX12_changesTo_s_1, qX12_changesTo_0_1, qX12_changesTo_3_1 (h := m_isCell H N.1.1 N.1.2 _ _), hb2, if_b2i, if_pos rfl, N.1.1, pk_mul, nI_add, qX12_changesTo_25_1 (h := e_has _ _ (by omega)), h5, if_neg (by decide), qX12_changesTo_39_1 (h := R4 _ _ _ _ _ _ _ _), N.1.1, pk_mul, nI_add]
        have e2 : EX12_mow [.ref 0, .int (nI X), .int (nI Y)] (M1 (th, tr, wh, ta, fa, cl, se, ac, mk) mq ma me rdv) = some (true, M1 (0, 0, -1, ta, fa, cl ^^^ bitL (nI (w * Y + X)), se, ac2, mk) mq ma2 me rdv) := by
          rw [eX12_mow_s_1, qX12_mow_0_1, qX12_mow_9_1 (h := e1), zb_b2i]; rfl
        exact ⟨_, _, 1, _, _, e, e2, rfl, rfl, inv1 ⟨T.keep R2, S, w, h, du, pa, sh, gc, hq, wc, ⟨H, G, N, P, GA, NO, HE, WK⟩, Sub_xor C (Sub_bit hc (by omega)), R1⟩ (by decide)⟩
      · have e : EX10_mow [.ref 0, .int (nI X), .int (nI Y)] (CH (1, cl, se, tr, fa, fp) tp tk rd hi sc pl dr wa wb rc) = some (false, CH (1, cl, se, 5, fa, fp) tp tk rd hi sc pl dr wa wb rc) := by
          rw [eX10_mow_s_1, qX10_mow_0_1, qX10_mow_3_1 (h := c_isCell G _ _), hb2, if_b2i, if_pos rfl, qX10_mow_18_1 (h := c_isMown G H hX hY), h5, if_b2i, if_pos rfl]
        have e1 : EX12_changesTo [.ref 0, .int (nI X), .int (nI Y), .int 1] (M1 (0, tr, wh, ta, fa, cl, se, ac, mk) mq ma me rdv) = some (false, M1 (0, 5, -1, ta, fa, cl, se, ac, mk) mq ma me rdv) := by
          rw [eX12_changesTo_s_1, qX12_changesTo_0_1, qX12_changesTo_3_1 (h := m_isCell H N.1.1 N.1.2 _ _), hb2, if_b2i, if_pos rfl, N.1.1, pk_mul, nI_add, qX12_changesTo_25_1 (h := e_has _ _ (by omega)), h5, if_pos (by decide)]
        have e2 : EX12_mow [.ref 0, .int (nI X), .int (nI Y)] (M1 (th, tr, wh, ta, fa, cl, se, ac, mk) mq ma me rdv) = some (false, M1 (0, 5, -1, ta, fa, cl, se, ac, mk) mq ma me rdv) := by
          rw [eX12_mow_s_1, qX12_mow_0_1, qX12_mow_9_1 (h := e1), zb_b2i]; rfl
        exact ⟨_, _, 0, _, _, e, e2, rfl, rfl, inv1 I (by decide)⟩
theorem op_stand (x y : Int32) : Step Inv EX10_stand fZH EX12_stand fZH [.int x, .int y] := by
  refine step_of (fun cl se tr fa fp tp tk rd hi sc pl dr wa wb rc th wh ta mo sd mq ma rdv a1 a2 a3 a4 => ?_) (fun cl se tr fa fp tp tk rd hi sc pl dr wa wb rc th wh ta ac mk mq ma me rdv a1 I => ?_)
  · exact ⟨(false, _), (false, _), 0, _, _, rfl, rfl, rfl, rfl, inv0 a1 (by decide : (1 : Int32) ≠ 4) a3 a4⟩
  · obtain ⟨T, S, w, h, du, pa, sh, gc, hq, wc, ⟨H, G, N, P, GA, NO, HE, WK⟩, C, HI⟩ := id I
    have hn := H.n
    cases hb : (inr w x && inr h y)
    · have e : EX10_stand [.ref 0, .int x, .int y] (CH (1, cl, se, tr, fa, fp) tp tk rd hi sc pl dr wa wb rc) = some (false, CH (1, cl, se, 1, fa, fp) tp tk rd hi sc pl dr wa wb rc) := by
        rw [eX10_stand_s_1, qX10_stand_0_1, qX10_stand_3_1 (h := c_isCell G _ _), hb, if_b2i, if_neg (by decide)]
      have e1 : EX12_changesTo [.ref 0, .int x, .int y, .int 0] (M1 (0, tr, wh, ta, fa, cl, se, ac, mk) mq ma me rdv) = some (false, M1 (0, 1, -1, ta, fa, cl, se, ac, mk) mq ma me rdv) := by
        rw [eX12_changesTo_s_1, qX12_changesTo_0_1, qX12_changesTo_3_1 (h := m_isCell H N.1.1 N.1.2 _ _), hb, if_b2i, if_neg (by decide)]
      have e2 : EX12_stand [.ref 0, .int x, .int y] (M1 (th, tr, wh, ta, fa, cl, se, ac, mk) mq ma me rdv) = some (false, M1 (0, 1, -1, ta, fa, cl, se, ac, mk) mq ma me rdv) := by
        rw [eX12_stand_s_1, qX12_stand_0_1, qX12_stand_9_1 (h := e1), zb_b2i]; rfl
      exact ⟨_, _, 0, _, _, e, e2, rfl, rfl, inv1 I (by decide)⟩
    · rw [Bool.and_eq_true] at hb
      obtain ⟨X, hX, rfl⟩ := inr_true (by have := H.2.1; omega) hb.1
      obtain ⟨Y, hY, rfl⟩ := inr_true (by have := H.2.2.2; omega) hb.2
      have hc := yx_lt hX hY
      have hb2 : (inr w (nI X) && inr h (nI Y)) = true := by rw [hb.1, hb.2]; rfl
      cases h5 : tb cl (w * Y + X)
      · have e : EX10_stand [.ref 0, .int (nI X), .int (nI Y)] (CH (1, cl, se, tr, fa, fp) tp tk rd hi sc pl dr wa wb rc) = some (false, CH (1, cl, se, 5, fa, fp) tp tk rd hi sc pl dr wa wb rc) := by
          rw [eX10_stand_s_1, qX10_stand_0_1, qX10_stand_3_1 (h := c_isCell G _ _), hb2, if_b2i, if_pos rfl, qX10_stand_18_1 (h := c_isMown G H hX hY), h5, if_b2i, if_neg (by decide)]
        have e1 : EX12_changesTo [.ref 0, .int (nI X), .int (nI Y), .int 0] (M1 (0, tr, wh, ta, fa, cl, se, ac, mk) mq ma me rdv) = some (false, M1 (0, 5, -1, ta, fa, cl, se, ac, mk) mq ma me rdv) := by
          rw [eX12_changesTo_s_1, qX12_changesTo_0_1, qX12_changesTo_3_1 (h := m_isCell H N.1.1 N.1.2 _ _), hb2, if_b2i, if_pos rfl, N.1.1, pk_mul, nI_add, qX12_changesTo_25_1 (h := e_has _ _ (by omega)), h5, if_pos (by decide)]
        have e2 : EX12_stand [.ref 0, .int (nI X), .int (nI Y)] (M1 (th, tr, wh, ta, fa, cl, se, ac, mk) mq ma me rdv) = some (false, M1 (0, 5, -1, ta, fa, cl, se, ac, mk) mq ma me rdv) := by
          rw [eX12_stand_s_1, qX12_stand_0_1, qX12_stand_9_1 (h := e1), zb_b2i]; rfl
        exact ⟨_, _, 0, _, _, e, e2, rfl, rfl, inv1 I (by decide)⟩
      · obtain ⟨hi2, ac2, ma2, R1, R2, R3, R4⟩ := keep_both HI C S
        have e : EX10_stand [.ref 0, .int (nI X), .int (nI Y)] (CH (1, cl, se, tr, fa, fp) tp tk rd hi sc pl dr wa wb rc) = some (true, CH (1, cl ^^^ bitL (nI (w * Y + X)), se, 0, fa, fp) tp tk rd hi2 sc pl dr wa wb rc) := by
          rw [eX10_stand_s_1, qX10_stand_0_1, qX10_stand_3_1 (h := c_isCell G _ _), hb2, if_b2i, if_pos rfl, qX10_stand_18_1 (h := c_isMown G H hX hY), h5, if_b2i, if_pos rfl, G.1, pk_mul, nI_add, bit_andn (by omega) h5, qX10_stand_55_1 (h := R3 _ _ _ _ _ _ _ _ _ _ _ _ _)]
        have e1 : EX12_changesTo [.ref 0, .int (nI X), .int (nI Y), .int 0] (M1 (0, tr, wh, ta, fa, cl, se, ac, mk) mq ma me rdv) = some (true, M1 (0, 0, -1, ta, fa, cl ^^^ bitL (nI (w * Y + X)), se, ac2, mk) mq ma2 me rdv) := by
          rw [eX12_changesTo_s_1, qX12_changesTo_0_1, qX12_changesTo_3_1 (h := m_isCell H N.1.1 N.1.2 _ _), hb2, if_b2i, if_pos rfl, N.1.1, pk_mul, nI_add, qX12_changesTo_25_1 (h := e_has _ _ (by omega)), h5, if_neg (by decide), qX12_changesTo_39_1 (h := R4 _ _ _ _ _ _ _ _), N.1.1, pk_mul, nI_add]
        have e2 : EX12_stand [.ref 0, .int (nI X), .int (nI Y)] (M1 (th, tr, wh, ta, fa, cl, se, ac, mk) mq ma me rdv) = some (true, M1 (0, 0, -1, ta, fa, cl ^^^ bitL (nI (w * Y + X)), se, ac2, mk) mq ma2 me rdv) := by
          rw [eX12_stand_s_1, qX12_stand_0_1, qX12_stand_9_1 (h := e1), zb_b2i]; rfl
        exact ⟨_, _, 1, _, _, e, e2, rfl, rfl, inv1 ⟨T.keep R2, S, w, h, du, pa, sh, gc, hq, wc, ⟨H, G, N, P, GA, NO, HE, WK⟩, Sub_xor C (Sub_bit hc (by omega)), R1⟩ (by decide)⟩
theorem pcn_minus {a b : Int64} (hb : ∀ k, tb b k = true → tb a k = true) : pcn (a &&& (b ^^^ (-1))) + pcn b = pcn a := by
  have e : pcn a = fb_ct (fun k => tb (a &&& (b ^^^ (-1))) k || tb b k) 64 := fb_ct_cong (fun k _ => by
    rw [tb_andnot]
    cases h1 : tb a k
    · cases h2 : tb b k
      · rfl
      · rw [hb k h2] at h1; cases h1
    · cases h2 : tb b k <;> rfl)
  rw [e, fb_ct_or (fun k _ hh => by rw [tb_andnot, hh.2] at hh; simp at hh)]
  rfl
theorem op_week : Step Inv EX10_week fIH EX12_week fIH [] := by
  refine step_of (fun cl se tr fa fp tp tk rd hi sc pl dr wa wb rc th wh ta mo sd mq ma rdv a1 a2 a3 a4 => ?_) (fun cl se tr fa fp tp tk rd hi sc pl dr wa wb rc th wh ta ac mk mq ma me rdv a1 I => ?_)
  · exact ⟨(-1, _), (-1, _), -1, _, _, rfl, rfl, rfl, rfl, inv0 a1 (by decide : (1 : Int32) ≠ 4) a3 a4⟩
  · obtain ⟨T, S, w, h, du, pa, sh, gc, hq, wc, ⟨H, G, N, P, GA, NO, HE, WK⟩, C, HI⟩ := id I
    have hn := H.n
    obtain ⟨hi2, ac2, ma2, R1, R2, R3, R4⟩ := keep_both HI C S
    have hin : ∀ k, tb (wkl pl.1 cl pl.2.2.2.2.2.2.2.2.1 pl.2.2.2.2.2.2.1 (w * h)) k = true → tb cl k = true := fun k hk => wkl_in (by omega) hk
    have hp := pcn_minus hin
    have e : EX10_week [.ref 0] (CH (1, cl, se, tr, fa, fp) tp tk rd hi sc pl dr wa wb rc) = some (nI (pcn (cl &&& (wkl pl.1 cl pl.2.2.2.2.2.2.2.2.1 pl.2.2.2.2.2.2.1 (w * h) ^^^ (-1)))), CH (1, wkl pl.1 cl pl.2.2.2.2.2.2.2.2.1 pl.2.2.2.2.2.2.1 (w * h), se, 0, fa, fp) tp tk rd hi2 sc pl dr wa wb rc) := by
      rw [eX10_week_s_1, qX10_week_0_1, qX10_week_24_1 (h := c_week H G _), qX10_week_27_1 (h := R3 _ _ _ _ _ _ _ _ _ _ _ _ _), bcnt_eq]
    have e2 : EX12_week [.ref 0] (M1 (th, tr, wh, ta, fa, cl, se, ac, mk) mq ma me rdv) = some (nI (pcn (cl &&& (wkl pl.1 cl pl.2.2.2.2.2.2.2.2.1 pl.2.2.2.2.2.2.1 (w * h) ^^^ (-1)))), M1 (0, 0, -1, ta, fa, wkl pl.1 cl pl.2.2.2.2.2.2.2.2.1 pl.2.2.2.2.2.2.1 (w * h), se, ac2, mk) mq ma2 me rdv) := by
      rw [eX12_week_s_1, qX12_week_0_1, qX12_week_19_1 (h := R4 _ _ _ _ _ _ _ _)]
      dsimp only
      rw [qX12_week_26_1 (h := e_bits _ _), qX12_week_36_1 (h := m_week H G N GA _), qX12_week_48_1 (h := e_bits _ _), pk_sub (by omega), show pcn cl - pcn (wkl pl.1 cl pl.2.2.2.2.2.2.2.2.1 pl.2.2.2.2.2.2.1 (w * h)) = pcn (cl &&& (wkl pl.1 cl pl.2.2.2.2.2.2.2.2.1 pl.2.2.2.2.2.2.1 (w * h) ^^^ (-1))) by omega]
    exact ⟨_, _, _, _, _, e, e2, rfl, rfl, inv1 ⟨T.keep R2, S, w, h, du, pa, sh, gc, hq, wc, ⟨H, G, N, P, GA, NO, HE, WK⟩, fun k hk => C k (hin k hk), R1⟩ (by decide)⟩
theorem draw_c {v : Nat} (hv : v < 65537) : ((75 * nI v) + 74) - ((75 * nI v) + 74) / 65537 * 65537 = nI ((75 * v + 74) % 65537) := by
  have e : (75 * nI v) + 74 = nI (75 * v + 74) := by
    rw [show (75 : Int32) = nI 75 from rfl, show (74 : Int32) = nI 74 from rfl, pk_mul, nI_add]
  rw [e]
  exact pk_rem (d := 65537) (by omega) (by omega) (by omega)
theorem draw_m {v : Nat} (hv : v < 65537) : (((75 * (nI v).toInt64) + 74) - ((75 * (nI v).toInt64) + 74) / 65537 * 65537).toInt32 = nI ((75 * v + 74) % 65537) := by
  have e : (75 * (nI v).toInt64) + 74 = lN (75 * v + 74) := by
    rw [nI_l (by omega), show (75 : Int64) = lN 75 from rfl, show (74 : Int64) = lN 74 from rfl, lN_mul, lN_add]
  have e2 : lN (75 * v + 74) - lN (75 * v + 74) / 65537 * 65537 = lN ((75 * v + 74) % 65537) := pk_lRem (b := 65537) (by omega) (by omega) (by omega)
  rw [e, e2, lN_i]
