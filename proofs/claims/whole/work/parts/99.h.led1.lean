/-! led: which gate, or none. -/
def ledA (sn : Nat → Bool) (i : Int32) : Nat → Nat → Int32 → Option Nat
  | 0, _, _ => none
  | d + 1, g, n => if sn g = true then ledA sn i d (g + 1) n else if n = i then some g else ledA sn i d (g + 1) (n + 1)
theorem ledA_lt {sn : Nat → Bool} {i : Int32} : ∀ (d g : Nat) (n : Int32) (r : Nat), ledA sn i d g n = some r → r < g + d := by
  intro d
  induction d with
  | zero => intro g n r h; cases h
  | succ d ih =>
    intro g n r h
    unfold ledA at h
    split at h
    · have := ih _ _ _ h; omega
    · split at h
      · cases h; omega
      · have := ih _ _ _ h; omega
abbrev snA (cl : Int64) (pl : PlS) (w : Nat) (g : Nat) : Bool := !decide (sev cl w (gtf pl g / w) (gtf pl g % w) = 0)
section
variable {cl : Int64} {se tr fa fp : Int32} {tp : TpS} {tk : TkS} {rd : RdS} {hi : HiS} {sc : ScS} {pl dr : PlS} {wa wb : WaS} {rc : Nat → Int32} {th mtr wh ta mfa : Int32} {mo : Int64} {sd ac mk : Int32} {mq : MsS} {ma : MaS} {me : MeS} {rdv : Value}
theorem c_ledl {w h gc : Nat} (H : WH w h) (G : GrOK pl.1 w h) (GA : PlGa pl me (w * h) gc) (i : Int32) : ∀ (d g : Nat) (n : Int32) (N : Nat), g + d = gc → d < N → lp BX10_led_4 N [(0, .ref 0), (1, .int i), (2, .int n), (3, .int (nI g))] [] (CH (1, cl, se, tr, fa, fp) tp tk rd hi sc pl dr wa wb rc) = (ledA (snA cl pl w) i d g n).map nI := by
  have hg := GA.1
  intro d
  induction d with
  | zero =>
    intro g n N h1 h2
    obtain ⟨M, rfl⟩ : ∃ M, N = M + 1 := ⟨N - 1, by omega⟩
    show BX10_led_4 (lp BX10_led_4 M) _ _ _ = none
    rw [qX10_led_4_1, GA.2.1, if_le (by omega) (by omega), if_pos (by omega)]
  | succ d ih =>
    intro g n N h1 h2
    obtain ⟨M, rfl⟩ : ∃ M, N = M + 1 := ⟨N - 1, by omega⟩
    show BX10_led_4 (lp BX10_led_4 M) _ _ _ = _
    rw [qX10_led_4_1, GA.2.1, if_le (by omega) (by omega), if_neg (by omega), qX10_led_24_1 (h := c_gateSeen H G GA (by omega)), if_b2i, nI_1]
    unfold ledA
    by_cases h5 : sev cl w (gtf pl g / w) (gtf pl g % w) = 0
    · have h6 : snA cl pl w g = false := by unfold snA; rw [decide_eq_true h5]; rfl
      rw [show (!decide (sev cl w (gtf pl g / w) (gtf pl g % w) = 0)) = false from h6, if_neg (show ¬ (false = true) by decide), h6, if_neg (show ¬ (false = true) by decide)]
      by_cases h7 : n = i
      · rw [if_pos h7, if_pos h7]; rfl
      · rw [if_neg h7, if_neg h7]; exact ih _ _ _ (by omega) (by omega)
    · have h6 : snA cl pl w g = true := by unfold snA; rw [decide_eq_false h5]; rfl
      rw [show (!decide (sev cl w (gtf pl g / w) (gtf pl g % w) = 0)) = true from h6, if_pos rfl, h6, if_pos rfl]
      exact ih _ _ _ (by omega) (by omega)
theorem c_led1 {w h gc : Nat} (H : WH w h) (G : GrOK pl.1 w h) (GA : PlGa pl me (w * h) gc) (i : Int32) : EX10_led [.ref 0, .int i] (CH (1, cl, se, tr, fa, fp) tp tk rd hi sc pl dr wa wb rc) = (ledA (snA cl pl w) i gc 0 0).map nI := by
  have hg := GA.1
  rw [eX10_led_s_1, qX10_led_0_1]
  exact c_ledl H G GA i gc 0 0 FU (by omega) (by have := FU_ge; omega)
theorem m_ledl {w h gc : Nat} {du pa sh : Nat} (H : WH w h) (N : PlNu pl me w h du pa sh) (GA : PlGa pl me (w * h) gc) (i : Int32) : ∀ (d g : Nat) (n : Int32) (k : Nat), g + d = gc → d < k → lp BX12_led_9 k [(0, .ref 0), (1, .int i), (2, .int n), (3, .int (nI g))] [] (M1 (0, mtr, wh, ta, mfa, cl, sd, ac, mk) mq ma me rdv) = some (match ledA (snA cl pl w) i d g n with
    | some r => (nI r, M1 (0, mtr, wh, ta, mfa, cl, sd, ac, mk) mq ma me rdv)
    | none => (0, M1 (1, mtr, wh, ta, mfa, cl, sd, ac, mk) mq ma me rdv)) := by
  have hg := GA.1
  have hn := H.n
  intro d
  induction d with
  | zero =>
    intro g n k h1 h2
    obtain ⟨M, rfl⟩ : ∃ M, k = M + 1 := ⟨k - 1, by omega⟩
    show BX12_led_9 (lp BX12_led_9 M) _ _ _ = _
    rw [qX12_led_9_1, GA.2.2.1, if_le (by omega) (by omega), if_pos (by omega)]
    rfl
  | succ d ih =>
    intro g n k h1 h2
    obtain ⟨M, rfl⟩ : ∃ M, k = M + 1 := ⟨k - 1, by omega⟩
    obtain ⟨g1, g2, g3⟩ := ga_at GA hn.1 (show g < gc by omega)
    obtain ⟨y1, y2, y3⟩ := yx_of g1 (by have := H.1; omega)
    have e := e_seenNow (mp := (0, mtr, wh, ta, mfa, cl, sd, ac, mk)) (mq := mq) (ma := ma) (rdv := rdv) H N.1.1 y3 y2
    rw [y1] at e
    show BX12_led_9 (lp BX12_led_9 M) _ _ _ = _
    rw [qX12_led_9_1, GA.2.2.1, if_le (by omega) (by omega), if_neg (by omega), if_neg (nI_in (by omega : g < 4) (by omega)), nI_clamp (by omega), g3, qX12_led_37_1 (h := e), nI_1]
    unfold ledA
    by_cases h5 : sev cl w (gtf pl g / w) (gtf pl g % w) = 0
    · have h6 : snA cl pl w g = false := by unfold snA; rw [decide_eq_true h5]; rfl
      rw [if_pos h5, h6, if_neg (show ¬ (false = true) by decide)]
      by_cases h7 : n = i
      · rw [if_pos h7, if_pos h7]
      · rw [if_neg h7, if_neg h7]; exact ih _ _ _ (by omega) (by omega)
    · have h6 : snA cl pl w g = true := by unfold snA; rw [decide_eq_false h5]; rfl
      rw [if_neg h5, h6, if_pos rfl]
      exact ih _ _ _ (by omega) (by omega)
theorem m_led1 {w h gc : Nat} {du pa sh : Nat} (H : WH w h) (N : PlNu pl me w h du pa sh) (GA : PlGa pl me (w * h) gc) (i : Int32) : EX12_led [.ref 0, .int i] (M1 (th, mtr, wh, ta, mfa, cl, sd, ac, mk) mq ma me rdv) = some (match ledA (snA cl pl w) i gc 0 0 with
    | some r => (nI r, M1 (0, mtr, wh, ta, mfa, cl, sd, ac, mk) mq ma me rdv)
    | none => (0, M1 (1, mtr, wh, ta, mfa, cl, sd, ac, mk) mq ma me rdv)) := by
  have hg := GA.1
  rw [eX12_led_s_1, qX12_led_0_1]
  exact m_ledl H N GA i gc 0 0 FU (by omega) (by have := FU_ge; omega)
theorem m_led0 (i : Int32) : EX12_led [.ref 0, .int i] (M0 (th, mtr, wh, ta, mfa, mo, sd, ac, mk) mq ma rdv) = some (0, M0 (1, mtr, wh, ta, mfa, mo, sd, ac, mk) mq ma rdv) := by
  rw [eX12_led_s_0, qX12_led_0_0]
  obtain ⟨M, hM⟩ : ∃ M, FU = M + 1 := ⟨FU - 1, by have := FU_ge; omega⟩
  rw [hM]
  exact qX12_led_9_0 ..
end
/-- what a walk to the throw needs to know of the cells -/
def LedH (hp : HP) (i : Int32) : Prop := hp.length ≤ 2000 ∧ ∃ fs, hp[0]? = some (.inr (10, fs)) ∧ (fs[9]? = some (.int 0) ∨ ∃ (gc : Nat) (sn : Nat → Bool) (gs : List Value), fs[9]? = some (.int 1) ∧ fs[7]? = some (.ref 14) ∧ hp[14]? = some (.inr (3, gs)) ∧ gs[11]? = some (.int (nI gc)) ∧ gc ≤ 4 ∧ (∀ g, g < gc → EX10_isGateSeen [.ref 0, .int (nI g)] hp = some (sn g)) ∧ ledA sn i gc 0 0 = none)
/-- both sides of led: what the class answers (nothing: it throws), what the model answers and says -/
theorem led_two {hc hm : HP} (hI : Inv hc hm) (i : Int32) : (∃ r om, EX10_led [.ref 0, .int i] hc = some r ∧ EX12_led [.ref 0, .int i] hm = some (r, om) ∧ EX12_thrown [.ref 0] om = some 0 ∧ om.length = hm.length ∧ recvOK (some 12) [.ref 0] om = true ∧ Inv hc om) ∨ (∃ om, LedH hc i ∧ EX12_led [.ref 0, .int i] hm = some (0, om) ∧ EX12_thrown [.ref 0] om = some 1 ∧ om.length = hm.length ∧ recvOK (some 12) [.ref 0] om = true ∧ Inv hc om) := by
  rcases hI with ⟨cl, se, tr, fa, fp, tp, tk, rd, hi, sc, pl, dr, wa, wb, rc, th, wh, ta, mo, sd, mq, ma, rdv, rfl, rfl, a1, a2, a3, a4⟩ | ⟨cl, se, tr, fa, fp, tp, tk, rd, hi, sc, pl, dr, wa, wb, rc, th, wh, ta, ac, mk, mq, ma, me, rdv, rfl, rfl, a1, I⟩
  · exact Or.inr ⟨_, ⟨by rw [CH_len]; omega, _, rfl, Or.inl rfl⟩, m_led0 i, rfl, rfl, rfl, Or.inl ⟨cl, se, tr, fa, fp, tp, tk, rd, hi, sc, pl, dr, wa, wb, rc, 1, wh, ta, mo, sd, mq, ma, rdv, rfl, rfl, a1, a2, a3, a4⟩⟩
  · obtain ⟨T, S, w, h, du, pa, sh, gc, hq, wc, ⟨H, G, N, P, GA, NO, HE, WK⟩, C, HI⟩ := id I
    have e1 := c_led1 (cl := cl) (se := se) (tr := tr) (fa := fa) (fp := fp) (tp := tp) (tk := tk) (rd := rd) (hi := hi) (sc := sc) (dr := dr) (wa := wa) (wb := wb) (rc := rc) H G GA i
    have e2 := m_led1 (cl := cl) (th := th) (mtr := tr) (wh := wh) (ta := ta) (mfa := fa) (sd := se) (ac := ac) (mk := mk) (mq := mq) (ma := ma) (rdv := rdv) H N GA i
    cases hA : ledA (snA cl pl w) i gc 0 0 with
    | some r =>
      rw [hA] at e1 e2
      exact Or.inl ⟨nI r, _, e1, e2, rfl, rfl, rfl, Or.inr ⟨cl, se, tr, fa, fp, tp, tk, rd, hi, sc, pl, dr, wa, wb, rc, 0, wh, ta, ac, mk, mq, ma, me, rdv, rfl, rfl, a1, I⟩⟩
    | none =>
      rw [hA] at e1 e2
      refine Or.inr ⟨_, ⟨by rw [CH_len]; omega, _, rfl, Or.inr ⟨gc, snA cl pl w, _, rfl, rfl, rfl, ?_, GA.1, fun g hg => c_gateSeen H G GA hg, hA⟩⟩, e2, rfl, rfl, rfl, Or.inr ⟨cl, se, tr, fa, fp, tp, tk, rd, hi, sc, pl, dr, wa, wb, rc, 1, wh, ta, ac, mk, mq, ma, me, rdv, rfl, rfl, a1, I⟩⟩
      rw [← GA.2.1]
      rfl
