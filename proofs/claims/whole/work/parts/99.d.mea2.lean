/-! meadow: places anew, and the call. -/
theorem ren1 {hp : HP} {ρ : Nat → Nat} {i : Nat} {x a y : AE} (ha : some a = some x) (hy : hp[ρ i]? = some y) (h : ∀ (cy ad : Nat → Nat), re cy (fun n => ad (ρ n)) a = re cy ad y) : ∃ y, hp[ρ i]? = some y ∧ ∀ (cy ad : Nat → Nat), re cy (fun n => ad (ρ n)) x = re cy ad y := by
  cases ha
  exact ⟨y, hy, h⟩
theorem ren_app {hp l : HP} (h : hp.length ≤ 2000) : Ren (hp ++ l) hp := ⟨id, h, rfl, fun _ _ => rfl, fun _ _ _ _ e => e, fun i x hx => ⟨x, by rw [← hx]; exact List.getElem?_append_left (List.getElem?_eq_some_iff.mp hx).1, fun _ _ => rfl⟩⟩
theorem ren_M2 (mp : MpS) (mq : MsS) (ma : MaS) (re : MeS) : Ren (M2 mp mq ma re) (M0 mp mq ma (.ref 16)) :=
  ren_app (hp := M0 mp mq ma (.ref 16)) (l := (M2 mp mq ma re).drop 16) (by rw [M0_len]; omega)
theorem ren_M3 (mp : MpS) (mq : MsS) (ma : MaS) (me re : MeS) : Ren (M3 mp mq ma me re) (M1 mp mq ma me (.ref 25)) :=
  ren_app (hp := M1 mp mq ma me (.ref 25)) (l := (M3 mp mq ma me re).drop 25) (by rw [M1_len]; omega)
def swp (n : Nat) : Nat := if 14 ≤ n ∧ n < 29 then n + 15 else if 29 ≤ n ∧ n < 44 then n - 15 else n
theorem swp_swp (n : Nat) : swp (swp n) = n := by
  unfold swp
  by_cases h1 : 14 ≤ n ∧ n < 29
  · rw [if_pos h1, if_neg (by omega), if_pos (by omega)]; omega
  · rw [if_neg h1]
    by_cases h2 : 29 ≤ n ∧ n < 44
    · rw [if_pos h2, if_pos (by omega)]; omega
    · rw [if_neg h2, if_neg h1, if_neg h2]
def sh9 (n : Nat) : Nat := if 16 ≤ n ∧ n < 25 then n + 9 else n
abbrev waS (wa : WaS) : WaS := (wa.1, (swp wa.2.1.1, swp wa.2.1.2), wa.2.2)
theorem wkf_s (cy ad : Nat → Nat) (q q2 : Nat) (h : ∀ j, j < 5 → swp (q + j) = q2 + j) : re cy (fun n => ad (swp n)) (aQ 5 (wkf q)) = re cy ad (aQ 5 (wkf q2)) := by
  have e : (fun j => if j < 5 then (wkf q j).map (fun n => ad (swp n)) else none) = (fun j => if j < 5 then (wkf q2 j).map ad else none) := by
    funext j
    match j with
    | 0 => exact congrArg (fun x => some (ad x)) (h 0 (by omega))
    | 1 => exact congrArg (fun x => some (ad x)) (h 1 (by omega))
    | 2 => exact congrArg (fun x => some (ad x)) (h 2 (by omega))
    | 3 => exact congrArg (fun x => some (ad x)) (h 3 (by omega))
    | 4 => exact congrArg (fun x => some (ad x)) (h 4 (by omega))
    | j + 5 => rfl
  exact congrArg (fun f => (Sum.inl (cy 3, 5, .inr (.inr (.inr (.inr f)))) : va_E)) e
theorem rfl_wa (ad : Nat → Nat) (n : Nat) : rv (fun n => ad (swp n)) (.ref (swp n)) = rv ad (.ref n) := by
  show Value.ref (ad (swp (swp n))) = Value.ref (ad n)
  rw [swp_swp]
theorem wac_s (cy ad : Nat → Nat) (a b c : Nat) (h1 : swp a = a) (h2 : swp b = b) (h3 : swp c = c) (w : WaS) : re cy (fun n => ad (swp n)) (.inr (8, [.ref a, .ref b, .ref c, .ref (waS w).2.1.1, .ref (waS w).2.1.2, .long w.2.2.1, .long w.2.2.2.1, .int w.2.2.2.2.1, .int w.2.2.2.2.2.1, .int w.2.2.2.2.2.2.1, .int w.2.2.2.2.2.2.2.1, .int w.2.2.2.2.2.2.2.2])) = re cy ad (.inr (8, [.ref a, .ref b, .ref c, .ref w.2.1.1, .ref w.2.1.2, .long w.2.2.1, .long w.2.2.2.1, .int w.2.2.2.2.1, .int w.2.2.2.2.2.1, .int w.2.2.2.2.2.2.1, .int w.2.2.2.2.2.2.2.1, .int w.2.2.2.2.2.2.2.2])) := by
  show Sum.inr (8, [Value.ref (ad (swp a)), Value.ref (ad (swp b)), Value.ref (ad (swp c)), Value.ref (ad (swp (swp w.2.1.1))), Value.ref (ad (swp (swp w.2.1.2))), _, _, _, _, _, _, _]) = Sum.inr (8, [Value.ref (ad a), Value.ref (ad b), Value.ref (ad c), Value.ref (ad w.2.1.1), Value.ref (ad w.2.1.2), _, _, _, _, _, _, _])
  rw [swp_swp, swp_swp, h1, h2, h3]
  rfl
theorem ren_s (mz : MzS) (tp : TpS) (tk : TkS) (rd : RdS) (hi : HiS) (sc : ScS) (pl dr : PlS) (wa wb : WaS) (rc : Nat → Int32) : Ren (CHs mz tp tk rd hi sc pl dr wa wb rc) (CH mz tp tk rd hi sc dr pl (waS wa) (waS wb) rc) := by
  refine ⟨swp, by rw [CH_len]; omega, rfl, fun n hn => by unfold swp; rw [if_neg (by omega), if_neg (by omega)], fun i j _ _ e => by rw [← swp_swp i, e, swp_swp], fun i x hx => ?_⟩
  match i, hx with
  | 0, hx => exact ren1 hx rfl (fun cy ad => rfl)
  | 1, hx => exact ren1 hx rfl (fun cy ad => rfl)
  | 2, hx => exact ren1 hx rfl (fun cy ad => rfl)
  | 3, hx => exact ren1 hx rfl (fun cy ad => rfl)
  | 4, hx => exact ren1 hx rfl (fun cy ad => rfl)
  | 5, hx => exact ren1 hx rfl (fun cy ad => rfl)
  | 6, hx => exact ren1 hx rfl (fun cy ad => rfl)
  | 7, hx => exact ren1 hx rfl (fun cy ad => rfl)
  | 8, hx => exact ren1 hx rfl (fun cy ad => rfl)
  | 9, hx => exact ren1 hx rfl (fun cy ad => rfl)
  | 10, hx => exact ren1 hx rfl (fun cy ad => rfl)
  | 11, hx => exact ren1 hx rfl (fun cy ad => rfl)
  | 12, hx => exact ren1 hx rfl (fun cy ad => rfl)
  | 13, hx => exact ren1 hx rfl (fun cy ad => rfl)
  | 14, hx => exact ren1 hx rfl (fun cy ad => rfl)
  | 15, hx => exact ren1 hx rfl (fun cy ad => rfl)
  | 16, hx => exact ren1 hx rfl (fun cy ad => rfl)
  | 17, hx => exact ren1 hx rfl (fun cy ad => rfl)
  | 18, hx => exact ren1 hx rfl (fun cy ad => rfl)
  | 19, hx => exact ren1 hx rfl (fun cy ad => rfl)
  | 20, hx => exact ren1 hx rfl (fun cy ad => rfl)
  | 21, hx => exact ren1 hx rfl (fun cy ad => rfl)
  | 22, hx => exact ren1 hx rfl (fun cy ad => rfl)
  | 23, hx => exact ren1 hx rfl (fun cy ad => wkf_s cy ad 24 39 (fun j hj => by unfold swp; rw [if_pos (by omega)]; omega))
  | 24, hx => exact ren1 hx rfl (fun cy ad => rfl)
  | 25, hx => exact ren1 hx rfl (fun cy ad => rfl)
  | 26, hx => exact ren1 hx rfl (fun cy ad => rfl)
  | 27, hx => exact ren1 hx rfl (fun cy ad => rfl)
  | 28, hx => exact ren1 hx rfl (fun cy ad => rfl)
  | 29, hx => exact ren1 hx rfl (fun cy ad => rfl)
  | 30, hx => exact ren1 hx rfl (fun cy ad => rfl)
  | 31, hx => exact ren1 hx rfl (fun cy ad => rfl)
  | 32, hx => exact ren1 hx rfl (fun cy ad => rfl)
  | 33, hx => exact ren1 hx rfl (fun cy ad => rfl)
  | 34, hx => exact ren1 hx rfl (fun cy ad => rfl)
  | 35, hx => exact ren1 hx rfl (fun cy ad => rfl)
  | 36, hx => exact ren1 hx rfl (fun cy ad => rfl)
  | 37, hx => exact ren1 hx rfl (fun cy ad => rfl)
  | 38, hx => exact ren1 hx rfl (fun cy ad => wkf_s cy ad 39 24 (fun j hj => by unfold swp; rw [if_neg (by omega), if_pos (by omega)]; omega))
  | 39, hx => exact ren1 hx rfl (fun cy ad => rfl)
  | 40, hx => exact ren1 hx rfl (fun cy ad => rfl)
  | 41, hx => exact ren1 hx rfl (fun cy ad => rfl)
  | 42, hx => exact ren1 hx rfl (fun cy ad => rfl)
  | 43, hx => exact ren1 hx rfl (fun cy ad => rfl)
  | 44, hx => exact ren1 hx rfl (fun cy ad => wac_s cy ad 45 46 47 rfl rfl rfl wa)
  | 45, hx => exact ren1 hx rfl (fun cy ad => rfl)
  | 46, hx => exact ren1 hx rfl (fun cy ad => rfl)
  | 47, hx => exact ren1 hx rfl (fun cy ad => rfl)
  | 48, hx => exact ren1 hx rfl (fun cy ad => wac_s cy ad 49 50 51 rfl rfl rfl wb)
  | 49, hx => exact ren1 hx rfl (fun cy ad => rfl)
  | 50, hx => exact ren1 hx rfl (fun cy ad => rfl)
  | 51, hx => exact ren1 hx rfl (fun cy ad => rfl)
  | 52, hx => exact ren1 hx rfl (fun cy ad => rfl)
  | n + 53, hx => exact nomatch (show (none : Option AE) = some x from hx)
theorem ren_M4 (mp : MpS) (mq : MsS) (ma : MaS) (me re : MeS) : Ren (M4 mp mq ma me re) (M1 mp mq ma re (.ref 16)) := by
  refine ⟨sh9, by rw [M1_len]; omega, rfl, fun n hn => by unfold sh9; rw [if_neg (by omega)], fun i j hi hj e => ?_, fun i x hx => ?_⟩
  · rw [M1_len] at hi hj
    unfold sh9 at e
    by_cases h1 : 16 ≤ i ∧ i < 25 <;> by_cases h2 : 16 ≤ j ∧ j < 25
    · rw [if_pos h1, if_pos h2] at e; omega
    · rw [if_pos h1, if_neg h2] at e; omega
    · rw [if_neg h1, if_pos h2] at e; omega
    · rw [if_neg h1, if_neg h2] at e; omega
  · match i, hx with
    | 0, hx => exact ren1 hx rfl (fun cy ad => rfl)
    | 1, hx => exact ren1 hx rfl (fun cy ad => rfl)
    | 2, hx => exact ren1 hx rfl (fun cy ad => rfl)
    | 3, hx => exact ren1 hx rfl (fun cy ad => rfl)
    | 4, hx => exact ren1 hx rfl (fun cy ad => rfl)
    | 5, hx => exact ren1 hx rfl (fun cy ad => rfl)
    | 6, hx => exact ren1 hx rfl (fun cy ad => rfl)
    | 7, hx => exact ren1 hx rfl (fun cy ad => rfl)
    | 8, hx => exact ren1 hx rfl (fun cy ad => rfl)
    | 9, hx => exact ren1 hx rfl (fun cy ad => rfl)
    | 10, hx => exact ren1 hx rfl (fun cy ad => rfl)
    | 11, hx => exact ren1 hx rfl (fun cy ad => rfl)
    | 12, hx => exact ren1 hx rfl (fun cy ad => rfl)
    | 13, hx => exact ren1 hx rfl (fun cy ad => rfl)
    | 14, hx => exact ren1 hx rfl (fun cy ad => rfl)
    | 15, hx => exact ren1 hx rfl (fun cy ad => rfl)
    | 16, hx => exact ren1 hx rfl (fun cy ad => rfl)
    | 17, hx => exact ren1 hx rfl (fun cy ad => rfl)
    | 18, hx => exact ren1 hx rfl (fun cy ad => rfl)
    | 19, hx => exact ren1 hx rfl (fun cy ad => rfl)
    | 20, hx => exact ren1 hx rfl (fun cy ad => rfl)
    | 21, hx => exact ren1 hx rfl (fun cy ad => rfl)
    | 22, hx => exact ren1 hx rfl (fun cy ad => rfl)
    | 23, hx => exact ren1 hx rfl (fun cy ad => rfl)
    | 24, hx => exact ren1 hx rfl (fun cy ad => rfl)
    | n + 25, hx => exact nomatch (show (none : Option AE) = some x from hx)
theorem ren_MN (o : Option MeS) (mp : MpS) (mq : MsS) (ma : MaS) (re : MeS) : Ren (MN o mp mq ma re) (M1 mp mq ma re (.ref 16)) := by
  cases o with
  | none => exact Ren.refl (by rw [M1_len]; omega)
  | some me => exact ren_M4 ..
theorem mea_go {la : Int32} {cl : Int64} {se tr fa fp : Int32} {tp : TpS} {tk : TkS} {rd : RdS} {hi : HiS} {sc : ScS} {pl dr : PlS} {wa wb : WaS} {rc : Nat → Int32} {mtr wh ta : Int32} {mo : Int64} {sd ac mk : Int32} {mq : MsS} {ma : MaS} {o : Option MeS} {n : Int32} (T : TpRel tp ta ma) (h0 : ¬ n < 0) (h1 : n ≤ tp.2) :
    (∃ tk2 rd2 dr2 mq2 ma2 re2, D1 dr2 re2 ∧ BX10_meadow_30 [(0, .ref 0)] [.int n, .ref 29, .ref 3] (CH (la, cl, se, tr, fa, fp) tp tk rd hi sc pl dr wa wb rc) = some (nI (pcn dr2.2.1.1.1), CHs (1, dr2.2.1.1.1, 0, 0, 0, -1) (tp.1, 0) tk2 rd2 (hi.1, hi.2.1, hi.2.2.1, hi.2.2.2.1, 0, 0) sc pl dr2 wa wb rc) ∧ BX12_meadow_60 [(0, .ref 0)] [.ref 0] (MM o (0, mtr, wh, 0, 0, mo, sd, ac, mk) ((n, 0, 0, mq.1.2.2.2), mq.2) ma me0) = some (nI (pcn re2.2.1.1), MN o (0, 0, -1, 0, 0, re2.2.1.1, 0, 0, 0) mq2 ma2 re2)) ∨
    (∃ f w tk2 rd2 dr2 mq2 ma2 re2, KeepMa ma ma2 ∧ BX10_meadow_30 [(0, .ref 0)] [.int n, .ref 29, .ref 3] (CH (la, cl, se, tr, fa, fp) tp tk rd hi sc pl dr wa wb rc) = some (-1, CH (la, cl, se, 4, f, w) (tp.1, 0) tk2 rd2 hi sc pl dr2 wa wb rc) ∧ BX12_meadow_60 [(0, .ref 0)] [.ref 0] (MM o (0, mtr, wh, 0, 0, mo, sd, ac, mk) ((n, 0, 0, mq.1.2.2.2), mq.2) ma me0) = some (-1, MM o (0, 4, w, 0, f, mo, sd, ac, mk) mq2 ma2 re2)) := by
  obtain ⟨m, hm, e1, e2, e3⟩ := T
  obtain ⟨i, hi1, rfl⟩ := nI_of h0
  rw [e1] at h1
  have hi2 : i ≤ m := (nI_leI hi1 (by omega)).mp h1
  obtain ⟨ra, rp, nb, cc, cp⟩ := rd
  have H : Ctx tp ma m i := ⟨hm, e1, hi2, fun k hk => by unfold bt; rw [e3 k (by omega)]⟩
  obtain ⟨u1, SP1, g1, R⟩ := t_read (mz := (la, cl, se, tr, fa, fp)) (ra := ra) (rp := rp) (nb := nb) (cc := cc) (cp := cp) (hi := hi) (sc := sc) (pl := pl) (dr := dr) (wa := wa) (wb := wb) (rc := rc) (o := o) (th := 0) (mtr := mtr) (wh := wh) (ta := 0) (mfa := 0) (mo := mo) (sd := sd) (ac := ac) (mk := mk) (mq := mq) (wr := mq.2.1.1) (rm := mq.2.1.2.1) (rs := mq.2.1.2.2) (SP := ma.2.1) (re := me0) (tk := tk) H ⟨rfl, rfl, rfl⟩ mq.1.2.2.2.1 mq.1.2.2.2.2.1 mq.1.2.2.2.2.2.1 mq.1.2.2.2.2.2.2.1 mq.1.2.2.2.2.2.2.2
  rcases R with ⟨t2, u2, SP2, dr2, re2, rm2, rs2, nb2, cc2, cp2, D, k1, k2⟩ | ⟨f, w, nb2, cc2, cp2, t2, u2, SP2, dr2, re2, rm2, rs2, hf, k1, k2⟩
  · refine Or.inl ⟨tC i t2, (0, -1, nb2, cc2, cp2), dr2, mU mq i u2 mq.2.1.1 rm2 rs2, mAq ma SP2, re2, D, ?_, ?_⟩
    · rw [← bcnt_eq]
      exact c_meaT (nI i) k1
    · exact (m_mea60 g1).trans ((m_mea64 k2).trans ((if_pos (by decide)).trans (m_mea128 _ (e_bits _))))
  · refine Or.inr ⟨f, w, tC i t2, (f, w, nb2, cc2, cp2), dr2, mU mq i u2 w rm2 rs2, mAq ma SP2, re2, ⟨rfl, rfl, rfl, rfl, rfl⟩, ?_, ?_⟩
    · exact c_meaF (nI i) k1
    · exact (m_mea60 g1).trans ((m_mea64 k2).trans (if_neg (Int32.not_le.mpr hf)))
theorem TpRel.nil (f : Nat → Int32) (ma : MaS) : TpRel (f, 0) 0 ma := ⟨0, by omega, rfl, rfl, fun k hk => absurd hk (by omega)⟩
theorem inv_new {tp : TpS} {tk : TkS} {rd : RdS} {hi : HiS} {sc : ScS} {pl dr : PlS} {wa wb : WaS} {rc : Nat → Int32} {mq : MsS} {ma : MaS} {re : MeS} {rdv : Value} (D : D1 dr re) : Inv (CH (1, dr.2.1.1.1, 0, 0, 0, -1) (tp.1, 0) tk rd (hi.1, hi.2.1, hi.2.2.1, hi.2.2.2.1, 0, 0) sc dr pl wa wb rc) (M1 (0, 0, -1, 0, 0, dr.2.1.1.1, 0, 0, 0) mq ma re rdv) := by
  obtain ⟨w, h, du, pa, sh, gc, hc, wc, ro, wn, mn, P, X, _⟩ := D
  refine Or.inr ⟨dr.2.1.1.1, 0, 0, 0, -1, (tp.1, 0), tk, rd, _, sc, dr, pl, wa, wb, rc, 0, -1, 0, 0, 0, mq, ma, re, rdv, rfl, rfl, (if_neg (by decide)).symm, TpRel.nil _ _, ⟨0, by omega, rfl⟩, w, h, du, pa, sh, gc, hc, wc, P, X.2, ⟨0, 0, by omega, by omega, rfl, rfl, rfl, rfl, fun i hi => absurd hi (by omega), fun i hi => absurd hi (by omega)⟩⟩
theorem op_meadow (n : Int32) : Step Inv EX10_meadow fIH EX12_meadow fIH [.int n] := by
  rintro hc hm (⟨cl, se, tr, fa, fp, tp, tk, rd, hi, sc, pl, dr, wa, wb, rc, th, wh, ta, mo, sd, mq, ma, rdv, rfl, rfl, T, W, a3, a4⟩ | ⟨cl, se, tr, fa, fp, tp, tk, rd, hi, sc, pl, dr, wa, wb, rc, th, wh, ta, ac, mk, mq, ma, me, rdv, rfl, rfl, W, I⟩)
  · have hte : ta = tp.2 := by obtain ⟨m, _, e1, e2, _⟩ := T; rw [e1, e2]
    rw [c_mea0, m_mea0]
    by_cases h0 : n < 0
    · rw [if_pos h0, if_pos h0]
      exact ⟨_, _, rfl, rfl, ⟨-1, rfl, rfl⟩, _, _, Ren.refl (by show (CH _ _ _ _ _ _ _ _ _ _ _).length ≤ 2000; rw [CH_len]; omega), Ren.refl (by show (M0 _ _ _ _).length ≤ 2000; rw [M0_len]; omega), inv0 T (by decide) a3 a4⟩
    · rw [if_neg h0, if_neg h0]
      by_cases h1 : n ≤ tp.2
      · rw [if_pos h1, if_pos (by rw [hte]; exact h1)]
        rcases mea_go (la := 0) (cl := cl) (se := se) (tr := tr) (fa := fa) (fp := fp) (tk := tk) (rd := rd) (hi := hi) (sc := sc) (pl := pl) (dr := dr) (wa := wa) (wb := wb) (rc := rc) (mtr := tr) (wh := wh) (mo := mo) (sd := sd) (ac := 0) (mk := 0) (mq := mq) (o := none) T h0 h1 with ⟨tk2, rd2, dr2, mq2, ma2, re2, D, k1, k2⟩ | ⟨f, w, tk2, rd2, dr2, mq2, ma2, re2, K, k1, k2⟩
        · have X := D
          obtain ⟨w, h, du, pa, sh, gc, hc, wc, ro, wn, mn, P, X, _⟩ := X
          rw [k1, k2, ← X.1]
          exact ⟨_, _, rfl, rfl, ⟨_, rfl, rfl⟩, _, _, ren_s _ _ _ _ _ _ _ _ _ _ _, ren_MN _ _ _ _ _, inv_new (tp := tp) D⟩
        · rw [k1, k2]
          exact ⟨_, _, rfl, rfl, ⟨-1, rfl, rfl⟩, _, _, Ren.refl (by show (CH _ _ _ _ _ _ _ _ _ _ _).length ≤ 2000; rw [CH_len]; omega), ren_M2 _ _ _ _, Or.inl ⟨cl, se, 4, f, w, (tp.1, 0), tk2, rd2, hi, sc, pl, dr2, wa, wb, rc, 0, w, 0, mo, sd, mq2, ma2, .ref 16, rfl, rfl, TpRel.nil _ _, (if_pos rfl).symm, a3, a4⟩⟩
      · rw [if_neg h1, if_neg (by rw [hte]; exact h1)]
        exact ⟨_, _, rfl, rfl, ⟨-1, rfl, rfl⟩, _, _, Ren.refl (by show (CH _ _ _ _ _ _ _ _ _ _ _).length ≤ 2000; rw [CH_len]; omega), Ren.refl (by show (M0 _ _ _ _).length ≤ 2000; rw [M0_len]; omega), inv0 T (by decide) a3 a4⟩
  · have T := I.1
    have hte : ta = tp.2 := by obtain ⟨m, _, e1, e2, _⟩ := T; rw [e1, e2]
    rw [c_mea0, m_mea1]
    by_cases h0 : n < 0
    · rw [if_pos h0, if_pos h0]
      exact ⟨_, _, rfl, rfl, ⟨-1, rfl, rfl⟩, _, _, Ren.refl (by show (CH _ _ _ _ _ _ _ _ _ _ _).length ≤ 2000; rw [CH_len]; omega), Ren.refl (by show (M1 _ _ _ _ _).length ≤ 2000; rw [M1_len]; omega), inv1 I (by decide)⟩
    · rw [if_neg h0, if_neg h0]
      by_cases h1 : n ≤ tp.2
      · rw [if_pos h1, if_pos (by rw [hte]; exact h1)]
        rcases mea_go (la := 1) (cl := cl) (se := se) (tr := tr) (fa := fa) (fp := fp) (tk := tk) (rd := rd) (hi := hi) (sc := sc) (pl := pl) (dr := dr) (wa := wa) (wb := wb) (rc := rc) (mtr := tr) (wh := wh) (mo := cl) (sd := se) (ac := ac) (mk := mk) (mq := mq) (o := some me) T h0 h1 with ⟨tk2, rd2, dr2, mq2, ma2, re2, D, k1, k2⟩ | ⟨f, w, tk2, rd2, dr2, mq2, ma2, re2, K, k1, k2⟩
        · have X := D
          obtain ⟨w, h, du, pa, sh, gc, hc, wc, ro, wn, mn, P, X, _⟩ := X
          rw [k1, k2, ← X.1]
          exact ⟨_, _, rfl, rfl, ⟨_, rfl, rfl⟩, _, _, ren_s _ _ _ _ _ _ _ _ _ _ _, ren_MN _ _ _ _ _, inv_new (tp := tp) D⟩
        · rw [k1, k2]
          obtain ⟨_, S, w1, h1, du, pa, sh, gc, hc, wc, P, C, HI⟩ := I
          exact ⟨_, _, rfl, rfl, ⟨-1, rfl, rfl⟩, _, _, Ren.refl (by show (CH _ _ _ _ _ _ _ _ _ _ _).length ≤ 2000; rw [CH_len]; omega), ren_M3 _ _ _ _ _, Or.inr ⟨cl, se, 4, f, w, (tp.1, 0), tk2, rd2, hi, sc, pl, dr2, wa, wb, rc, 0, w, 0, ac, mk, mq2, ma2, me, .ref 25, rfl, rfl, (if_pos rfl).symm, I1.keep K ⟨TpRel.nil _ _, S, w1, h1, du, pa, sh, gc, hc, wc, P, C, HI⟩⟩⟩
      · rw [if_neg h1, if_neg (by rw [hte]; exact h1)]
        exact ⟨_, _, rfl, rfl, ⟨-1, rfl, rfl⟩, _, _, Ren.refl (by show (CH _ _ _ _ _ _ _ _ _ _ _).length ≤ 2000; rw [CH_len]; omega), Ren.refl (by show (M1 _ _ _ _ _).length ≤ 2000; rw [M1_len]; omega), inv1 I (by decide)⟩
