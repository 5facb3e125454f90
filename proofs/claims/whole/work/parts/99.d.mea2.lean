/-! meadow: places anew, and the call. -/
theorem ren1 {hp : HP} {ρ : Nat → Nat} {i : Nat} {x a y : AE} (ha : some a = some x) (hy : hp[ρ i]? = some y) (h : ∀ (cy ad : Nat → Nat), re cy (fun n => ad (ρ n)) a = re cy ad y) : ∃ y, hp[ρ i]? = some y ∧ ∀ (cy ad : Nat → Nat), re cy (fun n => ad (ρ n)) x = re cy ad y := by
  cases ha
  exact ⟨y, hy, h⟩
theorem ren_app {hp l : HP} (h : hp.length ≤ 2000) : Ren (hp ++ l) hp := ⟨id, h, rfl, fun _ _ => rfl, fun _ _ _ _ e => e, fun i x hx => ⟨x, by rw [← hx]; exact List.getElem?_append_left (List.getElem?_eq_some_iff.mp hx).1, fun _ _ => rfl⟩⟩
theorem ren_M2 (mp : MpS) (mq : MsS) (ma : MaS) (re : MeS) : Ren (M2 mp mq ma re) (M0 mp mq ma (.ref 16)) :=
  ren_app (hp := M0 mp mq ma (.ref 16)) (l := (M2 mp mq ma re).drop 16) (by rw [M0_len]; omega)
theorem ren_M3 (mp : MpS) (mq : MsS) (ma : MaS) (me re : MeS) : Ren (M3 mp mq ma me re) (M1 mp mq ma me (.ref 25)) :=
  ren_app (hp := M1 mp mq ma me (.ref 25)) (l := (M3 mp mq ma me re).drop 25) (by rw [M1_len]; omega)
def swp (n : Nat) : Nat := if 14 ≤ n ∧ n < 29 then n + 15 else if 29 ≤ n ∧ n < 44 then n - 15 else n
theorem swp_swp (n : Nat) : swp (swp n) = n := by
  unfold swp
  by_cases h1 : 14 ≤ n ∧ n < 29
  · rw [if_pos h1, if_neg (by omega), if_pos (by omega)]; omega
  · rw [if_neg h1]
    by_cases h2 : 29 ≤ n ∧ n < 44
    · rw [if_pos h2, if_pos (by omega)]; omega
    · rw [if_neg h2, if_neg h1, if_neg h2]
def sh9 (n : Nat) : Nat := if 16 ≤ n ∧ n < 25 then n + 9 else n
abbrev waS (wa : WaS) : WaS := (wa.1, (swp wa.2.1.1, swp wa.2.1.2), wa.2.2)
theorem wkf_s (cy ad : Nat → Nat) (q q2 : Nat) (h : ∀ j, j < 5 → swp (q + j) = q2 + j) : re cy (fun n => ad (swp n)) (aQ 5 (wkf q)) = re cy ad (aQ 5 (wkf q2)) := by
  have e : (fun j => if j < 5 then (wkf q j).map (fun n => ad (swp n)) else none) = (fun j => if j < 5 then (wkf q2 j).map ad else none) := by
    funext j
    match j with
    | 0 => exact congrArg (fun x => some (ad x)) (h 0 (by omega))
    | 1 => exact congrArg (fun x => some (ad x)) (h 1 (by omega))
    | 2 => exact congrArg (fun x => some (ad x)) (h 2 (by omega))
    | 3 => exact congrArg (fun x => some (ad x)) (h 3 (by omega))
    | 4 => exact congrArg (fun x => some (ad x)) (h 4 (by omega))
    | j + 5 => rfl
  exact congrArg (fun f => (Sum.inl (cy 3, 5, .inr (.inr (.inr (.inr f)))) : va_E)) e
theorem rfl_wa (ad : Nat → Nat) (n : Nat) : rv (fun n => ad (swp n)) (.ref (swp n)) = rv ad (.ref n) := by
  show Value.ref (ad (swp (swp n))) = Value.ref (ad n)
  rw [swp_swp]
theorem wac_s (cy ad : Nat → Nat) (a b c : Nat) (h1 : swp a = a) (h2 : swp b = b) (h3 : swp c = c) (w : WaS) : re cy (fun n => ad (swp n)) (.inr (8, [.ref a, .ref b, .ref c, .ref (waS w).2.1.1, .ref (waS w).2.1.2, .long w.2.2.1, .long w.2.2.2.1, .int w.2.2.2.2.1, .int w.2.2.2.2.2.1, .int w.2.2.2.2.2.2.1, .int w.2.2.2.2.2.2.2.1, .int w.2.2.2.2.2.2.2.2])) = re cy ad (.inr (8, [.ref a, .ref b, .ref c, .ref w.2.1.1, .ref w.2.1.2, .long w.2.2.1, .long w.2.2.2.1, .int w.2.2.2.2.1, .int w.2.2.2.2.2.1, .int w.2.2.2.2.2.2.1, .int w.2.2.2.2.2.2.2.1, .int w.2.2.2.2.2.2.2.2])) := by
  show Sum.inr (8, [Value.ref (ad (swp a)), Value.ref (ad (swp b)), Value.ref (ad (swp c)), Value.ref (ad (swp (swp w.2.1.1))), Value.ref (ad (swp (swp w.2.1.2))), _, _, _, _, _, _, _]) = Sum.inr (8, [Value.ref (ad a), Value.ref (ad b), Value.ref (ad c), Value.ref (ad w.2.1.1), Value.ref (ad w.2.1.2), _, _, _, _, _, _, _])
  rw [swp_swp, swp_swp, h1, h2, h3]
  rfl
theorem ren_s (mz : MzS) (tp : TpS) (tk : TkS) (rd : RdS) (hi : HiS) (sc : ScS) (pl dr : PlS) (wa wb : WaS) (rc : Nat → Int32) : Ren (CHs mz tp tk rd hi sc pl dr wa wb rc) (CH mz tp tk rd hi sc dr pl (waS wa) (waS wb) rc) := by
  refine ⟨swp, by rw [CH_len]; omega, rfl, fun n hn => by unfold swp; rw [if_neg (by omega), if_neg (by omega)], fun i j _ _ e => by rw [← swp_swp i, e, swp_swp], fun i x hx => ?_⟩
  match i, hx with
  | 0, hx => exact ren1 hx rfl (fun cy ad => rfl)
  | 1, hx => exact ren1 hx rfl (fun cy ad => rfl)
  | 2, hx => exact ren1 hx rfl (fun cy ad => rfl)
  | 3, hx => exact ren1 hx rfl (fun cy ad => rfl)
  | 4, hx => exact ren1 hx rfl (fun cy ad => rfl)
  | 5, hx => exact ren1 hx rfl (fun cy ad => rfl)
  | 6, hx => exact ren1 hx rfl (fun cy ad => rfl)
  | 7, hx => exact ren1 hx rfl (fun cy ad => rfl)
  | 8, hx => exact ren1 hx rfl (fun cy ad => rfl)
  | 9, hx => exact ren1 hx rfl (fun cy ad => rfl)
  | 10, hx => exact ren1 hx rfl (fun cy ad => rfl)
  | 11, hx => exact ren1 hx rfl (fun cy ad => rfl)
  | 12, hx => exact ren1 hx rfl (fun cy ad => rfl)
  | 13, hx => exact ren1 hx rfl (fun cy ad => rfl)
  | 14, hx => exact ren1 hx rfl (fun cy ad => rfl)
  | 15, hx => exact ren1 hx rfl (fun cy ad => rfl)
  | 16, hx => exact ren1 hx rfl (fun cy ad => rfl)
  | 17, hx => exact ren1 hx rfl (fun cy ad => rfl)
  | 18, hx => exact ren1 hx rfl (fun cy ad => rfl)
  | 19, hx => exact ren1 hx rfl (fun cy ad => rfl)
  | 20, hx => exact ren1 hx rfl (fun cy ad => rfl)
  | 21, hx => exact ren1 hx rfl (fun cy ad => rfl)
  | 22, hx => exact ren1 hx rfl (fun cy ad => rfl)
  | 23, hx => exact ren1 hx rfl (fun cy ad => wkf_s cy ad 24 39 (fun j hj => by unfold swp; rw [if_pos (by omega)]; omega))
  | 24, hx => exact ren1 hx rfl (fun cy ad => rfl)
  | 25, hx => exact ren1 hx rfl (fun cy ad => rfl)
  | 26, hx => exact ren1 hx rfl (fun cy ad => rfl)
  | 27, hx => exact ren1 hx rfl (fun cy ad => rfl)
  | 28, hx => exact ren1 hx rfl (fun cy ad => rfl)
  | 29, hx => exact ren1 hx rfl (fun cy ad => rfl)
  | 30, hx => exact ren1 hx rfl (fun cy ad => rfl)
  | 31, hx => exact ren1 hx rfl (fun cy ad => rfl)
  | 32, hx => exact ren1 hx rfl (fun cy ad => rfl)
  | 33, hx => exact ren1 hx rfl (fun cy ad => rfl)
  | 34, hx => exact ren1 hx rfl (fun cy ad => rfl)
  | 35, hx => exact ren1 hx rfl (fun cy ad => rfl)
  | 36, hx => exact ren1 hx rfl (fun cy ad => rfl)
  | 37, hx => exact ren1 hx rfl (fun cy ad => rfl)
  | 38, hx => exact ren1 hx rfl (fun cy ad => wkf_s cy ad 39 24 (fun j hj => by unfold swp; rw [if_neg (by omega), if_pos (by omega)]; omega))
  | 39, hx => exact ren1 hx rfl (fun cy ad => rfl)
  | 40, hx => exact ren1 hx rfl (fun cy ad => rfl)
  | 41, hx => exact ren1 hx rfl (fun cy ad => rfl)
  | 42, hx => exact ren1 hx rfl (fun cy ad => rfl)
  | 43, hx => exact ren1 hx rfl (fun cy ad => rfl)
  | 44, hx => exact ren1 hx rfl (fun cy ad => wac_s cy ad 45 46 47 rfl rfl rfl wa)
  | 45, hx => exact ren1 hx rfl (fun cy ad => rfl)
  | 46, hx => exact ren1 hx rfl (fun cy ad => rfl)
  | 47, hx => exact ren1 hx rfl (fun cy ad => rfl)
  | 48, hx => exact ren1 hx rfl (fun cy ad => wac_s cy ad 49 50 51 rfl rfl rfl wb)
  | 49, hx => exact ren1 hx rfl (fun cy ad => rfl)
  | 50, hx => exact ren1 hx rfl (fun cy ad => rfl)
  | 51, hx => exact ren1 hx rfl (fun cy ad => rfl)
  | 52, hx => exact ren1 hx rfl (fun cy ad => rfl)
  | n + 53, hx => exact nomatch (show (none : Option AE) = some x from hx)
theorem ren_M4 (mp : MpS) (mq : MsS) (ma : MaS) (me re : MeS) : Ren (M4 mp mq ma me re) (M1 mp mq ma re (.ref 16)) := by
  refine ⟨sh9, by rw [M1_len]; omega, rfl, fun n hn => by unfold sh9; rw [if_neg (by omega)], fun i j hi hj e => ?_, fun i x hx => ?_⟩
  · rw [M1_len] at hi hj
    unfold sh9 at e
    by_cases h1 : 16 ≤ i ∧ i < 25 <;> by_cases h2 : 16 ≤ j ∧ j < 25
    · rw [if_pos h1, if_pos h2] at e; omega
    · rw [if_pos h1, if_neg h2] at e; omega
    · rw [if_neg h1, if_pos h2] at e; omega
    · rw [if_neg h1, if_neg h2] at e; omega
  · match i, hx with
    | 0, hx => exact ren1 hx rfl (fun cy ad => rfl)
    | 1, hx => exact ren1 hx rfl (fun cy ad => rfl)
    | 2, hx => exact ren1 hx rfl (fun cy ad => rfl)
    | 3, hx => exact ren1 hx rfl (fun cy ad => rfl)
    | 4, hx => exact ren1 hx rfl (fun cy ad => rfl)
    | 5, hx => exact ren1 hx rfl (fun cy ad => rfl)
    | 6, hx => exact ren1 hx rfl (fun cy ad => rfl)
    | 7, hx => exact ren1 hx rfl (fun cy ad => rfl)
    | 8, hx => exact ren1 hx rfl (fun cy ad => rfl)
    | 9, hx => exact ren1 hx rfl (fun cy ad => rfl)
    | 10, hx => exact ren1 hx rfl (fun cy ad => rfl)
    | 11, hx => exact ren1 hx rfl (fun cy ad => rfl)
    | 12, hx => exact ren1 hx rfl (fun cy ad => rfl)
    | 13, hx => exact ren1 hx rfl (fun cy ad => rfl)
    | 14, hx => exact ren1 hx rfl (fun cy ad => rfl)
    | 15, hx => exact ren1 hx rfl (fun cy ad => rfl)
    | 16, hx => exact ren1 hx rfl (fun cy ad => rfl)
    | 17, hx => exact ren1 hx rfl (fun cy ad => rfl)
    | 18, hx => exact ren1 hx rfl (fun cy ad => rfl)
    | 19, hx => exact ren1 hx rfl (fun cy ad => rfl)
    | 20, hx => exact ren1 hx rfl (fun cy ad => rfl)
    | 21, hx => exact ren1 hx rfl (fun cy ad => rfl)
    | 22, hx => exact ren1 hx rfl (fun cy ad => rfl)
    | 23, hx => exact ren1 hx rfl (fun cy ad => rfl)
    | 24, hx => exact ren1 hx rfl (fun cy ad => rfl)
    | n + 25, hx => exact nomatch (show (none : Option AE) = some x from hx)
theorem ren_MN (o : Option MeS) (mp : MpS) (mq : MsS) (ma : MaS) (re : MeS) : Ren (MN o mp mq ma re) (M1 mp mq ma re (.ref 16)) := by
  cases o with
  | none => exact (Ren.refl (by rw [M1_len]; omega) : Ren (M1 mp mq ma re (.ref 16)) _)
  | some me => exact ren_M4 ..
theorem mea_go {la : Int32} {cl : Int64} {se tr fa fp : Int32} {tp : TpS} {tk : TkS} {rd : RdS} {hi : HiS} {sc : ScS} {pl dr : PlS} {wa wb : WaS} {rc : Nat → Int32} {mtr wh ta : Int32} {mo : Int64} {sd ac mk : Int32} {mq : MsS} {ma : MaS} {o : Option MeS} {n : Int32} (T : TpRel tp ta ma) (h0 : ¬ n < 0) (h1 : n ≤ tp.2) :
    (∃ tk2 rd2 dr2 mq2 ma2 re2, D1 dr2 re2 ∧ BX10_meadow_30 [(0, .ref 0)] [.int n, .ref 29, .ref 3] (CH (la, cl, se, tr, fa, fp) tp tk rd hi sc pl dr wa wb rc) = some (nI (pcn dr2.2.1.1.1), CHs (1, dr2.2.1.1.1, 0, 0, 0, -1) (tp.1, 0) tk2 rd2 (hi.1, hi.2.1, hi.2.2.1, hi.2.2.2.1, 0, 0) sc pl dr2 wa wb rc) ∧ BX12_meadow_60 [(0, .ref 0)] [.ref 0] (MM o (0, mtr, wh, 0, 0, mo, sd, ac, mk) ((n, 0, 0, mq.1.2.2.2), mq.2) ma me0) = some (nI (pcn re2.2.1.1), MN o (0, 0, -1, 0, 0, re2.2.1.1, 0, 0, 0) mq2 ma2 re2)) ∨
    (∃ f w tk2 rd2 dr2 mq2 ma2 re2, KeepMa ma ma2 ∧ BX10_meadow_30 [(0, .ref 0)] [.int n, .ref 29, .ref 3] (CH (la, cl, se, tr, fa, fp) tp tk rd hi sc pl dr wa wb rc) = some (-1, CH (la, cl, se, 4, f, w) (tp.1, 0) tk2 rd2 hi sc pl dr2 wa wb rc) ∧ BX12_meadow_60 [(0, .ref 0)] [.ref 0] (MM o (0, mtr, wh, 0, 0, mo, sd, ac, mk) ((n, 0, 0, mq.1.2.2.2), mq.2) ma me0) = some (-1, MM o (0, 4, w, 0, f, mo, sd, ac, mk) mq2 ma2 re2)) := by
  obtain ⟨m, hm, e1, e2, e3⟩ := T
  obtain ⟨i, hi1, rfl⟩ := nI_of h0
  rw [e1] at h1
  have hi2 : i ≤ m := (nI_leI hi1 (by omega)).mp h1
  obtain ⟨ra, rp, nb, cc, cp⟩ := rd
  have H : Ctx tp ma m i := ⟨hm, e1, hi2, fun k hk => by unfold bt; rw [e3 k (by omega)]⟩
  obtain ⟨u1, SP1, g1, R⟩ := t_read (mz := (la, cl, se, tr, fa, fp)) (ra := ra) (rp := rp) (nb := nb) (cc := cc) (cp := cp) (hi := hi) (sc := sc) (pl := pl) (dr := dr) (wa := wa) (wb := wb) (rc := rc) (o := o) (th := 0) (mtr := mtr) (wh := wh) (ta := 0) (mfa := 0) (mo := mo) (sd := sd) (ac := ac) (mk := mk) (mq := mq) (wr := mq.2.1.1) (rm := mq.2.1.2.1) (rs := mq.2.1.2.2) (SP := ma.2.1) (re := me0) (tk := tk) H ⟨rfl, rfl, rfl⟩ mq.1.2.2.2.1 mq.1.2.2.2.2.1 mq.1.2.2.2.2.2.1 mq.1.2.2.2.2.2.2.1 mq.1.2.2.2.2.2.2.2
  rcases R with ⟨t2, u2, SP2, dr2, re2, rm2, rs2, nb2, cc2, cp2, D, k1, k2⟩ | ⟨f, w, nb2, cc2, cp2, t2, u2, SP2, dr2, re2, rm2, rs2, hf, k1, k2⟩
  · refine Or.inl ⟨tC i t2, (0, -1, nb2, cc2, cp2), dr2, mU mq i u2 mq.2.1.1 rm2 rs2, mAq ma SP2, re2, D, ?_, ?_⟩
    · rw [← bcnt_eq]
      exact c_meaT (nI i) k1
    · exact (m_mea60 g1).trans ((m_mea64 k2).trans ((if_pos (by decide)).trans (m_mea128 _ (e_bits _ _))))
  · refine Or.inr ⟨f, w, tC i t2, (f, w, nb2, cc2, cp2), dr2, mU mq i u2 w rm2 rs2, mAq ma SP2, re2, ⟨rfl, rfl, rfl, rfl, rfl⟩, ?_, ?_⟩
    · exact c_meaF (nI i) k1
    · exact (m_mea60 g1).trans ((m_mea64 k2).trans (if_neg (Int32.not_le.mpr hf)))
theorem TpRel.nil (f : Nat → Int32) (ma : MaS) : TpRel (f, 0) 0 ma := ⟨0, by omega, rfl, rfl, fun k hk => absurd hk (by omega)⟩
theorem inv_new {tp : TpS} {tk : TkS} {rd : RdS} {hi : HiS} {sc : ScS} {pl dr : PlS} {wa wb : WaS} {rc : Nat → Int32} {mq : MsS} {ma : MaS} {re : MeS} {rdv : Value} (D : D1 dr re) : Inv (CH (1, dr.2.1.1.1, 0, 0, 0, -1) (tp.1, 0) tk rd (hi.1, hi.2.1, hi.2.2.1, hi.2.2.2.1, 0, 0) sc dr pl wa wb rc) (M1 (0, 0, -1, 0, 0, dr.2.1.1.1, 0, 0, 0) mq ma re rdv) := by
  obtain ⟨w, h, du, pa, sh, gc, hc, wc, ro, wn, mn, P, X, _⟩ := D
  refine Or.inr ⟨dr.2.1.1.1, 0, 0, 0, -1, (tp.1, 0), tk, rd, _, sc, dr, pl, wa, wb, rc, 0, -1, 0, 0, 0, mq, ma, re, rdv, rfl, rfl, (if_neg (by decide)).symm, TpRel.nil _ _, ⟨0, by omega, rfl⟩, w, h, du, pa, sh, gc, hc, wc, P, X.2, ⟨0, 0, by omega, by omega, rfl, rfl, rfl, rfl, fun i hi => absurd hi (by omega), fun i hi => absurd hi (by omega)⟩⟩
/-- what is read last lies where no new cell will -/
def RdN (hm : HP) : Prop := ∃ fs v, hm[0]? = some (.inr (12, fs)) ∧ fs[4]? = some v ∧ okR v
def Inv3 (hc hm : HP) : Prop := Inv hc hm ∧ RdN hm
theorem Ren.trans {h1 h2 h3 : HP} (a : Ren h1 h2) (b : Ren h2 h3) : Ren h1 h3 := by
  obtain ⟨p, a1, a2, a3, a4, a5⟩ := a
  obtain ⟨q, b1, b2, b3, b4, b5⟩ := b
  refine ⟨fun n => p (q n), b1, by show p (q 0) = 0; rw [b2, a2], fun n hn => by show p (q n) = n; rw [b3 n hn, a3 n hn], fun i j hi hj e => ?_, fun i x hx => ?_⟩
  · obtain ⟨y1, z1, _⟩ := b5 i _ (List.getElem?_eq_getElem hi)
    obtain ⟨y2, z2, _⟩ := b5 j _ (List.getElem?_eq_getElem hj)
    exact b4 i j hi hj (a4 _ _ (List.getElem?_eq_some_iff.mp z1).1 (List.getElem?_eq_some_iff.mp z2).1 e)
  · obtain ⟨y, y1, y2⟩ := b5 i x hx
    obtain ⟨z, z1, z2⟩ := a5 _ y y1
    exact ⟨z, z1, fun cy ad => (y2 cy (fun n => ad (p n))).trans (z2 cy ad)⟩
def fix9 (v : Value) : Value := match v with
  | .ref _ => .ref 1999
  | v => v
def to9 (v : Value) (n : Nat) : Nat := match v with
  | .ref a => if n = 1999 then a else n
  | _ => n
theorem to9_lt (v : Value) {n : Nat} (h : n ≠ 1999) : to9 v n = n := by
  cases v <;> first | rfl | exact if_neg h
theorem fix9_ok (v : Value) : okR (fix9 v) := by
  cases v <;> first | trivial | rfl
theorem fix9_rv (v : Value) (ad : Nat → Nat) : rv (fun n => ad (to9 v n)) (fix9 v) = rv ad v := by
  cases v <;> rfl
/-- the cell of the model, with what is read last elsewhere -/
theorem ren9 {hp : HP} {fs : List Value} {v : Value} (h1 : hp.length ≤ 1000) (h2 : hp[0]? = some (.inr (12, fs))) (h3 : fs[4]? = some v) (h4 : ∀ (i : Nat) (x : AE), hp[i]? = some x → 0 < i → nre 1999 x = true) (h5 : ∀ (j : Nat) (u : Value), fs[j]? = some u → j ≠ 4 → nrv 1999 u = true) : Ren hp (hp.set 0 (.inr (12, fs.set 4 (fix9 v)))) := by
  have hlen : (hp.set 0 (.inr (12, fs.set 4 (fix9 v)))).length = hp.length := List.length_set
  have hnv : ∀ (u : Value) (ad : Nat → Nat), nrv 1999 u = true → rv (fun n => ad (to9 v n)) u = rv ad u := by
    intro u ad hu
    cases u <;> first | rfl | skip
    rename_i a
    have : a ≠ 1999 := fun e => by subst e; cases hu
    show Value.ref (ad (to9 v a)) = Value.ref (ad a)
    rw [to9_lt v this]
  refine ⟨to9 v, by rw [hlen]; omega, to9_lt v (by omega), fun n hn => to9_lt v (by omega), fun i j hi hj e => ?_, fun i x hx => ?_⟩
  · rw [hlen] at hi hj
    rw [to9_lt v (by omega), to9_lt v (by omega)] at e
    exact e
  · have hi : i < hp.length := by rw [← hlen]; exact (List.getElem?_eq_some_iff.mp hx).1
    rw [to9_lt v (by omega)]
    by_cases h0 : i = 0
    · subst h0
      rw [List.getElem?_set_self hi] at hx
      cases hx
      refine ⟨_, h2, fun cy ad => ?_⟩
      show (Sum.inr (12, (fs.set 4 (fix9 v)).map (rv fun n => ad (to9 v n))) : va_E) = Sum.inr (12, fs.map (rv ad))
      congr 2
      apply List.ext_getElem?
      intro j
      rw [List.getElem?_map, List.getElem?_map, List.getElem?_set]
      by_cases hj : 4 = j
      · subst hj
        rw [if_pos rfl, if_pos (List.getElem?_eq_some_iff.mp h3).1, h3]
        exact congrArg some (fix9_rv v ad)
      · rw [if_neg hj]
        cases hu : fs[j]? with
        | none => rfl
        | some u => exact congrArg some (hnv u ad (h5 j u hu (fun e => hj e.symm)))
    · rw [List.getElem?_set_ne (fun e => h0 e.symm)] at hx
      refine ⟨x, hx, fun cy ad => ?_⟩
      have hn := h4 i x hx (by omega)
      match x, hn with
      | .inl (k, len, .inr (.inr (.inr (.inr f)))), hn =>
        show (Sum.inl (cy k, len, .inr (.inr (.inr (.inr (fun j => if j < len then (f j).map (fun n => ad (to9 v n)) else none))))) : va_E) = Sum.inl (cy k, len, .inr (.inr (.inr (.inr (fun j => if j < len then (f j).map ad else none)))))
        refine congrArg (fun f => (Sum.inl (cy k, len, .inr (.inr (.inr (.inr f)))) : va_E)) (funext fun j => ?_)
        by_cases hj : j < len
        · rw [if_pos hj, if_pos hj]
          have h9 := List.all_eq_true.mp hn j (List.mem_range.mpr hj)
          cases hf : f j with
          | none => rfl
          | some a =>
            rw [hf] at h9
            have : a ≠ 1999 := fun e => by subst e; cases h9
            show some (ad (to9 v a)) = some (ad a)
            rw [to9_lt v this]
        · rw [if_neg hj, if_neg hj]
      | .inl (k, len, .inl f), hn => rfl
      | .inl (k, len, .inr (.inl f)), hn => rfl
      | .inl (k, len, .inr (.inr (.inl f))), hn => rfl
      | .inl (k, len, .inr (.inr (.inr (.inl f)))), hn => rfl
      | .inr (ci, gs), hn =>
        show (Sum.inr (ci, gs.map (rv fun n => ad (to9 v n))) : va_E) = Sum.inr (ci, gs.map (rv ad))
        congr 2
        exact List.map_congr_left (fun u hu => hnv u ad (List.all_eq_true.mp hn u hu))
theorem all_of {hp : HP} {P : AE → Bool} (h : hp.all P = true) (i : Nat) (x : AE) (hx : hp[i]? = some x) : P x = true := List.all_eq_true.mp h x (List.mem_of_getElem? hx)
theorem norm0 (mp : MpS) (mq : MsS) (ma : MaS) (rdv : Value) : Ren (M0 mp mq ma rdv) (M0 mp mq ma (fix9 rdv)) := by
  refine ren9 (hp := M0 mp mq ma rdv) (by rw [M0_len]; omega) rfl (show _ = some rdv from rfl) (fun i x hx h0 => ?_) (fun j u hu hj => ?_)
  · match i, hx with
    | i + 1, hx => exact all_of (hp := (M0 mp mq ma rdv).tail) rfl i x hx
  · match j, hu with
    | 0, hu => cases hu; rfl
    | 1, hu => cases hu; rfl
    | 2, hu => cases hu; rfl
    | 3, hu => cases hu; rfl
    | 4, hu => exact absurd rfl hj
    | 5, hu => cases hu; rfl
    | 6, hu => cases hu; rfl
    | 7, hu => cases hu; rfl
    | 8, hu => cases hu; rfl
    | 9, hu => cases hu; rfl
    | 10, hu => cases hu; rfl
    | 11, hu => cases hu; rfl
    | 12, hu => cases hu; rfl
    | 13, hu => cases hu; rfl
    | 14, hu => cases hu; rfl
    | 15, hu => cases hu; rfl
    | 16, hu => cases hu; rfl
    | 17, hu => cases hu; rfl
    | 18, hu => cases hu; rfl
    | 19, hu => cases hu; rfl
    | 20, hu => cases hu; rfl
    | 21, hu => cases hu; rfl
    | 22, hu => cases hu; rfl
    | 23, hu => cases hu; rfl
    | 24, hu => cases hu; rfl
    | 25, hu => cases hu; rfl
    | 26, hu => cases hu; rfl
    | 27, hu => cases hu; rfl
    | 28, hu => cases hu; rfl
    | 29, hu => cases hu; rfl
    | 30, hu => cases hu; rfl
    | 31, hu => cases hu; rfl
    | 32, hu => cases hu; rfl
    | 33, hu => cases hu; rfl
    | 34, hu => cases hu; rfl
    | 35, hu => cases hu; rfl
    | 36, hu => cases hu; rfl
    | 37, hu => cases hu; rfl
    | 38, hu => cases hu; rfl
    | 39, hu => cases hu; rfl
    | 40, hu => cases hu; rfl
    | 41, hu => cases hu; rfl
    | 42, hu => cases hu; rfl
    | j + 43, hu => exact nomatch (show (none : Option Value) = some u from hu)
theorem norm1 (mp : MpS) (mq : MsS) (ma : MaS) (me : MeS) (rdv : Value) : Ren (M1 mp mq ma me rdv) (M1 mp mq ma me (fix9 rdv)) := by
  refine ren9 (hp := M1 mp mq ma me rdv) (by rw [M1_len]; omega) rfl (show _ = some rdv from rfl) (fun i x hx h0 => ?_) (fun j u hu hj => ?_)
  · match i, hx with
    | i + 1, hx => exact all_of (hp := (M1 mp mq ma me rdv).tail) rfl i x hx
  · match j, hu with
    | 0, hu => cases hu; rfl
    | 1, hu => cases hu; rfl
    | 2, hu => cases hu; rfl
    | 3, hu => cases hu; rfl
    | 4, hu => exact absurd rfl hj
    | 5, hu => cases hu; rfl
    | 6, hu => cases hu; rfl
    | 7, hu => cases hu; rfl
    | 8, hu => cases hu; rfl
    | 9, hu => cases hu; rfl
    | 10, hu => cases hu; rfl
    | 11, hu => cases hu; rfl
    | 12, hu => cases hu; rfl
    | 13, hu => cases hu; rfl
    | 14, hu => cases hu; rfl
    | 15, hu => cases hu; rfl
    | 16, hu => cases hu; rfl
    | 17, hu => cases hu; rfl
    | 18, hu => cases hu; rfl
    | 19, hu => cases hu; rfl
    | 20, hu => cases hu; rfl
    | 21, hu => cases hu; rfl
    | 22, hu => cases hu; rfl
    | 23, hu => cases hu; rfl
    | 24, hu => cases hu; rfl
    | 25, hu => cases hu; rfl
    | 26, hu => cases hu; rfl
    | 27, hu => cases hu; rfl
    | 28, hu => cases hu; rfl
    | 29, hu => cases hu; rfl
    | 30, hu => cases hu; rfl
    | 31, hu => cases hu; rfl
    | 32, hu => cases hu; rfl
    | 33, hu => cases hu; rfl
    | 34, hu => cases hu; rfl
    | 35, hu => cases hu; rfl
    | 36, hu => cases hu; rfl
    | 37, hu => cases hu; rfl
    | 38, hu => cases hu; rfl
    | 39, hu => cases hu; rfl
    | 40, hu => cases hu; rfl
    | 41, hu => cases hu; rfl
    | 42, hu => cases hu; rfl
    | j + 43, hu => exact nomatch (show (none : Option Value) = some u from hu)
theorem inv_norm {hc hm : HP} (h : Inv hc hm) : ∃ hm3, Ren hm hm3 ∧ Inv3 hc hm3 := by
  rcases h with ⟨cl, se, tr, fa, fp, tp, tk, rd, hi, sc, pl, dr, wa, wb, rc, th, wh, ta, mo, sd, mq, ma, rdv, rfl, rfl, a⟩ | ⟨cl, se, tr, fa, fp, tp, tk, rd, hi, sc, pl, dr, wa, wb, rc, th, wh, ta, ac, mk, mq, ma, me, rdv, rfl, rfl, a⟩
  · exact ⟨_, norm0 _ _ _ _, Or.inl ⟨cl, se, tr, fa, fp, tp, tk, rd, hi, sc, pl, dr, wa, wb, rc, th, wh, ta, mo, sd, mq, ma, fix9 rdv, rfl, rfl, a⟩, _, _, rfl, rfl, fix9_ok _⟩
  · exact ⟨_, norm1 _ _ _ _ _, Or.inr ⟨cl, se, tr, fa, fp, tp, tk, rd, hi, sc, pl, dr, wa, wb, rc, th, wh, ta, ac, mk, mq, ma, me, fix9 rdv, rfl, rfl, a⟩, _, _, rfl, rfl, fix9_ok _⟩
theorem Inv3_ok : InvOK Inv3 := fun hc hm h => Inv_ok hc hm h.1
theorem step3 {γ δ : Type} {f : List Value → HP → Option γ} {fc : γ → HP → Option Value × HP} {g : List Value → HP → Option δ} {fm : δ → HP → Option Value × HP} {as : List Value} (h : Step Inv f fc g fm as) : Step Inv3 f fc g fm as := by
  intro hc hm hI
  obtain ⟨oc, om, e1, e2, e3, hc2, hm2, R1, R2, I2⟩ := h hc hm hI.1
  obtain ⟨hm3, R3, I3⟩ := inv_norm I2
  exact ⟨oc, om, e1, e2, e3, hc2, hm3, R1, R2.trans R3, I3⟩
theorem op_meadow0 (n : Int32) : ∀ hc hm, Inv3 hc hm → ∃ oc om, EX10_meadow [.ref 0, .int n] hc = some oc ∧ EX12_meadow [.ref 0, .int n] hm = some om ∧ (∃ v : Int32, (fIH oc hc).1 = some (.int v) ∧ (fIH om hm).1 = some (.int v)) ∧ ∃ hc2 hm2, Ren (fIH oc hc).2 hc2 ∧ Ren (fIH om hm).2 hm2 ∧ Inv hc2 hm2 := by
  rintro hc hm ⟨(⟨cl, se, tr, fa, fp, tp, tk, rd, hi, sc, pl, dr, wa, wb, rc, th, wh, ta, mo, sd, mq, ma, rdv, rfl, rfl, T, W, a3, a4⟩ | ⟨cl, se, tr, fa, fp, tp, tk, rd, hi, sc, pl, dr, wa, wb, rc, th, wh, ta, ac, mk, mq, ma, me, rdv, rfl, rfl, W, I⟩), ⟨fs, v, r1, r2, r3⟩⟩
  · have hok : okR rdv := by
      cases r1
      cases r2
      exact r3
    have hte : ta = tp.2 := by obtain ⟨m, _, e1, e2, _⟩ := T; rw [e1, e2]
    rw [c_mea0, m_mea0 n hok]
    by_cases h0 : n < 0
    · rw [if_pos h0, if_pos h0]
      exact ⟨_, _, rfl, rfl, ⟨-1, rfl, rfl⟩, _, _, Ren.refl (by show (CH _ _ _ _ _ _ _ _ _ _ _).length ≤ 2000; rw [CH_len]; omega), Ren.refl (by show (M0 _ _ _ _).length ≤ 2000; rw [M0_len]; omega), inv0 T (by decide) a3 a4⟩
    · rw [if_neg h0, if_neg h0]
      by_cases h1 : n ≤ tp.2
      · rw [if_pos h1, if_pos (by rw [hte]; exact h1)]
        rcases mea_go (la := 0) (cl := cl) (se := se) (tr := tr) (fa := fa) (fp := fp) (tk := tk) (rd := rd) (hi := hi) (sc := sc) (pl := pl) (dr := dr) (wa := wa) (wb := wb) (rc := rc) (mtr := tr) (wh := wh) (mo := mo) (sd := sd) (ac := 0) (mk := 0) (mq := mq) (o := none) T h0 h1 with ⟨tk2, rd2, dr2, mq2, ma2, re2, D, k1, k2⟩ | ⟨f, w, tk2, rd2, dr2, mq2, ma2, re2, K, k1, k2⟩
        · have X := D
          obtain ⟨w, h, du, pa, sh, gc, hc, wc, ro, wn, mn, P, X, _⟩ := X
          rw [k1, k2, ← X.1]
          exact ⟨_, _, rfl, rfl, ⟨_, rfl, rfl⟩, CH (1, dr2.2.1.1.1, 0, 0, 0, -1) (tp.1, 0) tk2 rd2 (hi.1, hi.2.1, hi.2.2.1, hi.2.2.2.1, 0, 0) sc dr2 pl (waS wa) (waS wb) rc, M1 (0, 0, -1, 0, 0, dr2.2.1.1.1, 0, 0, 0) mq2 ma2 re2 (.ref 16), ren_s _ _ _ _ _ _ _ _ _ _ _, ren_MN none _ _ _ _, inv_new (tp := tp) D⟩
        · rw [k1, k2]
          exact ⟨_, _, rfl, rfl, ⟨-1, rfl, rfl⟩, _, _, Ren.refl (by show (CH _ _ _ _ _ _ _ _ _ _ _).length ≤ 2000; rw [CH_len]; omega), ren_M2 _ _ _ _, Or.inl ⟨cl, se, 4, f, w, (tp.1, 0), tk2, rd2, hi, sc, pl, dr2, wa, wb, rc, 0, w, 0, mo, sd, mq2, ma2, .ref 16, rfl, rfl, TpRel.nil _ _, (if_pos rfl).symm, a3, a4⟩⟩
      · rw [if_neg h1, if_neg (by rw [hte]; exact h1)]
        exact ⟨_, _, rfl, rfl, ⟨-1, rfl, rfl⟩, _, _, Ren.refl (by show (CH _ _ _ _ _ _ _ _ _ _ _).length ≤ 2000; rw [CH_len]; omega), Ren.refl (by show (M0 _ _ _ _).length ≤ 2000; rw [M0_len]; omega), inv0 T (by decide) a3 a4⟩
  · have hok : okR rdv := by
      cases r1
      cases r2
      exact r3
    have T := I.1
    have hte : ta = tp.2 := by obtain ⟨m, _, e1, e2, _⟩ := T; rw [e1, e2]
    rw [c_mea0, m_mea1 n hok]
    by_cases h0 : n < 0
    · rw [if_pos h0, if_pos h0]
      exact ⟨_, _, rfl, rfl, ⟨-1, rfl, rfl⟩, _, _, Ren.refl (by show (CH _ _ _ _ _ _ _ _ _ _ _).length ≤ 2000; rw [CH_len]; omega), Ren.refl (by show (M1 _ _ _ _ _).length ≤ 2000; rw [M1_len]; omega), inv1 I (by decide)⟩
    · rw [if_neg h0, if_neg h0]
      by_cases h1 : n ≤ tp.2
      · rw [if_pos h1, if_pos (by rw [hte]; exact h1)]
        rcases mea_go (la := 1) (cl := cl) (se := se) (tr := tr) (fa := fa) (fp := fp) (tk := tk) (rd := rd) (hi := hi) (sc := sc) (pl := pl) (dr := dr) (wa := wa) (wb := wb) (rc := rc) (mtr := tr) (wh := wh) (mo := cl) (sd := se) (ac := ac) (mk := mk) (mq := mq) (o := some me) T h0 h1 with ⟨tk2, rd2, dr2, mq2, ma2, re2, D, k1, k2⟩ | ⟨f, w, tk2, rd2, dr2, mq2, ma2, re2, K, k1, k2⟩
        · have X := D
          obtain ⟨w, h, du, pa, sh, gc, hc, wc, ro, wn, mn, P, X, _⟩ := X
          rw [k1, k2, ← X.1]
          exact ⟨_, _, rfl, rfl, ⟨_, rfl, rfl⟩, CH (1, dr2.2.1.1.1, 0, 0, 0, -1) (tp.1, 0) tk2 rd2 (hi.1, hi.2.1, hi.2.2.1, hi.2.2.2.1, 0, 0) sc dr2 pl (waS wa) (waS wb) rc, M1 (0, 0, -1, 0, 0, dr2.2.1.1.1, 0, 0, 0) mq2 ma2 re2 (.ref 16), ren_s _ _ _ _ _ _ _ _ _ _ _, ren_MN (some me) _ _ _ _, inv_new (tp := tp) D⟩
        · rw [k1, k2]
          obtain ⟨_, S, w1, h1, du, pa, sh, gc, hc, wc, P, C, HI⟩ := I
          exact ⟨_, _, rfl, rfl, ⟨-1, rfl, rfl⟩, _, _, Ren.refl (by show (CH _ _ _ _ _ _ _ _ _ _ _).length ≤ 2000; rw [CH_len]; omega), ren_M3 _ _ _ _ _, Or.inr ⟨cl, se, 4, f, w, (tp.1, 0), tk2, rd2, hi, sc, pl, dr2, wa, wb, rc, 0, w, 0, ac, mk, mq2, ma2, me, .ref 25, rfl, rfl, (if_pos rfl).symm, I1.keep K ⟨TpRel.nil _ _, S, w1, h1, du, pa, sh, gc, hc, wc, P, C, HI⟩⟩⟩
      · rw [if_neg h1, if_neg (by rw [hte]; exact h1)]
        exact ⟨_, _, rfl, rfl, ⟨-1, rfl, rfl⟩, _, _, Ren.refl (by show (CH _ _ _ _ _ _ _ _ _ _ _).length ≤ 2000; rw [CH_len]; omega), Ren.refl (by show (M1 _ _ _ _ _).length ≤ 2000; rw [M1_len]; omega), inv1 I (by decide)⟩
theorem op_meadow (n : Int32) : Step Inv3 EX10_meadow fIH EX12_meadow fIH [.int n] := by
  intro hc hm hI
  obtain ⟨oc, om, e1, e2, e3, hc2, hm2, R1, R2, I2⟩ := op_meadow0 n hc hm hI
  obtain ⟨hm3, R3, I3⟩ := inv_norm I2
  exact ⟨oc, om, e1, e2, e3, hc2, hm3, R1, R2.trans R3, I3⟩
