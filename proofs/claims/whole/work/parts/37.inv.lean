/-! What holds between calls. -/
def SdOK (se : Int32) : Prop := ∃ v, v < 65537 ∧ se = nI v
def TpRel (tp : TpS) (ta : Int32) (ma : MaS) : Prop := ∃ n, n ≤ 900 ∧ tp.2 = nI n ∧ ta = nI n ∧ ∀ k, k < n → tp.1 k = ma.1 k
def WhRel (tr fp wh : Int32) : Prop := wh = if tr = 4 then fp else -1
def HiRel (hi : HiS) (ac mk : Int32) (ma : MaS) (n : Nat) : Prop := ∃ a k, a ≤ 20 ∧ k ≤ 3 ∧ hi.2.2.2.2.1 = nI a ∧ ac = nI a ∧ hi.2.2.2.2.2 = nI k ∧ mk = nI k ∧ (∀ i, i < a → hi.1 i = ma.2.2.2.2.2.2.2.2.2.2.2.1 i ∧ hi.2.1 i = ma.2.2.2.2.2.2.2.2.2.2.2.2.2.1 i ∧ Sub (hi.1 i) n ∧ SdOK (hi.2.1 i)) ∧ ∀ i, i < k → hi.2.2.1 i = ma.2.2.2.2.2.2.2.2.2.2.2.2.1 i ∧ hi.2.2.2.1 i = ma.2.2.2.2.2.2.2.2.2.2.2.2.2.2 i ∧ Sub (hi.2.2.1 i) n ∧ SdOK (hi.2.2.2.1 i)
def PlGa (pl : PlS) (me : MeS) (n gc : Nat) : Prop := gc ≤ 4 ∧ pl.2.2.2.2.2.2.2.1 = nI gc ∧ me.1.2.2.2.2.2.2.2.2.1 = nI gc ∧ pl.2.2.2.2.2.2.2.2.1 = me.2.1.2.2.2.2.2 ∧ (∀ i, i < gc → ∃ c, c < n ∧ pl.2.2.1.1 i = nI c ∧ me.2.2.1 i = nI c) ∧ ∀ k, tb pl.2.2.2.2.2.2.2.2.1 k = true ↔ ∃ i, i < gc ∧ pl.2.2.1.1 i = nI k ∧ k < n
def PlHe (pl : PlS) (me : MeS) (n hc : Nat) : Prop := hc ≤ 5 ∧ pl.2.2.2.2.2.2.2.2.2.2.1 = nI hc ∧ me.1.2.2.2.2.2.2.2.2.2.1 = nI hc ∧ ∀ i, i < hc → ∃ c s, c < n ∧ s ≤ 60 ∧ pl.2.2.1.2.1 i = nI c ∧ me.2.2.2.2.1 i = nI c ∧ pl.2.2.1.2.2 i = nI s ∧ me.2.2.2.1 i = nI s
def PlWk (pl : PlS) (me : MeS) (n wc : Nat) : Prop := wc ≤ 5 ∧ pl.2.2.2.2.2.2.2.2.2.2.2 = nI wc ∧ me.1.2.2.2.2.2.2.2.2.2.2.1 = nI wc ∧ ∀ i, i < wc → ∃ kd c s l, kd < 5 ∧ c < n ∧ s < 4 ∧ l ≤ 99 ∧ (pl.2.2.2.1 i).2 = (nI kd, nI c, nI s, nI l) ∧ me.2.2.2.2.2.1 i = nI kd ∧ me.2.2.2.2.2.2.1 i = nI c ∧ me.2.2.2.2.2.2.2.1 i = nI s ∧ me.2.2.2.2.2.2.2.2.1 i = nI l
def PlPi (pl : PlS) (me : MeS) (n : Nat) : Prop := pl.2.1.2.1.1 = me.2.1.2.1 ∧ pl.2.1.2.1.2.1 = me.2.1.2.2.1 ∧ pl.2.1.2.2.1 = me.2.1.2.2.2.1 ∧ pl.2.1.2.2.2.1 = me.2.1.2.2.2.2.1 ∧ Sub pl.2.1.2.1.1 n ∧ Sub pl.2.1.2.1.2.1 n ∧ Sub pl.2.1.2.2.1 n ∧ Sub pl.2.1.2.2.2.1 n
def PlNo (pl : PlS) (me : MeS) (n : Nat) : Prop := pl.2.2.2.2.2.2.2.2.2.1 = me.1.2.2.2.2.2.2.2.2.2.2.2 ∧ (pl.2.2.2.2.2.2.2.2.2.1 = -2 ∨ ∃ c, c < n ∧ pl.2.2.2.2.2.2.2.2.2.1 = nI c)
def PlNu (pl : PlS) (me : MeS) (w h du pa sh : Nat) : Prop := (me.1.1 = nI w ∧ me.1.2.1 = nI h) ∧ (1 ≤ du ∧ du ≤ 200 ∧ pl.2.2.2.2.1 = nI du ∧ me.1.2.2.1 = nI du) ∧ (pa ≤ 99 ∧ pl.2.2.2.2.2.1 = nI pa ∧ me.1.2.2.2.1 = nI pa) ∧ (1 ≤ sh ∧ sh ≤ 4 ∧ pl.2.2.2.2.2.2.1 = nI sh ∧ me.1.2.2.2.2.1 = nI sh)
def PlRel (pl : PlS) (me : MeS) (w h du pa sh gc hc wc : Nat) : Prop := WH w h ∧ GrOK pl.1 w h ∧ PlNu pl me w h du pa sh ∧ PlPi pl me (w * h) ∧ PlGa pl me (w * h) gc ∧ PlNo pl me (w * h) ∧ PlHe pl me (w * h) hc ∧ PlWk pl me (w * h) wc
def KeepMa (ma ma2 : MaS) : Prop := ma2.1 = ma.1 ∧ ma2.2.2.2.2.2.2.2.2.2.2.2.1 = ma.2.2.2.2.2.2.2.2.2.2.2.1 ∧ ma2.2.2.2.2.2.2.2.2.2.2.2.2.1 = ma.2.2.2.2.2.2.2.2.2.2.2.2.1 ∧ ma2.2.2.2.2.2.2.2.2.2.2.2.2.2.1 = ma.2.2.2.2.2.2.2.2.2.2.2.2.2.1 ∧ ma2.2.2.2.2.2.2.2.2.2.2.2.2.2.2 = ma.2.2.2.2.2.2.2.2.2.2.2.2.2.2
theorem KeepMa.rf (ma : MaS) : KeepMa ma ma := ⟨rfl, rfl, rfl, rfl, rfl⟩
def I1 (cl : Int64) (se : Int32) (tp : TpS) (hi : HiS) (pl : PlS) (ta ac mk : Int32) (ma : MaS) (me : MeS) : Prop := TpRel tp ta ma ∧ SdOK se ∧ ∃ w h du pa sh gc hc wc, PlRel pl me w h du pa sh gc hc wc ∧ Sub cl (w * h) ∧ HiRel hi ac mk ma (w * h)
theorem I1.keep {cl : Int64} {se : Int32} {tp : TpS} {hi : HiS} {pl : PlS} {ta ac mk : Int32} {ma ma2 : MaS} {me : MeS} (K : KeepMa ma ma2) (h : I1 cl se tp hi pl ta ac mk ma me) : I1 cl se tp hi pl ta ac mk ma2 me := by
  obtain ⟨k1, k2, k3, k4, k5⟩ := K
  unfold I1 TpRel HiRel at *
  rw [k1, k2, k3, k4, k5]
  exact h
def Inv (hc hm : HP) : Prop :=
  (∃ cl se tr fa fp tp tk rd hi sc pl dr wa wb rc th wh ta mo sd mq ma rdv, hc = CH (0, cl, se, tr, fa, fp) tp tk rd hi sc pl dr wa wb rc ∧ hm = M0 (th, tr, wh, ta, fa, mo, sd, 0, 0) mq ma rdv ∧ TpRel tp ta ma ∧ WhRel tr fp wh ∧ hi.2.2.2.2.1 = 0 ∧ hi.2.2.2.2.2 = 0) ∨
  (∃ cl se tr fa fp tp tk rd hi sc pl dr wa wb rc th wh ta ac mk mq ma me rdv, hc = CH (1, cl, se, tr, fa, fp) tp tk rd hi sc pl dr wa wb rc ∧ hm = M1 (th, tr, wh, ta, fa, cl, se, ac, mk) mq ma me rdv ∧ WhRel tr fp wh ∧ I1 cl se tp hi pl ta ac mk ma me)
theorem CH_len (mz : MzS) (tp : TpS) (tk : TkS) (rd : RdS) (hi : HiS) (sc : ScS) (pl dr : PlS) (wa wb : WaS) (rc : Nat → Int32) : (CH mz tp tk rd hi sc pl dr wa wb rc).length = 53 := rfl
theorem M0_len (mp : MpS) (mq : MsS) (ma : MaS) (rdv : Value) : (M0 mp mq ma rdv).length = 16 := rfl
theorem M1_len (mp : MpS) (mq : MsS) (ma : MaS) (me : MeS) (rdv : Value) : (M1 mp mq ma me rdv).length = 25 := rfl
theorem Inv_ok : InvOK Inv := by
  rintro hc hm (⟨cl, se, tr, fa, fp, tp, tk, rd, hi, sc, pl, dr, wa, wb, rc, th, wh, ta, mo, sd, mq, ma, rdv, rfl, rfl, _⟩ | ⟨cl, se, tr, fa, fp, tp, tk, rd, hi, sc, pl, dr, wa, wb, rc, th, wh, ta, ac, mk, mq, ma, me, rdv, rfl, rfl, _⟩)
  · exact ⟨rfl, rfl, by rw [CH_len]; omega, by rw [M0_len]; omega⟩
  · exact ⟨rfl, rfl, by rw [CH_len]; omega, by rw [M1_len]; omega⟩
theorem Inv_len {hc hm : HP} (h : Inv hc hm) : hc.length ≤ 2000 ∧ hm.length ≤ 2000 := ⟨(Inv_ok hc hm h).2.2.1, (Inv_ok hc hm h).2.2.2⟩
/-- an op out of its two cases -/
theorem step_of {γ δ : Type} {f : List Value → HP → Option γ} {fc : γ → HP → Option Value × HP} {g : List Value → HP → Option δ} {fm : δ → HP → Option Value × HP} {as : List Value}
    (h0 : ∀ cl se tr fa fp tp tk rd hi sc pl dr wa wb rc th wh ta mo sd mq ma rdv, TpRel tp ta ma → WhRel tr fp wh → hi.2.2.2.2.1 = 0 → hi.2.2.2.2.2 = 0 → ∃ oc om v hc2 hm2, f (.ref 0 :: as) (CH (0, cl, se, tr, fa, fp) tp tk rd hi sc pl dr wa wb rc) = some oc ∧ g (.ref 0 :: as) (M0 (th, tr, wh, ta, fa, mo, sd, 0, 0) mq ma rdv) = some om ∧ fc oc (CH (0, cl, se, tr, fa, fp) tp tk rd hi sc pl dr wa wb rc) = (some (.int v), hc2) ∧ fm om (M0 (th, tr, wh, ta, fa, mo, sd, 0, 0) mq ma rdv) = (some (.int v), hm2) ∧ Inv hc2 hm2)
    (h1 : ∀ cl se tr fa fp tp tk rd hi sc pl dr wa wb rc th wh ta ac mk mq ma me rdv, WhRel tr fp wh → I1 cl se tp hi pl ta ac mk ma me → ∃ oc om v hc2 hm2, f (.ref 0 :: as) (CH (1, cl, se, tr, fa, fp) tp tk rd hi sc pl dr wa wb rc) = some oc ∧ g (.ref 0 :: as) (M1 (th, tr, wh, ta, fa, cl, se, ac, mk) mq ma me rdv) = some om ∧ fc oc (CH (1, cl, se, tr, fa, fp) tp tk rd hi sc pl dr wa wb rc) = (some (.int v), hc2) ∧ fm om (M1 (th, tr, wh, ta, fa, cl, se, ac, mk) mq ma me rdv) = (some (.int v), hm2) ∧ Inv hc2 hm2) : Step Inv f fc g fm as := by
  rintro hc hm (⟨cl, se, tr, fa, fp, tp, tk, rd, hi, sc, pl, dr, wa, wb, rc, th, wh, ta, mo, sd, mq, ma, rdv, rfl, rfl, a1, a2, a3, a4⟩ | ⟨cl, se, tr, fa, fp, tp, tk, rd, hi, sc, pl, dr, wa, wb, rc, th, wh, ta, ac, mk, mq, ma, me, rdv, rfl, rfl, a1, a2⟩)
  · obtain ⟨oc, om, v, hc2, hm2, e1, e2, e3, e4, hI⟩ := h0 cl se tr fa fp tp tk rd hi sc pl dr wa wb rc th wh ta mo sd mq ma rdv a1 a2 a3 a4
    exact ⟨oc, om, e1, e2, ⟨v, by rw [e3], by rw [e4]⟩, hc2, hm2, by rw [e3]; exact Ren.refl (Inv_len hI).1, by rw [e4]; exact Ren.refl (Inv_len hI).2, hI⟩
  · obtain ⟨oc, om, v, hc2, hm2, e1, e2, e3, e4, hI⟩ := h1 cl se tr fa fp tp tk rd hi sc pl dr wa wb rc th wh ta ac mk mq ma me rdv a1 a2
    exact ⟨oc, om, e1, e2, ⟨v, by rw [e3], by rw [e4]⟩, hc2, hm2, by rw [e3]; exact Ren.refl (Inv_len hI).1, by rw [e4]; exact Ren.refl (Inv_len hI).2, hI⟩
theorem inv0 {cl : Int64} {se t fa fp : Int32} {tp : TpS} {tk : TkS} {rd : RdS} {hi : HiS} {sc : ScS} {pl dr : PlS} {wa wb : WaS} {rc : Nat → Int32} {th ta : Int32} {mo : Int64} {sd : Int32} {mq : MsS} {ma : MaS} {rdv : Value} (a1 : TpRel tp ta ma) (ht : t ≠ 4) (a3 : hi.2.2.2.2.1 = 0) (a4 : hi.2.2.2.2.2 = 0) : Inv (CH (0, cl, se, t, fa, fp) tp tk rd hi sc pl dr wa wb rc) (M0 (th, t, -1, ta, fa, mo, sd, 0, 0) mq ma rdv) :=
  Or.inl ⟨cl, se, t, fa, fp, tp, tk, rd, hi, sc, pl, dr, wa, wb, rc, th, -1, ta, mo, sd, mq, ma, rdv, rfl, rfl, a1, (if_neg ht).symm, a3, a4⟩
theorem inv1 {cl : Int64} {se t fa fp : Int32} {tp : TpS} {tk : TkS} {rd : RdS} {hi : HiS} {sc : ScS} {pl dr : PlS} {wa wb : WaS} {rc : Nat → Int32} {th ta ac mk : Int32} {mq : MsS} {ma : MaS} {me : MeS} {rdv : Value} (a1 : I1 cl se tp hi pl ta ac mk ma me) (ht : t ≠ 4) : Inv (CH (1, cl, se, t, fa, fp) tp tk rd hi sc pl dr wa wb rc) (M1 (th, t, -1, ta, fa, cl, se, ac, mk) mq ma me rdv) :=
  Or.inr ⟨cl, se, t, fa, fp, tp, tk, rd, hi, sc, pl, dr, wa, wb, rc, th, -1, ta, ac, mk, mq, ma, me, rdv, rfl, rfl, (if_neg ht).symm, a1⟩
/-- a question: without a meadow refused with 1 -/
theorem step_q {f g : List Value → HP → Option (Int32 × HP)} {as : List Value}
    (h0 : ∀ cl se tr fa fp tp tk rd hi sc pl dr wa wb rc th wh ta mo sd mq ma rdv, hi.2.2.2.2.1 = 0 → hi.2.2.2.2.2 = 0 → ∃ t, t ≠ 4 ∧ f (.ref 0 :: as) (CH (0, cl, se, tr, fa, fp) tp tk rd hi sc pl dr wa wb rc) = some (-1, CH (0, cl, se, t, fa, fp) tp tk rd hi sc pl dr wa wb rc) ∧ g (.ref 0 :: as) (M0 (th, tr, wh, ta, fa, mo, sd, 0, 0) mq ma rdv) = some (-1, M0 (0, t, -1, ta, fa, mo, sd, 0, 0) mq ma rdv))
    (h1 : ∀ cl se tr fa fp tp tk rd hi sc pl dr wa wb rc th wh ta ac mk mq ma me rdv, WhRel tr fp wh → I1 cl se tp hi pl ta ac mk ma me → ∃ v t sc2 wa2 wb2 rc2 mq2 ma2, t ≠ 4 ∧ KeepMa ma ma2 ∧ f (.ref 0 :: as) (CH (1, cl, se, tr, fa, fp) tp tk rd hi sc pl dr wa wb rc) = some (v, CH (1, cl, se, t, fa, fp) tp tk rd hi sc2 pl dr wa2 wb2 rc2) ∧ g (.ref 0 :: as) (M1 (th, tr, wh, ta, fa, cl, se, ac, mk) mq ma me rdv) = some (v, M1 (0, t, -1, ta, fa, cl, se, ac, mk) mq2 ma2 me rdv)) : Step Inv f fIH g fIH as := by
  refine step_of (fun cl se tr fa fp tp tk rd hi sc pl dr wa wb rc th wh ta mo sd mq ma rdv a1 a2 a3 a4 => ?_) (fun cl se tr fa fp tp tk rd hi sc pl dr wa wb rc th wh ta ac mk mq ma me rdv a1 a2 => ?_)
  · obtain ⟨t, ht, e1, e2⟩ := h0 cl se tr fa fp tp tk rd hi sc pl dr wa wb rc th wh ta mo sd mq ma rdv a3 a4
    exact ⟨_, _, -1, _, _, e1, e2, rfl, rfl, inv0 a1 ht a3 a4⟩
  · obtain ⟨v, t, sc2, wa2, wb2, rc2, mq2, ma2, ht, K, e1, e2⟩ := h1 cl se tr fa fp tp tk rd hi sc pl dr wa wb rc th wh ta ac mk mq ma me rdv a1 a2
    exact ⟨_, _, v, _, _, e1, e2, rfl, rfl, inv1 (a2.keep K) ht⟩
theorem op_parts : Step Inv EX10_parts fIH EX12_parts fIH [] := by
  refine step_q (fun cl se tr fa fp tp tk rd hi sc pl dr wa wb rc th wh ta mo sd mq ma rdv _ _ => ⟨1, by decide, rfl, rfl⟩) (fun cl se tr fa fp tp tk rd hi sc pl dr wa wb rc th wh ta ac mk mq ma me rdv _ I => ?_)
  obtain ⟨_, _, w, h, du, pa, sh, gc, hc, wc, ⟨H, G, N, _⟩, S, _⟩ := I
  obtain ⟨F, Q, e⟩ := e_partsOf (mp := (0, tr, wh, ta, fa, cl, se, ac, mk)) (mq := mq) (ma := ma) (rdv := rdv) H G N.1.1 N.1.2 S
  refine ⟨nI (prt pl.1 cl), 0, sc, wa, wb, rc, mq, sFQ ma F Q, by decide, ⟨rfl, rfl, rfl, rfl, rfl⟩, ?_, ?_⟩
  · rw [eX10_parts_s_1, qX10_parts_0_1, qX10_parts_19_1 (h := e_countParts H G S)]
  · rw [eX12_parts_s_1, qX12_parts_0_1, qX12_parts_26_1 (h := e)]
