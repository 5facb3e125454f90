/-! longest, shutWays, thin. -/
/-- from a cell: the farthest -/
def frt (g : GrS) (cl : Int64) (n : Nat) (a : Option Nat) (c : Nat) : Option Nat := dmx (dst g cl (bitL (nI c) &&& cl)) a n
def lgs (g : GrS) (cl : Int64) (n : Nat) : Nat → Option Nat
  | 0 => none
  | c + 1 => frt g cl n (lgs g cl n c) c
theorem lgs_lt {w h : Nat} {g : GrS} {cl : Int64} (H : WH w h) (G : GrOK g w h) (C : Sub cl (w * h)) : ∀ c x, lgs g cl (w * h) c = some x → x < 48 := by
  intro c
  induction c with
  | zero => intro x e; cases e
  | succ c ih => exact dmx_lt ih (fun d x e => dst_lt H G C bit_in e) (w * h)
theorem op_longest : Step Inv EX10_longest fIH EX12_longest fIH [] := by
  refine step_q (fun cl se tr fa fp tp tk rd hi sc pl dr wa wb rc th wh ta mo sd mq ma rdv _ _ => ⟨1, by decide, rfl, rfl⟩) (fun cl se tr fa fp tp tk rd hi sc pl dr wa wb rc th wh ta ac mk mq ma me rdv _ I => ?_)
  obtain ⟨T, S, w, h, du, pa, sh, gc, hq, wc, ⟨H, G, N, P, GA, NO, HE, WK⟩, C, HI⟩ := id I
  have hn := H.n
  have hlt := lgs_lt H G C
  have hdl : ∀ {c d a}, dst pl.1 cl (bitL (nI c) &&& cl) d = some a → a < 48 := fun e => dst_lt H G C bit_in e
  have c1 : EX0_longestWay [.ref 15, .long cl] (CH (1, cl, se, tr, fa, fp) tp tk rd hi sc pl dr wa wb rc) = some (oM (lgs pl.1 cl (w * h) (w * h))) := by
    rw [eX0_longestWay_s, qX0_longestWay_0]
    refine lp_run (fun c => [(0, .ref 15), (1, .long cl), (3, .int (oM (lgs pl.1 cl (w * h) c))), (4, .int (nI c))]) (fun _ => (CH (1, cl, se, tr, fa, fp) tp tk rd hi sc pl dr wa wb rc)) (t := w * h) (by have := FU_ge; omega) (fun c hc k => ?_) (fun k => ?_)
    · rw [qX0_longestWay_6, G.2.2.1, if_le (by omega) (by omega), if_neg (by omega), qX0_longestWay_18 (h := e_isIn _ _ (by omega)), if_b2i]
      have es : lgs pl.1 cl (w * h) (c + 1) = dmx (dst pl.1 cl (bitL (nI c) &&& cl)) (lgs pl.1 cl (w * h) c) (w * h) := rfl
      by_cases h5 : tb cl c = true
      · obtain ⟨t, ht, f1, f2, e3⟩ := e_farthest (mz := (1, cl, se, tr, fa, fp)) (tp := tp) (tk := tk) (rd := rd) (hi := hi) (sc := sc) (dr := dr) (wa := wa) (wb := wb) (rc := rc) H G C h5
        have hmx : dmx (dst pl.1 cl (bitL (nI c) &&& cl)) (lgs pl.1 cl (w * h) c) (w * h) = omx (lgs pl.1 cl (w * h) c) (some t) := by
          refine dmx_is ?_ (fun d y hd e => ?_)
          · obtain ⟨d, _, h6⟩ := tb_ne0.mp f1
            exact ⟨d, FR_Sub C bit_in t d h6, (dst_some H G C bit_in).mpr h6⟩
          · have h6 := (dst_some H G C bit_in).mp e
            rcases Nat.lt_or_ge t y with h7 | h7
            · obtain ⟨x, h8⟩ := FR_down H G C bit_in h6 (t + 1) (by omega)
              rw [f2, tb_0] at h8
              cases h8
            · exact h7
        rw [if_pos h5, qX0_longestWay_29 (h := e3), nI_1, es, hmx]
        have := omx_if (n := 48) (by omega) (a := lgs pl.1 cl (w * h) c) (b := some t) (hlt c) (fun x e => by cases e; exact ht) (fun z => z)
        rw [show oM (some t) = nI t from rfl] at this
        have e9 : (if oM (lgs pl.1 cl (w * h) c) < nI t then nI t else oM (lgs pl.1 cl (w * h) c)) = (if nI t ≤ oM (lgs pl.1 cl (w * h) c) then oM (lgs pl.1 cl (w * h) c) else nI t) := by
          by_cases h7 : oM (lgs pl.1 cl (w * h) c) < nI t
          · rw [if_pos h7, if_neg (Int32.not_le.mpr h7)]
          · rw [if_neg h7, if_pos (Int32.not_lt.mp h7)]
        rw [e9, this]
      · have hz : dmx (dst pl.1 cl (bitL (nI c) &&& cl)) (lgs pl.1 cl (w * h) c) (w * h) = lgs pl.1 cl (w * h) c := dmx_none (fun d hd => (dst_none H G C bit_in).mpr (fun k => by
          cases h6 : tb (FR pl.1 cl (bitL (nI c) &&& cl) k).1 d
          · rfl
          · obtain ⟨x, h7⟩ := FR_down H G C bit_in h6 0 (Nat.zero_le k)
            have h7 : tb (bitL (nI c) &&& cl) x = true := h7
            rw [tb_and, Bool.and_eq_true, tb_bit c (by omega)] at h7
            have := of_decide_eq_true h7.1
            rw [this] at h7
            exact absurd h7.2 h5))
        rw [if_neg h5, nI_1, es, hz]
    · rw [qX0_longestWay_6, G.2.2.1, if_le (by omega) (by omega), if_pos (by omega)]
  have e2 : ∃ F Q, EX12_longest [.ref 0] (M1 (th, tr, wh, ta, fa, cl, se, ac, mk) mq ma me rdv) = some (oM (lgs pl.1 cl (w * h) (w * h)), M1 (0, 0, -1, ta, fa, cl, se, ac, mk) mq (sFQ ma F Q) me rdv) := by
    rw [eX12_longest_s_1, qX12_longest_0_1]
    have L := lp_inv (B := BX12_longest_23) (fun c lv hp => ∃ F Q, c ≤ w * h ∧ lv = [(0, .ref 0), (1, .int (oM (lgs pl.1 cl (w * h) c))), (2, .int (nI c))] ∧ hp = M1 (0, tr, wh, ta, fa, cl, se, ac, mk) mq (sFQ ma F Q) me rdv) (Q := fun r => ∃ F Q, r = some (oM (lgs pl.1 cl (w * h) (w * h)), M1 (0, 0, -1, ta, fa, cl, se, ac, mk) mq (sFQ ma F Q) me rdv)) (t := w * h) (N := FU) (by have := FU_ge; omega) (fun c lv hp hc hI => ?_) (fun lv hp hI => ?_) (lv := [(0, .ref 0), (1, .int (-2)), (2, .int 0)]) (hp := M1 (0, tr, wh, ta, fa, cl, se, ac, mk) mq ma me rdv) ⟨ma.2.2.1, ma.2.2.2.1, Nat.zero_le _, rfl, rfl⟩
    · obtain ⟨r, ⟨F, Q, hr⟩, e⟩ := L
      exact ⟨F, Q, e.trans hr⟩
    · obtain ⟨F, Q, _, rfl, rfl⟩ := hI
      obtain ⟨F2, Q2, hF2, eF⟩ := e_laysFar (mp := (0, tr, wh, ta, fa, cl, se, ac, mk)) (mq := mq) (ma := sFQ ma F Q) (rdv := rdv) H G N.1.1 N.1.2 C hc
      refine Or.inl ⟨_, _, ⟨F2, Q2, by omega, rfl, rfl⟩, fun k => ?_⟩
      rw [qX12_longest_23_1, N.1.1, N.1.2, pk_mul, if_le (by omega) (by omega), if_neg (by omega), qX12_longest_40_1 (h := eF)]
      have hlt2 := dmx_lt (n := 48) (D := dst pl.1 cl (bitL (nI c) &&& cl)) (hlt c) (fun d x e => hdl e)
      refine lp_run (B := BX12_longest_45 k) (fun d => [(0, .ref 0), (1, .int (oM (dmx (dst pl.1 cl (bitL (nI c) &&& cl)) (lgs pl.1 cl (w * h) c) d))), (2, .int (nI c)), (3, .int (nI d))]) (fun _ => M1 (0, tr, wh, ta, fa, cl, se, ac, mk) mq (sFQ ma F2 Q2) me rdv) (t := w * h) (N := FU) (by have := FU_ge; omega) (fun d hd k2 => ?_) (fun k2 => ?_)
      · have hin := nI_in (by omega : d < 48) (by omega)
        rw [qX12_longest_45_1, N.1.1, N.1.2, pk_mul, if_le (by omega) (by omega), if_neg (by omega), if_neg hin, if_neg hin, nI_clamp (by omega), (show (sFQ ma F2 Q2).2.2.1 d = _ from hF2 d (by omega)), nI_1]
        exact omx_if (n := 48) (by omega) (hlt2 d) (fun x e => hdl e) (fun z => k2 [(0, .ref 0), (1, .int z), (2, .int (nI c)), (3, .int (nI (d + 1)))] [] (M1 (0, tr, wh, ta, fa, cl, se, ac, mk) mq (sFQ ma F2 Q2) me rdv))
      · rw [qX12_longest_45_1, N.1.1, N.1.2, pk_mul, if_le (by omega) (by omega), if_pos (by omega), nI_1]
        rfl
    · obtain ⟨F, Q, _, rfl, rfl⟩ := hI
      refine ⟨_, ⟨F, Q, rfl⟩, fun k => ?_⟩
      rw [qX12_longest_23_1, N.1.1, N.1.2, pk_mul, if_le (by omega) (by omega), if_pos (by omega)]
  obtain ⟨F, Q, e2⟩ := e2
  refine ⟨oM (lgs pl.1 cl (w * h) (w * h)), 0, sc, wa, wb, rc, mq, sFQ ma F Q, by decide, ⟨rfl, rfl, rfl, rfl, rfl⟩, ?_, e2⟩
  rw [eX10_longest_s_1, qX10_longest_0_1, qX10_longest_19_1 (h := c1)]
/-- has any walker's cell a way to any gate -/
theorem m_hasWay {w h du pa sh gc wc : Nat} {mp : MpS} {mq : MsS} {ma : MaS} {me : MeS} {rdv : Value} {pl : PlS} (H : WH w h) (G : GrOK pl.1 w h) (N : PlNu pl me w h du pa sh) (GA : PlGa pl me (w * h) gc) (WK : PlWk pl me (w * h) wc) {m : Int64} (hm : Sub m (w * h)) : ∃ F Q, EX12_hasWay [.ref 0, .long m] (M1 mp mq ma me rdv) = some (!decide (FL pl.1 m (pl.2.2.2.2.2.2.2.2.1 &&& m) &&& wcs pl wc = 0), M1 mp mq (sFQ ma F Q) me rdv) := by
  have hn := H.n
  have hwc := WK.1
  have hgc := GA.1
  -- what is found
  have hiff : (FL pl.1 m (pl.2.2.2.2.2.2.2.2.1 &&& m) &&& wcs pl wc ≠ 0) ↔ ∃ k, k < wc ∧ ∃ j, j < gc ∧ dst pl.1 m (bitL (nI (stf pl k)) &&& m) (gtf pl j) ≠ none := by
    have hf : ∀ k, tb (pl.2.2.2.2.2.2.2.2.1 &&& m) k = true → tb m k = true := fun k hk => by
      rw [tb_and, Bool.and_eq_true] at hk
      exact hk.2
    have hone : ∀ k j, k < wc → j < gc → (dst pl.1 m (bitL (nI (stf pl k)) &&& m) (gtf pl j) ≠ none ↔ Cn w h m (stf pl k) (gtf pl j)) := fun k j hk hj => by
      have hs := (wk_at WK hn.1 hk).1
      rw [← FL_bit H G hm hs, FL_iff H G hm bit_in, ← FR_Cn H G hm bit_in]
      constructor
      · intro h5
        cases hd : dst pl.1 m (bitL (nI (stf pl k)) &&& m) (gtf pl j) with
        | none => exact absurd hd h5
        | some a => exact ⟨a, (dst_some H G hm bit_in).mp hd⟩
      · rintro ⟨a, ha⟩ h6
        have := (dst_none H G hm bit_in).mp h6 a
        rw [ha] at this
        cases this
    rw [tb_ne0]
    constructor
    · rintro ⟨c, hc, h5⟩
      rw [tb_and, Bool.and_eq_true] at h5
      obtain ⟨k, hk, e1⟩ := (tb_wcs WK hn.1 (Nat.le_refl wc) c).mp h5.2
      obtain ⟨e, h6, h7⟩ := (FL_iff H G hm hf c).mp h5.1
      rw [tb_and, Bool.and_eq_true] at h6
      obtain ⟨j, hj, e2, h8⟩ := (GA.2.2.2.2.2 e).mp h6.1
      have hg := ga_at GA hn.1 hj
      have e3 : gtf pl j = e := by
        have := hg.2.1
        rw [e2, nI_eq (by omega) (by omega)] at this
        exact this.symm
      refine ⟨k, hk, j, hj, (hone k j hk hj).mpr ?_⟩
      rw [e1, e3]
      exact Cn_symm H hm h7
    · rintro ⟨k, hk, j, hj, h5⟩
      have h5 := (hone k j hk hj).mp h5
      have hs := (wk_at WK hn.1 hk).1
      have hg := ga_at GA hn.1 hj
      refine ⟨stf pl k, by omega, ?_⟩
      rw [tb_and, Bool.and_eq_true]
      refine ⟨(FL_iff H G hm hf _).mpr ⟨gtf pl j, ?_, Cn_symm H hm h5⟩, (tb_wcs WK hn.1 (Nat.le_refl wc) _).mpr ⟨k, hk, rfl⟩⟩
      rw [tb_and, Bool.and_eq_true]
      exact ⟨(GA.2.2.2.2.2 _).mpr ⟨j, hj, hg.2.1, hg.1⟩, Cn_r h5⟩
  rw [eX12_hasWay_s, qX12_hasWay_0]
  have hdec : DecidablePred (fun k => ∃ j, j < gc ∧ dst pl.1 m (bitL (nI (stf pl k)) &&& m) (gtf pl j) ≠ none) := fun k => Classical.propDecidable _
  have go : ∀ (t : Nat) (v : Bool), t ≤ wc → (∀ k, k < t → ¬ ∃ j, j < gc ∧ dst pl.1 m (bitL (nI (stf pl k)) &&& m) (gtf pl j) ≠ none) → ((t = wc ∧ v = false) ∨ (t < wc ∧ (∃ j, j < gc ∧ dst pl.1 m (bitL (nI (stf pl t)) &&& m) (gtf pl j) ≠ none) ∧ v = true)) → ∃ F Q, lp BX12_hasWay_2 FU [(0, .ref 0), (1, .long m), (3, .int 0)] [] (M1 mp mq ma me rdv) = some (v, M1 mp mq (sFQ ma F Q) me rdv) := by
    intro t v ht hno hv
    -- the gates from one cell
    have inner : ∀ k, k < wc → ∀ F0 Q0, ∃ F2 Q2, ∀ K : KT (Bool × HP), BX12_hasWay_2 K [(0, .ref 0), (1, .long m), (3, .int (nI k))] [] (M1 mp mq (sFQ ma F0 Q0) me rdv) = lp (BX12_hasWay_30 K) FU [(0, .ref 0), (1, .long m), (3, .int (nI k)), (4, .int 0)] [] (M1 mp mq (sFQ ma F2 Q2) me rdv) ∧ (∀ j, j < gc → F2 (gtf pl j) = oM (dst pl.1 m (bitL (nI (stf pl k)) &&& m) (gtf pl j))) := fun k hk F0 Q0 => by
      obtain ⟨s1, s2, s3⟩ := wk_at WK hn.1 hk
      obtain ⟨F2, Q2, hF2, eF⟩ := e_laysFar (mp := mp) (mq := mq) (ma := sFQ ma F0 Q0) (rdv := rdv) H G N.1.1 N.1.2 hm s1
      refine ⟨F2, Q2, fun K => ⟨?_, fun j hj => hF2 _ (by have := (ga_at GA hn.1 hj).1; omega)⟩⟩
      rw [qX12_hasWay_2, WK.2.2.1, if_le (by omega) (by omega), if_neg (by omega), if_neg (nI_in (by omega : k < 5) (by omega)), nI_clamp (by omega), s3, qX12_hasWay_24 (h := eF)]
    have hgate : ∀ (K k30 : KT (Bool × HP)) k j F2 Q2, j < gc → F2 (gtf pl j) = oM (dst pl.1 m (bitL (nI (stf pl k)) &&& m) (gtf pl j)) → BX12_hasWay_30 K k30 [(0, .ref 0), (1, .long m), (3, .int (nI k)), (4, .int (nI j))] [] (M1 mp mq (sFQ ma F2 Q2) me rdv) = (if dst pl.1 m (bitL (nI (stf pl k)) &&& m) (gtf pl j) = none then k30 [(0, .ref 0), (1, .long m), (3, .int (nI k)), (4, .int (nI (j + 1)))] [] (M1 mp mq (sFQ ma F2 Q2) me rdv) else some (true, M1 mp mq (sFQ ma F2 Q2) me rdv)) := fun K k30 k j F2 Q2 hj hF => by
      obtain ⟨g1, g2, g3⟩ := ga_at GA hn.1 hj
      rw [qX12_hasWay_30, GA.2.2.1, if_le (by omega) (by omega), if_neg (by omega), if_neg (nI_in (by omega : j < 4) (by omega)), nI_clamp (by omega), g3, if_neg (nI_in (by omega : gtf pl j < 48) (by omega)), nI_clamp (by omega), (show (sFQ ma F2 Q2).2.2.1 (gtf pl j) = _ from hF), nI_1]
      cases hd : dst pl.1 m (bitL (nI (stf pl k)) &&& m) (gtf pl j) with
      | none => rw [show oM none = -2 from rfl, if_pos rfl, if_pos rfl]
      | some a =>
        have ha := dst_lt H G hm bit_in hd
        rw [show oM (some a) = nI a from rfl, if_neg (nI_m2 (by omega)), if_neg (fun e => by cases e)]
    have L := lp_inv (B := BX12_hasWay_2) (fun k lv hp => ∃ F Q, k ≤ wc ∧ lv = [(0, .ref 0), (1, .long m), (3, .int (nI k))] ∧ hp = M1 mp mq (sFQ ma F Q) me rdv) (Q := fun r => ∃ F Q, r = some (v, M1 mp mq (sFQ ma F Q) me rdv)) (t := t) (N := FU) (by have := FU_ge; omega) (fun k lv hp hkt hI => ?_) (fun lv hp hI => ?_) (lv := [(0, .ref 0), (1, .long m), (3, .int 0)]) (hp := M1 mp mq ma me rdv) ⟨ma.2.2.1, ma.2.2.2.1, Nat.zero_le _, rfl, rfl⟩
    · obtain ⟨r, ⟨F, Q, hr⟩, e⟩ := L
      exact ⟨F, Q, e.trans hr⟩
    · obtain ⟨F, Q, _, rfl, rfl⟩ := hI
      obtain ⟨F2, Q2, h5⟩ := inner k (by omega) F Q
      refine Or.inl ⟨_, _, ⟨F2, Q2, by omega, rfl, rfl⟩, fun K => ?_⟩
      rw [(h5 K).1]
      refine lp_run (B := BX12_hasWay_30 K) (fun j => [(0, .ref 0), (1, .long m), (3, .int (nI k)), (4, .int (nI j))]) (fun _ => M1 mp mq (sFQ ma F2 Q2) me rdv) (t := gc) (N := FU) (by have := FU_ge; omega) (fun j hj k2 => ?_) (fun k2 => ?_)
      · rw [hgate K k2 k j F2 Q2 hj ((h5 K).2 j hj), if_pos]
        cases hd : dst pl.1 m (bitL (nI (stf pl k)) &&& m) (gtf pl j) with
        | none => rfl
        | some a => exact absurd ⟨j, hj, by rw [hd]; exact fun e => by cases e⟩ (hno k hkt)
      · rw [qX12_hasWay_30, GA.2.2.1, if_le (by omega) (by omega), if_pos (by omega), nI_1]
    · obtain ⟨F, Q, _, rfl, rfl⟩ := hI
      rcases hv with ⟨rfl, rfl⟩ | ⟨h6, h7, rfl⟩
      · refine ⟨_, ⟨F, Q, rfl⟩, fun K => ?_⟩
        rw [qX12_hasWay_2, WK.2.2.1, if_le (by omega) (by omega), if_pos (by omega)]
      · obtain ⟨F2, Q2, h5⟩ := inner t h6 F Q
        have hdec2 : DecidablePred (fun j => dst pl.1 m (bitL (nI (stf pl t)) &&& m) (gtf pl j) ≠ none) := fun k => Classical.propDecidable _
        obtain ⟨j, hj, h8, h9⟩ := fb_first (p := fun j => dst pl.1 m (bitL (nI (stf pl t)) &&& m) (gtf pl j) ≠ none) h7
        refine ⟨_, ⟨F2, Q2, rfl⟩, fun K => ?_⟩
        rw [(h5 K).1]
        refine lp_run (B := BX12_hasWay_30 K) (fun j => [(0, .ref 0), (1, .long m), (3, .int (nI t)), (4, .int (nI j))]) (fun _ => M1 mp mq (sFQ ma F2 Q2) me rdv) (t := j) (N := FU) (by have := FU_ge; omega) (fun j2 hj2 k2 => ?_) (fun k2 => ?_)
        · rw [hgate K k2 t j2 F2 Q2 (by omega) ((h5 K).2 j2 (by omega)), if_pos]
          cases hd : dst pl.1 m (bitL (nI (stf pl t)) &&& m) (gtf pl j2) with
          | none => rfl
          | some a => exact absurd (by rw [hd]; exact fun e => by cases e) (h9 j2 hj2)
        · rw [hgate K k2 t j F2 Q2 hj ((h5 K).2 j hj), if_neg h8]
  rcases first_or (P := fun k => ∃ j, j < gc ∧ dst pl.1 m (bitL (nI (stf pl k)) &&& m) (gtf pl j) ≠ none) wc with ⟨t, h1, h2, h3⟩ | h3
  · have := go t true (by omega) h3 (Or.inr ⟨h1, h2, rfl⟩)
    rw [decide_eq_false (hiff.mpr ⟨t, h1, h2⟩)]
    exact this
  · have := go wc false (Nat.le_refl _) h3 (Or.inl ⟨rfl, rfl⟩)
    rw [decide_eq_true (show FL pl.1 m (pl.2.2.2.2.2.2.2.2.1 &&& m) &&& wcs pl wc = 0 from Classical.byContradiction (fun h5 => by
      obtain ⟨k, hk, h6⟩ := hiff.mp h5
      exact h3 k hk h6))]
    exact this
theorem op_shutWays : Step Inv EX10_shutWays fIH EX12_shutWays fIH [] := by
  refine step_q (fun cl se tr fa fp tp tk rd hi sc pl dr wa wb rc th wh ta mo sd mq ma rdv _ _ => ⟨1, by decide, rfl, rfl⟩) (fun cl se tr fa fp tp tk rd hi sc pl dr wa wb rc th wh ta ac mk mq ma me rdv _ I => ?_)
  obtain ⟨T, S, w, h, du, pa, sh, gc, hq, wc, ⟨H, G, N, P, GA, NO, HE, WK⟩, C, HI⟩ := id I
  have hn := H.n
  have hwc := WK.1
  by_cases h0 : wc = 0
  · refine ⟨-1, 6, sc, wa, wb, rc, mq, ma, by decide, KeepMa.rf _, ?_, ?_⟩
    · rw [eX10_shutWays_s_1, qX10_shutWays_0_1, if_pos (by rw [WK.2.1, h0]; rfl)]
    · rw [eX12_shutWays_s_1, qX12_shutWays_0_1, if_pos (by rw [WK.2.2.1, h0]; rfl)]
  · have hS : ∀ i, Sub (wki pl.1 cl pl.2.2.2.2.2.2.2.2.1 pl.2.2.2.2.2.2.1 (w * h) i) (w * h) := fun i k hk => C k (wki_in (by omega) i hk)
    have hf : ∀ m : Int64, ∀ k, tb (pl.2.2.2.2.2.2.2.2.1 &&& m) k = true → tb m k = true := fun m k hk => by
      rw [tb_and, Bool.and_eq_true] at hk
      exact hk.2
    have go : ∀ (t : Nat) (v : Int32), t ≤ 61 → (∀ j, j < t → FL pl.1 (wki pl.1 cl pl.2.2.2.2.2.2.2.2.1 pl.2.2.2.2.2.2.1 (w * h) j) (pl.2.2.2.2.2.2.2.2.1 &&& wki pl.1 cl pl.2.2.2.2.2.2.2.2.1 pl.2.2.2.2.2.2.1 (w * h) j) &&& wcs pl wc ≠ 0) → ((t = 61 ∧ v = -2) ∨ (t < 61 ∧ FL pl.1 (wki pl.1 cl pl.2.2.2.2.2.2.2.2.1 pl.2.2.2.2.2.2.1 (w * h) t) (pl.2.2.2.2.2.2.2.2.1 &&& wki pl.1 cl pl.2.2.2.2.2.2.2.2.1 pl.2.2.2.2.2.2.1 (w * h) t) &&& wcs pl wc = 0 ∧ v = nI t)) → ∃ v t sc2 wa2 wb2 rc2 mq2 ma2, t ≠ 4 ∧ KeepMa ma ma2 ∧ EX10_shutWays [.ref 0] (CH (1, cl, se, tr, fa, fp) tp tk rd hi sc pl dr wa wb rc) = some (v, CH (1, cl, se, t, fa, fp) tp tk rd hi sc2 pl dr wa2 wb2 rc2) ∧ EX12_shutWays [.ref 0] (M1 (th, tr, wh, ta, fa, cl, se, ac, mk) mq ma me rdv) = some (v, M1 (0, t, -1, ta, fa, cl, se, ac, mk) mq2 ma2 me rdv) := by
      intro t v ht hno hv
      have e1 : EX10_shutWays [.ref 0] (CH (1, cl, se, tr, fa, fp) tp tk rd hi sc pl dr wa wb rc) = some (v, CH (1, cl, se, 0, fa, fp) tp tk rd hi sc pl dr wa wb rc) := by
        rw [eX10_shutWays_s_1, qX10_shutWays_0_1, if_neg (by rw [WK.2.1]; exact nI_ne0 (by omega) (by omega)), qX10_shutWays_34_1 (h := c_wcells WK hn.1)]
        refine lp_run (fun j => [(0, .ref 0), (1, .long (wcs pl wc)), (3, .long (wki pl.1 cl pl.2.2.2.2.2.2.2.2.1 pl.2.2.2.2.2.2.1 (w * h) j)), (5, .int (nI j))]) (fun _ => (CH (1, cl, se, tr, fa, fp) tp tk rd hi sc pl dr wa wb rc)) (t := t) (by have := FU_ge; omega) (fun j hj k => ?_) (fun k => ?_)
        · rw [qX10_shutWays_46_1, l60, if_lt (by omega) (by omega), if_neg (by omega), qX10_shutWays_70_1 (h := e_flood H G (hS j) (hf _)), lg0, if_neg (hno j hj), qX10_shutWays_93_1 (h := c_week H G _), nI_1]
          rfl
        · rcases hv with ⟨rfl, rfl⟩ | ⟨h6, h7, rfl⟩
          · rw [qX10_shutWays_46_1, l60, if_lt (by omega) (by omega), if_pos (by omega)]
          · rw [qX10_shutWays_46_1, l60, if_lt (by omega) (by omega), if_neg (by omega), qX10_shutWays_70_1 (h := e_flood H G (hS t) (hf _)), lg0, if_pos h7]
      have e2 : ∃ F Q, EX12_shutWays [.ref 0] (M1 (th, tr, wh, ta, fa, cl, se, ac, mk) mq ma me rdv) = some (v, M1 (0, 0, -1, ta, fa, cl, se, ac, mk) mq (sFQ ma F Q) me rdv) := by
        rw [eX12_shutWays_s_1, qX12_shutWays_0_1, if_neg (by rw [WK.2.2.1]; exact nI_ne0 (by omega) (by omega))]
        have L := lp_inv (B := BX12_shutWays_42) (fun j lv hp => ∃ F Q, lv = [(0, .ref 0), (1, .long (wki pl.1 cl pl.2.2.2.2.2.2.2.2.1 pl.2.2.2.2.2.2.1 (w * h) j)), (3, .int (nI j))] ∧ hp = M1 (0, tr, wh, ta, fa, cl, se, ac, mk) mq (sFQ ma F Q) me rdv) (Q := fun r => ∃ F Q, r = some (v, M1 (0, 0, -1, ta, fa, cl, se, ac, mk) mq (sFQ ma F Q) me rdv)) (t := t) (N := FU) (by have := FU_ge; omega) (fun j lv hp hj hI => ?_) (fun lv hp hI => ?_) (lv := [(0, .ref 0), (1, .long cl), (3, .int 0)]) (hp := M1 (0, tr, wh, ta, fa, cl, se, ac, mk) mq ma me rdv) ⟨ma.2.2.1, ma.2.2.2.1, rfl, rfl⟩
        · obtain ⟨r, ⟨F, Q, hr⟩, e⟩ := L
          exact ⟨F, Q, e.trans hr⟩
        · obtain ⟨F, Q, rfl, rfl⟩ := hI
          obtain ⟨F2, Q2, eW⟩ := m_hasWay (mp := (0, tr, wh, ta, fa, cl, se, ac, mk)) (mq := mq) (ma := sFQ ma F Q) (rdv := rdv) H G N GA WK (hS j)
          refine Or.inl ⟨_, _, ⟨F2, Q2, rfl, rfl⟩, fun k => ?_⟩
          rw [qX12_shutWays_42_1, l60, if_lt (by omega) (by omega), if_neg (by omega), qX12_shutWays_50_1 (h := eW), if_b2i, if_pos (by rw [decide_eq_false (hno j hj)]; rfl), qX12_shutWays_64_1 (h := m_week H G N GA _), nI_1]
          rfl
        · obtain ⟨F, Q, rfl, rfl⟩ := hI
          rcases hv with ⟨rfl, rfl⟩ | ⟨h6, h7, rfl⟩
          · refine ⟨_, ⟨F, Q, rfl⟩, fun k => ?_⟩
            rw [qX12_shutWays_42_1, l60, if_lt (by omega) (by omega), if_pos (by omega)]
          · obtain ⟨F2, Q2, eW⟩ := m_hasWay (mp := (0, tr, wh, ta, fa, cl, se, ac, mk)) (mq := mq) (ma := sFQ ma F Q) (rdv := rdv) H G N GA WK (hS t)
            refine ⟨_, ⟨F2, Q2, rfl⟩, fun k => ?_⟩
            rw [qX12_shutWays_42_1, l60, if_lt (by omega) (by omega), if_neg (by omega), qX12_shutWays_50_1 (h := eW), if_b2i, if_neg (by rw [decide_eq_true h7]; decide)]
      obtain ⟨F, Q, e2⟩ := e2
      exact ⟨v, 0, sc, wa, wb, rc, mq, sFQ ma F Q, by decide, ⟨rfl, rfl, rfl, rfl, rfl⟩, e1, e2⟩
    rcases first_or (P := fun j => FL pl.1 (wki pl.1 cl pl.2.2.2.2.2.2.2.2.1 pl.2.2.2.2.2.2.1 (w * h) j) (pl.2.2.2.2.2.2.2.2.1 &&& wki pl.1 cl pl.2.2.2.2.2.2.2.2.1 pl.2.2.2.2.2.2.1 (w * h) j) &&& wcs pl wc = 0) 61 with ⟨t, h1, h2, h3⟩ | h3
    · exact go t (nI t) (by omega) h3 (Or.inr ⟨h1, h2, rfl⟩)
    · exact go 61 (-2) (Nat.le_refl _) h3 (Or.inl ⟨rfl, rfl⟩)
/-- who may be thinned -/
def tnp (pl : PlS) (cl : Int64) (wc c : Nat) : Bool := ((tb cl c && !tb pl.2.2.2.2.2.2.2.2.1 c) && !tb (wcs pl wc) c) && (decide (2 ≤ pcn (besd pl.1 (bitL (nI c)) &&& cl)) && !(tb cl c && decide (prt pl.1 cl < prt pl.1 (cl &&& (bitL (nI c) ^^^ (-1))))))
theorem op_thin : Step Inv EX10_thin fIH EX12_thin fIH [] := by
  refine step_of (fun cl se tr fa fp tp tk rd hi sc pl dr wa wb rc th wh ta mo sd mq ma rdv a1 a2 a3 a4 => ?_) (fun cl se tr fa fp tp tk rd hi sc pl dr wa wb rc th wh ta ac mk mq ma me rdv a1 I => ?_)
  · exact ⟨(-1, _), (-1, _), -1, _, _, rfl, rfl, rfl, rfl, inv0 a1 (by decide : (1 : Int32) ≠ 4) a3 a4⟩
  · obtain ⟨T, S, w, h, du, pa, sh, gc, hq, wc, ⟨H, G, N, P, GA, NO, HE, WK⟩, C, HI⟩ := id I
    have hn := H.n
    obtain ⟨s, hs, rfl⟩ := S
    have htp : ∀ k, tb (sets (tnp pl cl wc) (w * h)) k = (decide (k < w * h) && tnp pl cl wc k) := fun k => tb_sets _ (by omega) k
    have hcl : ∀ k, tb (sets (tnp pl cl wc) (w * h)) k = true → tb cl k = true ∧ k < w * h := fun k hk => by
      rw [htp, Bool.and_eq_true, decide_eq_true_iff] at hk
      have h5 := hk.2
      unfold tnp at h5
      simp only [Bool.and_eq_true] at h5
      exact ⟨h5.1.1.1, hk.1⟩
    have c1 : EX10_cellsToThin [.ref 0] (CH (1, cl, nI s, tr, fa, fp) tp tk rd hi sc pl dr wa wb rc) = some (sets (tnp pl cl wc) (w * h)) := by
      rw [eX10_cellsToThin_s_1, qX10_cellsToThin_0_1, qX10_cellsToThin_22_1 (h := c_wcells WK hn.1)]
      refine lp_run (fun c => [(0, .ref 0), (1, .long (sets (tnp pl cl wc) c)), (3, .long ((cl &&& (pl.2.2.2.2.2.2.2.2.1 ^^^ (-1))) &&& (wcs pl wc ^^^ (-1)))), (5, .int (nI c))]) (fun _ => (CH (1, cl, nI s, tr, fa, fp) tp tk rd hi sc pl dr wa wb rc)) (t := w * h) (by have := FU_ge; omega) (fun c hc k => ?_) (fun k => ?_)
      · have es : sets (tnp pl cl wc) (c + 1) = if tnp pl cl wc c = true then sets (tnp pl cl wc) c ||| bitL (nI c) else sets (tnp pl cl wc) c := rfl
        have hpc := pcn_le (besd pl.1 (bitL (nI c)) &&& cl)
        rw [qX10_cellsToThin_34_1, G.2.2.1, if_le (by omega) (by omega), if_neg (by omega), qX10_cellsToThin_52_1 (h := e_isIn _ _ (by omega)), if_b2i, tb_andnot, tb_andnot, bcnt_eq, l2, if_lt (by omega) (by omega), nI_1, es]
        unfold tnp
        cases h5 : ((tb cl c && !tb pl.2.2.2.2.2.2.2.2.1 c) && !tb (wcs pl wc) c)
        · rw [if_neg (by decide), if_neg (by simp)]
        · rw [if_pos rfl]
          by_cases h6 : pcn (besd pl.1 (bitL (nI c)) &&& cl) < 2
          · rw [if_pos h6, decide_eq_false (by omega), if_neg (by simp)]
          · rw [if_neg h6, qX10_cellsToThin_91_1 (h := e_isParting H G C hc), if_b2i, decide_eq_true (by omega : 2 ≤ pcn (besd pl.1 (bitL (nI c)) &&& cl)), nI_1]
            cases h7 : (tb cl c && decide (prt pl.1 cl < prt pl.1 (cl &&& (bitL (nI c) ^^^ (-1)))))
            · rw [if_neg (by decide), if_pos (by simp)]
            · rw [if_pos rfl, if_neg (by simp)]
      · rw [qX10_cellsToThin_34_1, G.2.2.1, if_le (by omega) (by omega), if_pos (by omega)]
    have m1 : ∃ F Q, EX12_thin [.ref 0] (M1 (th, tr, wh, ta, fa, cl, nI s, ac, mk) mq ma me rdv) = (if sets (tnp pl cl wc) (w * h) = 0 then some (-1, M1 (0, 6, -1, ta, fa, cl, nI s, ac, mk) mq (sFQ ma F Q) me rdv) else BX12_thin_113 [(0, .ref 0), (1, .long (sets (tnp pl cl wc) (w * h)))] [.ref 0] (M1 (0, tr, wh, ta, fa, cl, nI s, ac, mk) mq (sFQ ma F Q) me rdv)) := by
      rw [eX12_thin_s_1, qX12_thin_0_1]
      have L := lp_inv (B := BX12_thin_22) (fun c lv hp => ∃ F Q, lv = [(0, .ref 0), (1, .long (sets (tnp pl cl wc) c)), (3, .int (nI c))] ∧ hp = M1 (0, tr, wh, ta, fa, cl, nI s, ac, mk) mq (sFQ ma F Q) me rdv) (Q := fun r => ∃ F Q, r = (if sets (tnp pl cl wc) (w * h) = 0 then some (-1, M1 (0, 6, -1, ta, fa, cl, nI s, ac, mk) mq (sFQ ma F Q) me rdv) else BX12_thin_113 [(0, .ref 0), (1, .long (sets (tnp pl cl wc) (w * h)))] [.ref 0] (M1 (0, tr, wh, ta, fa, cl, nI s, ac, mk) mq (sFQ ma F Q) me rdv))) (t := w * h) (N := FU) (by have := FU_ge; omega) (fun c lv hp hc hI => ?_) (fun lv hp hI => ?_) (lv := [(0, .ref 0), (1, .long 0), (3, .int 0)]) (hp := M1 (0, tr, wh, ta, fa, cl, nI s, ac, mk) mq ma me rdv) ⟨ma.2.2.1, ma.2.2.2.1, rfl, rfl⟩
      · obtain ⟨r, ⟨F, Q, hr⟩, e⟩ := L
        exact ⟨F, Q, e.trans hr⟩
      · obtain ⟨F, Q, rfl, rfl⟩ := hI
        have es : sets (tnp pl cl wc) (c + 1) = if tnp pl cl wc c = true then sets (tnp pl cl wc) c ||| bitL (nI c) else sets (tnp pl cl wc) c := rfl
        have hpc := pcn_le (besd pl.1 (bitL (nI c)) &&& cl)
        have e0 : ∀ k, BX12_thin_22 k [(0, .ref 0), (1, .long (sets (tnp pl cl wc) c)), (3, .int (nI c))] [] (M1 (0, tr, wh, ta, fa, cl, nI s, ac, mk) mq (sFQ ma F Q) me rdv) = (if ((tb cl c && !tb pl.2.2.2.2.2.2.2.2.1 c) && !tb (wcs pl wc) c) = true then (if pcn (besd pl.1 (bitL (nI c)) &&& cl) ≤ 1 then k [(0, .ref 0), (1, .long (sets (tnp pl cl wc) c)), (3, .int (nI (c + 1)))] [] (M1 (0, tr, wh, ta, fa, cl, nI s, ac, mk) mq (sFQ ma F Q) me rdv) else BX12_thin_81 k [(0, .ref 0), (1, .long (sets (tnp pl cl wc) c)), (3, .int (nI c))] [.int (nI c), .ref 0] (M1 (0, tr, wh, ta, fa, cl, nI s, ac, mk) mq (sFQ ma F Q) me rdv)) else k [(0, .ref 0), (1, .long (sets (tnp pl cl wc) c)), (3, .int (nI (c + 1)))] [] (M1 (0, tr, wh, ta, fa, cl, nI s, ac, mk) mq (sFQ ma F Q) me rdv)) := fun k => by
          rw [qX12_thin_22_1, N.1.1, N.1.2, pk_mul, if_le (by omega) (by omega), if_neg (by omega), qX12_thin_38_1 (h := e_has _ _ (by omega)), if_b2i, nI_1]
          cases h5 : tb cl c
          · rw [if_neg (by decide), if_neg (by simp)]
          · rw [if_pos rfl, qX12_thin_46_1 (h := e_isGate (by omega)), if_b2i, nI_1, ← GA.2.2.2.1]
            cases h6 : tb pl.2.2.2.2.2.2.2.2.1 c
            · rw [if_neg (by decide), qX12_thin_57_1 (h := m_isStart WK hn.1 hc), if_b2i, nI_1]
              cases h7 : tb (wcs pl wc) c
              · rw [if_neg (by decide), if_pos (by decide), qX12_thin_69_1 (h := e_besideOf H G N.1.1 N.1.2 hc), qX12_thin_72_1 (h := e_bits _ _), nI_1, l1, if_le (by omega) (by omega)]
              · rw [if_pos rfl, if_neg (by decide)]
            · rw [if_pos rfl, if_neg (by simp)]
        by_cases h5 : ((tb cl c && !tb pl.2.2.2.2.2.2.2.2.1 c) && !tb (wcs pl wc) c) = true
        · by_cases h6 : pcn (besd pl.1 (bitL (nI c)) &&& cl) ≤ 1
          · refine Or.inl ⟨_, _, ⟨F, Q, rfl, rfl⟩, fun k => ?_⟩
            have : tnp pl cl wc c = false := by
              unfold tnp
              rw [decide_eq_false (by omega)]
              simp
            rw [e0, if_pos h5, if_pos h6, es, this, if_neg (by decide)]
          · obtain ⟨F2, Q2, e9⟩ := e_splitsAt (mp := (0, tr, wh, ta, fa, cl, nI s, ac, mk)) (mq := mq) (ma := sFQ ma F Q) (rdv := rdv) H G N.1.1 N.1.2 C hc
            refine Or.inl ⟨_, _, ⟨F2, Q2, rfl, rfl⟩, fun k => ?_⟩
            rw [e0, if_pos h5, if_neg h6, qX12_thin_81_1 (h := e9), if_b2i, es, nI_1]
            have e10 : tnp pl cl wc c = !(tb cl c && decide (prt pl.1 cl < prt pl.1 (cl &&& (bitL (nI c) ^^^ (-1))))) := by
              unfold tnp
              rw [h5, decide_eq_true (by omega : 2 ≤ pcn (besd pl.1 (bitL (nI c)) &&& cl))]
              rfl
            rw [e10]
            show (if (tb cl c && decide (prt pl.1 cl < prt pl.1 (cl &&& (bitL (nI c) ^^^ (-1))))) = true then _ else _) = _
            cases h7 : (tb cl c && decide (prt pl.1 cl < prt pl.1 (cl &&& (bitL (nI c) ^^^ (-1)))))
            · rw [if_neg (by decide), if_pos (by decide)]
            · rw [if_pos rfl, if_neg (by decide)]
        · refine Or.inl ⟨_, _, ⟨F, Q, rfl, rfl⟩, fun k => ?_⟩
          have : tnp pl cl wc c = false := by
            unfold tnp
            rw [show ((tb cl c && !tb pl.2.2.2.2.2.2.2.2.1 c) && !tb (wcs pl wc) c) = false by simpa using h5]
            rfl
          rw [e0, if_neg h5, es, this, if_neg (by decide)]
      · obtain ⟨F, Q, rfl, rfl⟩ := hI
        refine ⟨_, ⟨F, Q, rfl⟩, fun k => ?_⟩
        rw [qX12_thin_22_1, N.1.1, N.1.2, pk_mul, if_le (by omega) (by omega), if_pos (by omega), lg0]
    obtain ⟨F, Q, m1⟩ := m1
    have hp := pcn_le (sets (tnp pl cl wc) (w * h))
    have K1 : I1 cl (nI s) tp hi pl ta ac mk (sFQ ma F Q) me := I.keep ⟨rfl, rfl, rfl, rfl, rfl⟩
    generalize sets (tnp pl cl wc) (w * h) = u at *
    by_cases h0 : u = 0
    · have e : EX10_thin [.ref 0] (CH (1, cl, nI s, tr, fa, fp) tp tk rd hi sc pl dr wa wb rc) = some (-1, CH (1, cl, nI s, 6, fa, fp) tp tk rd hi sc pl dr wa wb rc) := by
        rw [eX10_thin_s_1, qX10_thin_0_1, qX10_thin_14_1 (h := c1), bcnt_eq, if_pos (by rw [h0, pcn_0]; rfl)]
      rw [if_pos h0] at m1
      exact ⟨_, _, _, _, _, e, m1, rfl, rfl, inv1 K1 (by decide)⟩
    · rw [if_neg h0] at m1
      have hp0 : 0 < pcn u := Nat.pos_of_ne_zero (fun e => h0 (pcn_eq0.mp e))
      obtain ⟨T2, _, w2, h2, du2, pa2, sh2, gc2, hq2, wc2, _, _, HI2⟩ := id K1
      have HI2 : HiRel hi ac mk (sFQ ma F Q) (w * h) := HI
      obtain ⟨hi2, ac2, ma2, R1, R2, R3, R4⟩ := keep_both HI2 C ⟨s, hs, rfl⟩
      have hdr := drw_lt s
      have hix := Nat.mod_lt (drw s) hp0
      obtain ⟨c, hc, h1, h3⟩ := nth_ex hix
      obtain ⟨hcm, hcn⟩ := hcl c h1
      have cn := e_nth (CH (1, cl, nI s, tr, fa, fp) tp tk rd hi sc pl dr wa wb rc) (by omega : c < 48) h1
      rw [h3] at cn
      obtain ⟨d1, d2⟩ := drop_first h1 hc
      rw [h3] at d1 d2
      have hne : ¬ nI (pcn u) = 0 := nI_ne0 hp0 (by omega)
      have e : EX10_thin [.ref 0] (CH (1, cl, nI s, tr, fa, fp) tp tk rd hi sc pl dr wa wb rc) = some (nI c, CH (1, cl &&& (bitL (nI c) ^^^ (-1)), nI (drw s), 0, fa, fp) tp tk rd hi2 sc pl dr wa wb rc) := by
        rw [eX10_thin_s_1, qX10_thin_0_1, qX10_thin_14_1 (h := c1), bcnt_eq, if_neg hne, if_pos hne, drawc hs, pk_rem (by omega) hp0 (by omega), qX10_thin_48_1 (h := cn), qX10_thin_68_1 (h := R3 _ _ _ _ _ _ _ _ _ _ _ _ _)]
      have e2 : EX12_thin [.ref 0] (M1 (th, tr, wh, ta, fa, cl, nI s, ac, mk) mq ma me rdv) = some (nI c, M1 (0, 0, -1, ta, fa, cl &&& (bitL (nI c) ^^^ (-1)), nI (drw s), ac2, mk) mq ma2 me rdv) := by
        rw [m1, qX12_thin_113_1 (h := R4 _ _ _ _ _ _ _ _)]
        dsimp only
        rw [drawm hs, qX12_thin_132_1 (h := e_bits _ _), if_pos hne, pk_rem (by omega) hp0 (by omega)]
        refine lp_run (fun i => [(0, .ref 0), (1, .long (dropL u i)), (3, .int (nI (drw s % pcn u))), (4, .int (nI i))]) (fun _ => M1 (0, tr, wh, ta, fa, cl, nI (drw s), ac2, mk) mq ma2 me rdv) (t := drw s % pcn u) (by have := FU_ge; omega) (fun i hii k => ?_) (fun k => ?_)
        · rw [qX12_thin_140_1, if_le (by omega) (by omega), if_neg (by omega), nI_1]
          rfl
        · rw [qX12_thin_140_1, if_le (by omega) (by omega), if_pos (by omega), qX12_thin_159_1 (h := e_first _ hc d1 d2)]
      refine ⟨_, _, _, _, _, e, e2, rfl, rfl, inv1 ⟨T.keep (R2.trans rfl), ⟨drw s, hdr, rfl⟩, w, h, du, pa, sh, gc, hq, wc, ⟨H, G, N, P, GA, NO, HE, WK⟩, fun k hk => C k ?_, R1⟩ (by decide)⟩
      rw [tb_and, Bool.and_eq_true] at hk
      exact hk.1
