/-! A walker's way, minute by minute. -/
def tnz (g : GrS) (m : Int64) (no : Int32) (d : Nat) : Int32 := if no = -2 then -2 else oM (dst g m (bitL no &&& m) d)
theorem tnz_ok {w h : Nat} {g : GrS} {m : Int64} {no : Int32} (H : WH w h) (G : GrOK g w h) (hm : Sub m (w * h)) (hno : no = -2 ∨ ∃ c, c < w * h ∧ no = nI c) : TNok (tnz g m no) := by
  intro k hk
  unfold tnz
  rcases hno with e | ⟨c, hc, rfl⟩
  · rw [if_pos e]; exact Or.inl rfl
  · have hn := H.n
    rw [if_neg (nI_m2 (by omega))]
    cases hd : dst g m (bitL (nI c) &&& m) k with
    | none => exact Or.inl rfl
    | some a => exact Or.inr ⟨a, dst_lt H G hm bit_in hd, rfl⟩
theorem bst_cong {w h : Nat} {m : Int64} {tn tn2 : Nat → Int32} {c : Nat} (H : WH w h) (hc : c < w * h) (e : ∀ d, d < 48 → tn d = tn2 d) : ∀ s, s ≤ 4 → bst w h m tn c s = bst w h m tn2 c s := by
  have hn := H.n
  intro s
  induction s with
  | zero => intro _; rfl
  | succ s ih =>
    intro hs
    rw [bst_s, bst_s, ih (by omega)]
    cases hm : mto w h m c s with
    | none => rfl
    | some d =>
      have hd := mto_lt H hc (by omega : s < 4) hm
      dsimp only
      rw [e d (by omega)]
      by_cases h5 : tn2 d = -2
      · rw [if_pos h5, if_pos h5]
      · rw [if_neg h5, if_neg h5]
        cases hb : bst w h m tn2 c s with
        | none => rfl
        | some y =>
          obtain ⟨⟨i, hi, h6⟩, _⟩ := bst_some hb
          have hy := mto_lt H hc (by omega : i < 4) h6
          dsimp only
          rw [e y (by omega)]
theorem stp_cong {w h : Nat} {g : GrS} {m : Int64} {no : Int32} {tn tn2 : Nat → Int32} {kd : Nat} {p : PS} (H : WH w h) (hc : p.1 < w * h) (e : kd = 3 → ∀ d, d < 48 → tn d = tn2 d) : stp w h g m no tn kd p = stp w h g m no tn2 kd p := by
  unfold stp
  by_cases h3 : kd = 3
  · have : stC w h m no tn p = stC w h m no tn2 p := by
      unfold stC
      rw [bst_cong H hc (e h3) 4 (Nat.le_refl _)]
    rw [this]
  · rw [if_neg h3, if_neg h3]
def tra (w h : Nat) (g : GrS) (m : Int64) (no : Int32) (kd : Nat) (p : PS) : Nat → PS
  | 0 => p
  | i + 1 => stp w h g m no (tnz g m no) kd (tra w h g m no kd p i)
theorem tra_s (w h : Nat) (g : GrS) (m : Int64) (no : Int32) (kd : Nat) (p : PS) (i : Nat) : tra w h g m no kd p (i + 1) = stp w h g m no (tnz g m no) kd (tra w h g m no kd p i) := rfl
theorem tra_ok {w h : Nat} {g : GrS} {m : Int64} {no : Int32} {kd st : Nat} {p : PS} (H : WH w h) (P : PSOK (w * h) st p) : ∀ i, PSOK (w * h) st (tra w h g m no kd p i)
  | 0 => P
  | i + 1 => stp_ok H (tra_ok H P i) kd
def ps0 (c f v : Nat) : PS := (c, f, v, 0 ||| bitL (nI c), fun _ => c)
theorem tb_0b {c : Nat} (hc : c < 64) (k : Nat) : tb (0 ||| bitL (nI c)) k = decide (k = c) := by
  rw [tb_orb 0 hc, tb_0]; rfl
theorem ps0_ok {n c f v : Nat} (hn : n ≤ 48) (hc : c < n) (hf : f < 4) (hv : v < 65537) : PSOK n c (ps0 c f v) := by
  refine ⟨hc, hf, hv, ?_, ?_, ?_, ?_, rfl⟩
  · intro k hk
    have hk : tb (0 ||| bitL (nI c)) k = true := hk
    rw [tb_0b (by omega)] at hk
    have := of_decide_eq_true hk
    omega
  · show tb (0 ||| bitL (nI c)) c = true
    rw [tb_0b (by omega)]; simp
  · show tb (0 ||| bitL (nI c)) c = true
    rw [tb_0b (by omega)]; simp
  · intro k _
    show tb (0 ||| bitL (nI c)) c = true
    rw [tb_0b (by omega)]; simp
/-- K minutes he is there; out -/
def WKO (l du : Nat) (gs : Int64) (tr : Nat → PS) (K : Nat) (ou : Option Nat) : Prop :=
  (du < l ∧ K = 0 ∧ ou = none) ∨ (1 ≤ K ∧ l + K ≤ du + 1 ∧ (∀ i, i + 1 < K → tb gs (tr i).1 = false) ∧ ((tb gs (tr (K - 1)).1 = true ∧ ou = some (l + K - 1)) ∨ (tb gs (tr (K - 1)).1 = false ∧ l + K = du + 1 ∧ ou = none)))
theorem WKO_ex (l du : Nat) (gs : Int64) (tr : Nat → PS) : ∃ K ou, WKO l du gs tr K ou := by
  by_cases h0 : du < l
  · exact ⟨0, none, Or.inl ⟨h0, rfl, rfl⟩⟩
  · by_cases hex : ∃ i, i < du - l + 1 ∧ tb gs (tr i).1 = true
    · obtain ⟨i, hi, h1, h2⟩ := fb_first (p := fun i => tb gs (tr i).1 = true) hex
      refine ⟨i + 1, some (l + (i + 1) - 1), Or.inr ⟨by omega, by omega, fun j hj => ?_, Or.inl ⟨h1, rfl⟩⟩⟩
      simpa using h2 j (by omega)
    · have hno : ∀ i, i < du - l + 1 → tb gs (tr i).1 = false := fun i hi => by
        cases h1 : tb gs (tr i).1
        · rfl
        · exact absurd ⟨i, hi, h1⟩ hex
      exact ⟨du - l + 1, none, Or.inr ⟨by omega, by omega, fun j hj => hno j (by omega), Or.inr ⟨hno _ (by omega), by omega, rfl⟩⟩⟩
theorem WKO_bd {l du : Nat} {gs : Int64} {tr : Nat → PS} {K : Nat} {ou : Option Nat} (W : WKO l du gs tr K ou) : (K = 0 ∧ du < l) ∨ (1 ≤ K ∧ l + K ≤ du + 1) := by
  rcases W with ⟨h1, h2, _⟩ | ⟨h1, h2, _⟩
  · exact Or.inl ⟨h2, h1⟩
  · exact Or.inr ⟨h1, h2⟩
/-- what is told of the walker j: kind, cell, side, leaves -/
def WkJ (pl : PlS) (me : MeS) (n j kd c f l : Nat) : Prop := j < 5 ∧ kd < 5 ∧ c < n ∧ f < 4 ∧ l ≤ 99 ∧ ((pl.2.2.2.1 j).2.1 = nI kd ∧ (pl.2.2.2.1 j).2.2.1 = nI c ∧ (pl.2.2.2.1 j).2.2.2.1 = nI f ∧ (pl.2.2.2.1 j).2.2.2.2 = nI l) ∧ me.2.2.2.2.2.1 j = nI kd ∧ me.2.2.2.2.2.2.1 j = nI c ∧ me.2.2.2.2.2.2.2.1 j = nI f ∧ me.2.2.2.2.2.2.2.2.1 j = nI l
theorem WkJ_of {pl : PlS} {me : MeS} {n wc j : Nat} (WK : PlWk pl me n wc) (hj : j < wc) : ∃ kd c f l, WkJ pl me n j kd c f l := by
  obtain ⟨h0, _, _, h3⟩ := WK
  obtain ⟨kd, c, f, l, a1, a2, a3, a4, a5, a6⟩ := h3 j hj
  refine ⟨kd, c, f, l, by omega, a1, a2, a3, a4, ⟨?_, ?_, ?_, ?_⟩, a6⟩ <;> rw [a5]
def las (l K : Nat) : Int32 := if K = 0 then -2 else nI (l + K - 1)
section
variable {mz : MzS} {tp : TpS} {tk : TkS} {rd : RdS} {hi : HiS} {sc : ScS} {pl dr : PlS} {wo : WaS} {rc : Nat → Int32} {w h : Nat} {me : MeS}
theorem c_begina {T CF SN : Nat → Int32} {pp q : Nat} {mo be : Int64} {ce fg sv ou la : Int32} (H : WH w h) (G : GrOK pl.1 w h) {j kd c f l s : Nat} {m : Int64} (W : WkJ pl me (w * h) j kd c f l) (NO : PlNo pl me (w * h)) (hm : Sub m (w * h)) (hs : s < 65537) : ∃ CF' SN', CFR c (ps0 c f ((s + j) % 65537)) CF' ∧ (kd = 3 → ∀ d, d < 48 → SN' d = tnz pl.1 m pl.2.2.2.2.2.2.2.2.2.1 d) ∧ EX8_begin [.ref 44, .ref 14, .int (nI j), .long m, .int (nI s)] (CH mz tp tk rd hi sc pl dr (wA T CF SN pp q mo be ce fg sv ou la) wo rc) = some (CH mz tp tk rd hi sc pl dr (wPa T CF' SN' (24 + j) m (ps0 c f ((s + j) % 65537)) ou la) wo rc) := by
  have hn := H.n
  obtain ⟨hj, hk, hc, hf, hl, ⟨k1, k2, k3, k4⟩, _⟩ := W
  have hR : CFR c (ps0 c f ((s + j) % 65537)) (if tb 0 c = true then CF else upd CF c (-1)) := by
    rw [tb_0, if_neg (by decide)]
    intro k hk48 hk2
    have hk2 : tb (0 ||| bitL (nI c)) k = true := hk2
    rw [tb_0b (by omega)] at hk2
    have e := of_decide_eq_true hk2
    rw [e, pk_us, if_pos rfl]
  have e1 : (nI s + nI j) - (nI s + nI j) / 65537 * 65537 = nI ((s + j) % 65537) := by
    rw [nI_add, show (65537 : Int32) = nI 65537 from rfl, pk_rem (by omega) (by omega) (by omega)]
  have e2 : EX8_begin [.ref 44, .ref 14, .int (nI j), .long m, .int (nI s)] (CH mz tp tk rd hi sc pl dr (wA T CF SN pp q mo be ce fg sv ou la) wo rc) = BX8_begin_66 [(0, .ref 44)] [.int (-1), .int (nI c), .ref 44] (CH mz tp tk rd hi sc pl dr (wA T CF SN 14 (24 + j) m 0 (nI c) (nI f) (nI ((s + j) % 65537)) ou la) wo rc) := by
    rw [eX8_begin_sa, qX8_begin_0a, qX8_begin_11a (hwj := hj) (h := e_walker _ _ _ _ _ _ _ _ _ _ _ hj), k2, k3, e1]
  rw [e2, qX8_begin_66a (hwj := hj) (h := c_entera (by omega) _), k1]
  by_cases h3 : kd = 3
  · subst h3
    rw [if_pos (by decide)]
    have hn2 : EX3_hasNoise [.ref 14] (CH mz tp tk rd hi sc pl dr (wA T (if tb 0 c = true then CF else upd CF c (-1)) SN 14 (24 + j) m (0 ||| bitL (nI c)) (nI c) (nI f) (nI ((s + j) % 65537)) ou la) wo rc) = some (!decide (pl.2.2.2.2.2.2.2.2.2.1 = -2)) := by
      rw [eX3_hasNoise_s, qX3_hasNoise_0]
      by_cases e : pl.2.2.2.2.2.2.2.2.2.1 = -2
      · rw [if_pos e, decide_eq_true e]; rfl
      · rw [if_neg e, decide_eq_false e]; rfl
    rw [qX8_begin_95a (hwj := hj) (h := hn2), if_b2i]
    by_cases e : pl.2.2.2.2.2.2.2.2.2.1 = -2
    · rw [if_neg (by rw [decide_eq_true e]; decide)]
      obtain ⟨A, hA, eA⟩ := e_measure_a (mz := mz) (tp := tp) (tk := tk) (rd := rd) (hi := hi) (sc := sc) (pl := pl) (dr := dr) (wa := wA T (if tb 0 c = true then CF else upd CF c (-1)) SN 14 (24 + j) m (0 ||| bitL (nI c)) (nI c) (nI f) (nI ((s + j) % 65537)) ou la) (wb := wo) (rc := rc) H G hm 48
      refine ⟨_, A, hR, fun _ d hd => ?_, qX8_begin_117a (hwj := hj) (h := eA) ..⟩
      rw [hA d hd]
      unfold tnz
      rw [if_pos e]
      have : dst pl.1 m (bitL (nI 48) &&& m) d = none := (dst_none H G hm bit_in).mpr (fun k => by
        have hz : bitL (nI 48) &&& m = 0 := tb_ext (fun i _ => by
          rw [tb_and, tb_0, tb_bit 48 (by omega)]
          cases h5 : tb m i
          · simp
          · have := hm i h5
            have : ¬ i = 48 := by omega
            simp [this])
        rw [hz]
        cases h6 : tb (FR pl.1 m 0 k).1 d
        · rfl
        · obtain ⟨e5, h7⟩ := FR_down H G hm (fun i hi => by rw [tb_0] at hi; cases hi) h6 0 (Nat.zero_le k)
          have h7 : tb (0 : Int64) e5 = true := h7
          rw [tb_0] at h7
          cases h7)
      rw [this]
      rfl
    · rw [if_pos (by rw [decide_eq_false e]; rfl)]
      rcases NO.2 with e3 | ⟨nc, hnc, e3⟩
      · exact absurd e3 e
      · rw [e3]
        obtain ⟨A, hA, eA⟩ := e_measure_a (mz := mz) (tp := tp) (tk := tk) (rd := rd) (hi := hi) (sc := sc) (pl := pl) (dr := dr) (wa := wA T (if tb 0 c = true then CF else upd CF c (-1)) SN 14 (24 + j) m (0 ||| bitL (nI c)) (nI c) (nI f) (nI ((s + j) % 65537)) ou la) (wb := wo) (rc := rc) H G hm nc
        refine ⟨_, A, hR, fun _ d hd => ?_, qX8_begin_117a (hwj := hj) (h := eA) ..⟩
        rw [hA d hd]
        unfold tnz
        rw [if_neg (nI_m2 (by omega))]
  · rw [if_neg (by rw [l3, nI_eq (by omega) (by omega)]; exact h3)]
    exact ⟨_, SN, hR, fun e => absurd e h3, rfl⟩
theorem c_gatea {T CF SN : Nat → Int32} {q : Nat} {mo : Int64} {p : PS} {ou la : Int32} (hc : p.1 < 64) : EX8_isAtGate [.ref 44] (CH mz tp tk rd hi sc pl dr (wPa T CF SN q mo p ou la) wo rc) = some (tb pl.2.2.2.2.2.2.2.2.1 p.1) := by
  rw [eX8_isAtGate_sa, qX8_isAtGate_0a, qX8_isAtGate_11a (h := e_isIn _ _ hc), zb_b2i]
theorem c_goa {wx : WaS} (H : WH w h) (G : GrOK pl.1 w h) {j kd c f l s du K : Nat} {m : Int64} {ou : Option Nat} (W : WkJ pl me (w * h) j kd c f l) (NO : PlNo pl me (w * h)) (hm : Sub m (w * h)) (hs : s < 65537) (hdu : du ≤ 200) (h1 : pl.2.2.2.2.1 = nI du) (O : WKO l du pl.2.2.2.2.2.2.2.2.1 (tra w h pl.1 m pl.2.2.2.2.2.2.2.2.2.1 kd (ps0 c f ((s + j) % 65537))) K ou) : ∃ T' CF' SN', (∀ i, i < K → T' (l + i) = nI (tra w h pl.1 m pl.2.2.2.2.2.2.2.2.2.1 kd (ps0 c f ((s + j) % 65537)) i).1) ∧ EX8_goTillDusk [.ref 44, .ref 14, .int (nI j), .long m, .int (nI s)] (CH mz tp tk rd hi sc pl dr wx wo rc) = some (CH mz tp tk rd hi sc pl dr (wPa T' CF' SN' (24 + j) m (tra w h pl.1 m pl.2.2.2.2.2.2.2.2.2.1 kd (ps0 c f ((s + j) % 65537)) (K - 1)) (oM ou) (las l K)) wo rc) := by
  have hn := H.n
  obtain ⟨⟨T, CF, SN⟩, ⟨pp, q⟩, mo, be, ce, fg, sv, ou0, la⟩ := wx
  obtain ⟨CF1, SN1, R1, hS1, e1⟩ := c_begina (mz := mz) (tp := tp) (tk := tk) (rd := rd) (hi := hi) (sc := sc) (pl := pl) (dr := dr) (wo := wo) (rc := rc) (T := T) (CF := CF) (SN := SN) (pp := pp) (q := q) (mo := mo) (be := be) (ce := ce) (fg := fg) (sv := sv) (ou := ou0) (la := la) H G W NO hm hs
  obtain ⟨hj, hk, hc, hf, hl, ⟨k1, k2, k3, k4⟩, _⟩ := id W
  have e0 : EX8_goTillDusk [.ref 44, .ref 14, .int (nI j), .long m, .int (nI s)] (CH mz tp tk rd hi sc pl dr (wA T CF SN pp q mo be ce fg sv ou0 la) wo rc) = lp BX8_goTillDusk_30 FU [(0, .ref 44), (6, .int (nI l))] [] (CH mz tp tk rd hi sc pl dr (wPa T CF1 SN1 (24 + j) m (ps0 c f ((s + j) % 65537)) (-2) (-2)) wo rc) := by
    rw [eX8_goTillDusk_sa, qX8_goTillDusk_0a, qX8_goTillDusk_6a (hwj := hj) (h := e1), k4]
  have P0 : PSOK (w * h) c (ps0 c f ((s + j) % 65537)) := ps0_ok hn.1 hc hf (Nat.mod_lt _ (by omega))
  have hT3 : kd = 3 → TNok SN1 := fun e => by
    intro k hk
    rw [hS1 e k hk]
    exact tnz_ok H G hm NO.2 k hk
  generalize ps0 c f ((s + j) % 65537) = p0 at *
  have hP := fun i => tra_ok (g := pl.1) (m := m) (no := pl.2.2.2.2.2.2.2.2.2.1) (kd := kd) H P0 i
  have hst : ∀ i, stp w h pl.1 m pl.2.2.2.2.2.2.2.2.2.1 SN1 kd (tra w h pl.1 m pl.2.2.2.2.2.2.2.2.2.1 kd p0 i) = tra w h pl.1 m pl.2.2.2.2.2.2.2.2.2.1 kd p0 (i + 1) := fun i => by
    rw [tra_s]
    exact stp_cong H (hP i).1 hS1
  have hbd := WKO_bd O
  have L := lp_inv (B := BX8_goTillDusk_30) (fun i lv hp => ∃ T' CF', (∀ i', i' < i → T' (l + i') = nI (tra w h pl.1 m pl.2.2.2.2.2.2.2.2.2.1 kd p0 i').1) ∧ CFR c (tra w h pl.1 m pl.2.2.2.2.2.2.2.2.2.1 kd p0 (i - 1)) CF' ∧ lv = [(0, .ref 44), (6, .int (nI (l + i)))] ∧ hp = (CH mz tp tk rd hi sc pl dr (wPa T' CF' SN1 (24 + j) m (tra w h pl.1 m pl.2.2.2.2.2.2.2.2.2.1 kd p0 (i - 1)) (if i = K then oM ou else -2) (las l i)) wo rc)) (Q := fun r => ∃ T' CF', (∀ i', i' < K → T' (l + i') = nI (tra w h pl.1 m pl.2.2.2.2.2.2.2.2.2.1 kd p0 i').1) ∧ r = some (CH mz tp tk rd hi sc pl dr (wPa T' CF' SN1 (24 + j) m (tra w h pl.1 m pl.2.2.2.2.2.2.2.2.2.1 kd p0 (K - 1)) (oM ou) (las l K)) wo rc)) (t := K) (N := FU) (by have := FU_ge; omega) (fun i lv hp hiK hI => ?_) (fun lv hp hI => ?_) (lv := [(0, .ref 44), (6, .int (nI l))]) (hp := (CH mz tp tk rd hi sc pl dr (wPa T CF1 SN1 (24 + j) m p0 (-2) (-2)) wo rc)) ?_
  · obtain ⟨r, ⟨T', CF', hT', hr⟩, e⟩ := L
    exact ⟨T', CF', SN1, hT', e0.trans (e.trans hr)⟩
  · obtain ⟨T1, CF2, hT1, R2, rfl, rfl⟩ := hI
    have hlK : l + K ≤ du + 1 := by omega
    rw [if_neg (by omega : ¬ i = K)]
    have hcc := (hP i).1
    -- the step of this minute
    have hstep : ∃ CF3, CFR c (tra w h pl.1 m pl.2.2.2.2.2.2.2.2.2.1 kd p0 i) CF3 ∧ ∀ k, BX8_goTillDusk_30 k [(0, .ref 44), (6, .int (nI (l + i)))] [] (CH mz tp tk rd hi sc pl dr (wPa T1 CF2 SN1 (24 + j) m (tra w h pl.1 m pl.2.2.2.2.2.2.2.2.2.1 kd p0 (i - 1)) (-2) (las l i)) wo rc) = BX8_goTillDusk_67 k [(0, .ref 44), (6, .int (nI (l + i)))] [] (CH mz tp tk rd hi sc pl dr (wPa T1 CF3 SN1 (24 + j) m (tra w h pl.1 m pl.2.2.2.2.2.2.2.2.2.1 kd p0 i) (-2) (las l i)) wo rc) := by
      rcases Nat.eq_zero_or_pos i with rfl | hpos
      · refine ⟨CF2, R2, fun k => ?_⟩
        rw [qX8_goTillDusk_30a (hwj := hj), h1, if_lt (by omega) (by omega), if_neg (by omega), if_pos rfl, k4, if_le (by omega) (by omega), if_pos (by omega)]
      · obtain ⟨CF3, R3, e3⟩ := c_stepa (mz := mz) (tp := tp) (tk := tk) (rd := rd) (hi := hi) (sc := sc) (pl := pl) (dr := dr) (wo := wo) (rc := rc) (T := T1) (SN := SN1) (mo := m) (ou := -2) (la := las l i) hj H G (hP (i - 1)) R2 hk k1 hT3
        rw [hst, Nat.sub_add_cancel hpos] at R3 e3
        refine ⟨CF3, R3, fun k => ?_⟩
        rw [qX8_goTillDusk_30a (hwj := hj), h1, if_lt (by omega) (by omega), if_neg (by omega), if_pos rfl, k4, if_le (by omega) (by omega), if_neg (by omega), qX8_goTillDusk_64a (hwj := hj) (h := e3)]
    obtain ⟨CF3, R3, e3⟩ := hstep
    have hcl : (nI (l + i)).toNatClampNeg = l + i := nI_clamp (by omega)
    refine Or.inl ⟨_, _, ⟨upd T1 (l + i) (nI (tra w h pl.1 m pl.2.2.2.2.2.2.2.2.2.1 kd p0 i).1), CF3, ?_, ?_, rfl, rfl⟩, fun k => ?_⟩
    · intro i' hi'
      by_cases e : i' = i
      · rw [e, pk_us]
      · rw [pk_un (by omega)]; exact hT1 i' (by omega)
    · exact R3
    · rw [e3, qX8_goTillDusk_67a (hwj := hj), if_neg (nI_pos (by omega)), l201, if_le (by omega) (by omega), if_neg (by omega), if_neg (nI_in (by omega : l + i < 201) (by omega)), hcl, qX8_goTillDusk_93a (hwj := hj), qX8_goTillDusk_101a (hwj := hj) (h := c_gatea (by omega)), if_b2i, nI_1]
      have hla : las l (i + 1) = nI (l + i) := by unfold las; rw [if_neg (by omega)]; rfl
      rw [hla]
      have hno : i + 1 < K → tb pl.2.2.2.2.2.2.2.2.1 (tra w h pl.1 m pl.2.2.2.2.2.2.2.2.2.1 kd p0 i).1 = false := fun hlt => by
        rcases O with ⟨_, hK, _⟩ | ⟨_, _, hno, _⟩
        · omega
        · exact hno i hlt
      by_cases hlast : i + 1 = K
      · rw [if_pos hlast]
        rcases O with ⟨_, hK, _⟩ | ⟨_, _, _, ⟨hg, ho⟩ | ⟨hg, _, ho⟩⟩
        · omega
        · rw [← hlast] at hg ho
          have hg : tb pl.2.2.2.2.2.2.2.2.1 (tra w h pl.1 m pl.2.2.2.2.2.2.2.2.2.1 kd p0 i).1 = true := hg
          rw [hg, if_pos rfl, ho]
          rfl
        · rw [← hlast] at hg
          have hg : tb pl.2.2.2.2.2.2.2.2.1 (tra w h pl.1 m pl.2.2.2.2.2.2.2.2.2.1 kd p0 i).1 = false := hg
          rw [hg, if_neg (by decide), ho]
          rfl
      · rw [if_neg hlast, hno (by omega), if_neg (by decide)]
        rfl
  · obtain ⟨T1, CF2, hT1, R2, rfl, rfl⟩ := hI
    rw [if_pos rfl]
    refine ⟨_, ⟨T1, CF2, hT1, rfl⟩, fun k => ?_⟩
    rw [qX8_goTillDusk_30a (hwj := hj), h1, if_lt (by omega) (by omega)]
    by_cases hd : du < l + K
    · rw [if_pos hd]
    · rw [if_neg hd]
      rcases O with ⟨h5, h6, h7⟩ | ⟨_, _, _, ⟨hg, ho⟩ | ⟨hg, h8, ho⟩⟩
      · omega
      · rw [ho, show oM (some (l + K - 1)) = nI (l + K - 1) from rfl, if_neg (nI_m2 (by omega))]
      · omega
  · refine ⟨T, CF1, fun i' hi' => absurd hi' (Nat.not_lt_zero i'), R1, rfl, ?_⟩
    have : (if 0 = K then oM ou else -2) = (-2 : Int32) := by
      by_cases e : 0 = K
      · rw [if_pos e]
        rcases O with ⟨_, _, ho⟩ | ⟨h5, _⟩
        · rw [ho]; rfl
        · omega
      · rw [if_neg e]
    rw [this]
    rfl
end
section
variable {mz : MzS} {tp : TpS} {tk : TkS} {rd : RdS} {hi : HiS} {sc : ScS} {pl dr : PlS} {wo : WaS} {rc : Nat → Int32} {w h : Nat} {me : MeS}
theorem c_beginb {T CF SN : Nat → Int32} {pp q : Nat} {mo be : Int64} {ce fg sv ou la : Int32} (H : WH w h) (G : GrOK pl.1 w h) {j kd c f l s : Nat} {m : Int64} (W : WkJ pl me (w * h) j kd c f l) (NO : PlNo pl me (w * h)) (hm : Sub m (w * h)) (hs : s < 65537) : ∃ CF' SN', CFR c (ps0 c f ((s + j) % 65537)) CF' ∧ (kd = 3 → ∀ d, d < 48 → SN' d = tnz pl.1 m pl.2.2.2.2.2.2.2.2.2.1 d) ∧ EX8_begin [.ref 48, .ref 14, .int (nI j), .long m, .int (nI s)] (CH mz tp tk rd hi sc pl dr wo (wA T CF SN pp q mo be ce fg sv ou la) rc) = some (CH mz tp tk rd hi sc pl dr wo (wPb T CF' SN' (24 + j) m (ps0 c f ((s + j) % 65537)) ou la) rc) := by
  have hn := H.n
  obtain ⟨hj, hk, hc, hf, hl, ⟨k1, k2, k3, k4⟩, _⟩ := W
  have hR : CFR c (ps0 c f ((s + j) % 65537)) (if tb 0 c = true then CF else upd CF c (-1)) := by
    rw [tb_0, if_neg (by decide)]
    intro k hk48 hk2
    have hk2 : tb (0 ||| bitL (nI c)) k = true := hk2
    rw [tb_0b (by omega)] at hk2
    have e := of_decide_eq_true hk2
    rw [e, pk_us, if_pos rfl]
  have e1 : (nI s + nI j) - (nI s + nI j) / 65537 * 65537 = nI ((s + j) % 65537) := by
    rw [nI_add, show (65537 : Int32) = nI 65537 from rfl, pk_rem (by omega) (by omega) (by omega)]
  have e2 : EX8_begin [.ref 48, .ref 14, .int (nI j), .long m, .int (nI s)] (CH mz tp tk rd hi sc pl dr wo (wA T CF SN pp q mo be ce fg sv ou la) rc) = BX8_begin_66 [(0, .ref 48)] [.int (-1), .int (nI c), .ref 48] (CH mz tp tk rd hi sc pl dr wo (wA T CF SN 14 (24 + j) m 0 (nI c) (nI f) (nI ((s + j) % 65537)) ou la) rc) := by
    rw [eX8_begin_sb, qX8_begin_0b, qX8_begin_11b (hwj := hj) (h := e_walker _ _ _ _ _ _ _ _ _ _ _ hj), k2, k3, e1]
  rw [e2, qX8_begin_66b (hwj := hj) (h := c_enterb (by omega) _), k1]
  by_cases h3 : kd = 3
  · subst h3
    rw [if_pos (by decide)]
    have hn2 : EX3_hasNoise [.ref 14] (CH mz tp tk rd hi sc pl dr wo (wA T (if tb 0 c = true then CF else upd CF c (-1)) SN 14 (24 + j) m (0 ||| bitL (nI c)) (nI c) (nI f) (nI ((s + j) % 65537)) ou la) rc) = some (!decide (pl.2.2.2.2.2.2.2.2.2.1 = -2)) := by
      rw [eX3_hasNoise_s, qX3_hasNoise_0]
      by_cases e : pl.2.2.2.2.2.2.2.2.2.1 = -2
      · rw [if_pos e, decide_eq_true e]; rfl
      · rw [if_neg e, decide_eq_false e]; rfl
    rw [qX8_begin_95b (hwj := hj) (h := hn2), if_b2i]
    by_cases e : pl.2.2.2.2.2.2.2.2.2.1 = -2
    · rw [if_neg (by rw [decide_eq_true e]; decide)]
      obtain ⟨A, hA, eA⟩ := e_measure_b (mz := mz) (tp := tp) (tk := tk) (rd := rd) (hi := hi) (sc := sc) (pl := pl) (dr := dr) (wb := wA T (if tb 0 c = true then CF else upd CF c (-1)) SN 14 (24 + j) m (0 ||| bitL (nI c)) (nI c) (nI f) (nI ((s + j) % 65537)) ou la) (wa := wo) (rc := rc) H G hm 48
      refine ⟨_, A, hR, fun _ d hd => ?_, qX8_begin_117b (hwj := hj) (h := eA) ..⟩
      rw [hA d hd]
      unfold tnz
      rw [if_pos e]
      have : dst pl.1 m (bitL (nI 48) &&& m) d = none := (dst_none H G hm bit_in).mpr (fun k => by
        have hz : bitL (nI 48) &&& m = 0 := tb_ext (fun i _ => by
          rw [tb_and, tb_0, tb_bit 48 (by omega)]
          cases h5 : tb m i
          · simp
          · have := hm i h5
            have : ¬ i = 48 := by omega
            simp [this])
        rw [hz]
        cases h6 : tb (FR pl.1 m 0 k).1 d
        · rfl
        · obtain ⟨e5, h7⟩ := FR_down H G hm (fun i hi => by rw [tb_0] at hi; cases hi) h6 0 (Nat.zero_le k)
          have h7 : tb (0 : Int64) e5 = true := h7
          rw [tb_0] at h7
          cases h7)
      rw [this]
      rfl
    · rw [if_pos (by rw [decide_eq_false e]; rfl)]
      rcases NO.2 with e3 | ⟨nc, hnc, e3⟩
      · exact absurd e3 e
      · rw [e3]
        obtain ⟨A, hA, eA⟩ := e_measure_b (mz := mz) (tp := tp) (tk := tk) (rd := rd) (hi := hi) (sc := sc) (pl := pl) (dr := dr) (wb := wA T (if tb 0 c = true then CF else upd CF c (-1)) SN 14 (24 + j) m (0 ||| bitL (nI c)) (nI c) (nI f) (nI ((s + j) % 65537)) ou la) (wa := wo) (rc := rc) H G hm nc
        refine ⟨_, A, hR, fun _ d hd => ?_, qX8_begin_117b (hwj := hj) (h := eA) ..⟩
        rw [hA d hd]
        unfold tnz
        rw [if_neg (nI_m2 (by omega))]
  · rw [if_neg (by rw [l3, nI_eq (by omega) (by omega)]; exact h3)]
    exact ⟨_, SN, hR, fun e => absurd e h3, rfl⟩
theorem c_gateb {T CF SN : Nat → Int32} {q : Nat} {mo : Int64} {p : PS} {ou la : Int32} (hc : p.1 < 64) : EX8_isAtGate [.ref 48] (CH mz tp tk rd hi sc pl dr wo (wPb T CF SN q mo p ou la) rc) = some (tb pl.2.2.2.2.2.2.2.2.1 p.1) := by
  rw [eX8_isAtGate_sb, qX8_isAtGate_0b, qX8_isAtGate_11b (h := e_isIn _ _ hc), zb_b2i]
theorem c_gob {wx : WaS} (H : WH w h) (G : GrOK pl.1 w h) {j kd c f l s du K : Nat} {m : Int64} {ou : Option Nat} (W : WkJ pl me (w * h) j kd c f l) (NO : PlNo pl me (w * h)) (hm : Sub m (w * h)) (hs : s < 65537) (hdu : du ≤ 200) (h1 : pl.2.2.2.2.1 = nI du) (O : WKO l du pl.2.2.2.2.2.2.2.2.1 (tra w h pl.1 m pl.2.2.2.2.2.2.2.2.2.1 kd (ps0 c f ((s + j) % 65537))) K ou) : ∃ T' CF' SN', (∀ i, i < K → T' (l + i) = nI (tra w h pl.1 m pl.2.2.2.2.2.2.2.2.2.1 kd (ps0 c f ((s + j) % 65537)) i).1) ∧ EX8_goTillDusk [.ref 48, .ref 14, .int (nI j), .long m, .int (nI s)] (CH mz tp tk rd hi sc pl dr wo wx rc) = some (CH mz tp tk rd hi sc pl dr wo (wPb T' CF' SN' (24 + j) m (tra w h pl.1 m pl.2.2.2.2.2.2.2.2.2.1 kd (ps0 c f ((s + j) % 65537)) (K - 1)) (oM ou) (las l K)) rc) := by
  have hn := H.n
  obtain ⟨⟨T, CF, SN⟩, ⟨pp, q⟩, mo, be, ce, fg, sv, ou0, la⟩ := wx
  obtain ⟨CF1, SN1, R1, hS1, e1⟩ := c_beginb (mz := mz) (tp := tp) (tk := tk) (rd := rd) (hi := hi) (sc := sc) (pl := pl) (dr := dr) (wo := wo) (rc := rc) (T := T) (CF := CF) (SN := SN) (pp := pp) (q := q) (mo := mo) (be := be) (ce := ce) (fg := fg) (sv := sv) (ou := ou0) (la := la) H G W NO hm hs
  obtain ⟨hj, hk, hc, hf, hl, ⟨k1, k2, k3, k4⟩, _⟩ := id W
  have e0 : EX8_goTillDusk [.ref 48, .ref 14, .int (nI j), .long m, .int (nI s)] (CH mz tp tk rd hi sc pl dr wo (wA T CF SN pp q mo be ce fg sv ou0 la) rc) = lp BX8_goTillDusk_30 FU [(0, .ref 48), (6, .int (nI l))] [] (CH mz tp tk rd hi sc pl dr wo (wPb T CF1 SN1 (24 + j) m (ps0 c f ((s + j) % 65537)) (-2) (-2)) rc) := by
    rw [eX8_goTillDusk_sb, qX8_goTillDusk_0b, qX8_goTillDusk_6b (hwj := hj) (h := e1), k4]
  have P0 : PSOK (w * h) c (ps0 c f ((s + j) % 65537)) := ps0_ok hn.1 hc hf (Nat.mod_lt _ (by omega))
  have hT3 : kd = 3 → TNok SN1 := fun e => by
    intro k hk
    rw [hS1 e k hk]
    exact tnz_ok H G hm NO.2 k hk
  generalize ps0 c f ((s + j) % 65537) = p0 at *
  have hP := fun i => tra_ok (g := pl.1) (m := m) (no := pl.2.2.2.2.2.2.2.2.2.1) (kd := kd) H P0 i
  have hst : ∀ i, stp w h pl.1 m pl.2.2.2.2.2.2.2.2.2.1 SN1 kd (tra w h pl.1 m pl.2.2.2.2.2.2.2.2.2.1 kd p0 i) = tra w h pl.1 m pl.2.2.2.2.2.2.2.2.2.1 kd p0 (i + 1) := fun i => by
    rw [tra_s]
    exact stp_cong H (hP i).1 hS1
  have hbd := WKO_bd O
  have L := lp_inv (B := BX8_goTillDusk_30) (fun i lv hp => ∃ T' CF', (∀ i', i' < i → T' (l + i') = nI (tra w h pl.1 m pl.2.2.2.2.2.2.2.2.2.1 kd p0 i').1) ∧ CFR c (tra w h pl.1 m pl.2.2.2.2.2.2.2.2.2.1 kd p0 (i - 1)) CF' ∧ lv = [(0, .ref 48), (6, .int (nI (l + i)))] ∧ hp = (CH mz tp tk rd hi sc pl dr wo (wPb T' CF' SN1 (24 + j) m (tra w h pl.1 m pl.2.2.2.2.2.2.2.2.2.1 kd p0 (i - 1)) (if i = K then oM ou else -2) (las l i)) rc)) (Q := fun r => ∃ T' CF', (∀ i', i' < K → T' (l + i') = nI (tra w h pl.1 m pl.2.2.2.2.2.2.2.2.2.1 kd p0 i').1) ∧ r = some (CH mz tp tk rd hi sc pl dr wo (wPb T' CF' SN1 (24 + j) m (tra w h pl.1 m pl.2.2.2.2.2.2.2.2.2.1 kd p0 (K - 1)) (oM ou) (las l K)) rc)) (t := K) (N := FU) (by have := FU_ge; omega) (fun i lv hp hiK hI => ?_) (fun lv hp hI => ?_) (lv := [(0, .ref 48), (6, .int (nI l))]) (hp := (CH mz tp tk rd hi sc pl dr wo (wPb T CF1 SN1 (24 + j) m p0 (-2) (-2)) rc)) ?_
  · obtain ⟨r, ⟨T', CF', hT', hr⟩, e⟩ := L
    exact ⟨T', CF', SN1, hT', e0.trans (e.trans hr)⟩
  · obtain ⟨T1, CF2, hT1, R2, rfl, rfl⟩ := hI
    have hlK : l + K ≤ du + 1 := by omega
    rw [if_neg (by omega : ¬ i = K)]
    have hcc := (hP i).1
    -- the step of this minute
    have hstep : ∃ CF3, CFR c (tra w h pl.1 m pl.2.2.2.2.2.2.2.2.2.1 kd p0 i) CF3 ∧ ∀ k, BX8_goTillDusk_30 k [(0, .ref 48), (6, .int (nI (l + i)))] [] (CH mz tp tk rd hi sc pl dr wo (wPb T1 CF2 SN1 (24 + j) m (tra w h pl.1 m pl.2.2.2.2.2.2.2.2.2.1 kd p0 (i - 1)) (-2) (las l i)) rc) = BX8_goTillDusk_67 k [(0, .ref 48), (6, .int (nI (l + i)))] [] (CH mz tp tk rd hi sc pl dr wo (wPb T1 CF3 SN1 (24 + j) m (tra w h pl.1 m pl.2.2.2.2.2.2.2.2.2.1 kd p0 i) (-2) (las l i)) rc) := by
      rcases Nat.eq_zero_or_pos i with rfl | hpos
      · refine ⟨CF2, R2, fun k => ?_⟩
        rw [qX8_goTillDusk_30b (hwj := hj), h1, if_lt (by omega) (by omega), if_neg (by omega), if_pos rfl, k4, if_le (by omega) (by omega), if_pos (by omega)]
      · obtain ⟨CF3, R3, e3⟩ := c_stepb (mz := mz) (tp := tp) (tk := tk) (rd := rd) (hi := hi) (sc := sc) (pl := pl) (dr := dr) (wo := wo) (rc := rc) (T := T1) (SN := SN1) (mo := m) (ou := -2) (la := las l i) hj H G (hP (i - 1)) R2 hk k1 hT3
        rw [hst, Nat.sub_add_cancel hpos] at R3 e3
        refine ⟨CF3, R3, fun k => ?_⟩
        rw [qX8_goTillDusk_30b (hwj := hj), h1, if_lt (by omega) (by omega), if_neg (by omega), if_pos rfl, k4, if_le (by omega) (by omega), if_neg (by omega), qX8_goTillDusk_64b (hwj := hj) (h := e3)]
    obtain ⟨CF3, R3, e3⟩ := hstep
    have hcl : (nI (l + i)).toNatClampNeg = l + i := nI_clamp (by omega)
    refine Or.inl ⟨_, _, ⟨upd T1 (l + i) (nI (tra w h pl.1 m pl.2.2.2.2.2.2.2.2.2.1 kd p0 i).1), CF3, ?_, ?_, rfl, rfl⟩, fun k => ?_⟩
    · intro i' hi'
      by_cases e : i' = i
      · rw [e, pk_us]
      · rw [pk_un (by omega)]; exact hT1 i' (by omega)
    · exact R3
    · rw [e3, qX8_goTillDusk_67b (hwj := hj), if_neg (nI_pos (by omega)), l201, if_le (by omega) (by omega), if_neg (by omega), if_neg (nI_in (by omega : l + i < 201) (by omega)), hcl, qX8_goTillDusk_93b (hwj := hj), qX8_goTillDusk_101b (hwj := hj) (h := c_gateb (by omega)), if_b2i, nI_1]
      have hla : las l (i + 1) = nI (l + i) := by unfold las; rw [if_neg (by omega)]; rfl
      rw [hla]
      have hno : i + 1 < K → tb pl.2.2.2.2.2.2.2.2.1 (tra w h pl.1 m pl.2.2.2.2.2.2.2.2.2.1 kd p0 i).1 = false := fun hlt => by
        rcases O with ⟨_, hK, _⟩ | ⟨_, _, hno, _⟩
        · omega
        · exact hno i hlt
      by_cases hlast : i + 1 = K
      · rw [if_pos hlast]
        rcases O with ⟨_, hK, _⟩ | ⟨_, _, _, ⟨hg, ho⟩ | ⟨hg, _, ho⟩⟩
        · omega
        · rw [← hlast] at hg ho
          have hg : tb pl.2.2.2.2.2.2.2.2.1 (tra w h pl.1 m pl.2.2.2.2.2.2.2.2.2.1 kd p0 i).1 = true := hg
          rw [hg, if_pos rfl, ho]
          rfl
        · rw [← hlast] at hg
          have hg : tb pl.2.2.2.2.2.2.2.2.1 (tra w h pl.1 m pl.2.2.2.2.2.2.2.2.2.1 kd p0 i).1 = false := hg
          rw [hg, if_neg (by decide), ho]
          rfl
      · rw [if_neg hlast, hno (by omega), if_neg (by decide)]
        rfl
  · obtain ⟨T1, CF2, hT1, R2, rfl, rfl⟩ := hI
    rw [if_pos rfl]
    refine ⟨_, ⟨T1, CF2, hT1, rfl⟩, fun k => ?_⟩
    rw [qX8_goTillDusk_30b (hwj := hj), h1, if_lt (by omega) (by omega)]
    by_cases hd : du < l + K
    · rw [if_pos hd]
    · rw [if_neg hd]
      rcases O with ⟨h5, h6, h7⟩ | ⟨_, _, _, ⟨hg, ho⟩ | ⟨hg, h8, ho⟩⟩
      · omega
      · rw [ho, show oM (some (l + K - 1)) = nI (l + K - 1) from rfl, if_neg (nI_m2 (by omega))]
      · omega
  · refine ⟨T, CF1, fun i' hi' => absurd hi' (Nat.not_lt_zero i'), R1, rfl, ?_⟩
    have : (if 0 = K then oM ou else -2) = (-2 : Int32) := by
      by_cases e : 0 = K
      · rw [if_pos e]
        rcases O with ⟨_, _, ho⟩ | ⟨h5, _⟩
        · rw [ho]; rfl
        · omega
      · rw [if_neg e]
    rw [this]
    rfl
end
