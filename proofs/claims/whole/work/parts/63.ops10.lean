/-! ever, ring. -/
theorem if_2le {α : Type} {a : Nat} (ha : a < 2 ^ 31) (x y : α) : (if (2 : Int32) ≤ nI a then x else y) = (if 2 ≤ a then x else y) := if_le (a := 2) (by omega) ha x y
section
variable {mz : MzS} {tp : TpS} {tk : TkS} {rd : RdS} {hi : HiS} {sc : ScS} {pl dr : PlS} {wo : WaS} {rc : Nat → Int32} {w h : Nat} {m : Int64} {p0 : PS} {T CF SN : Nat → Int32} {j kd st : Nat} {ou la : Int32}
theorem c_isOut (hj : j < 5) (H : WH w h) (G : GrOK pl.1 w h) (P0 : PSOK (w * h) st p0) (R : CFR st p0 CF) (hk : kd < 5) (hk1 : (pl.2.2.2.1 j).2.1 = nI kd) (hT : kd = 3 → TNok SN) (hS : kd = 3 → ∀ d, d < 48 → SN d = tnz pl.1 m pl.2.2.2.2.2.2.2.2.2.1 d) {t : Nat} (ht : t ≤ 192) (hno : ∀ i, i < t → tb pl.2.2.2.2.2.2.2.2.1 (tra w h pl.1 m pl.2.2.2.2.2.2.2.2.2.1 kd p0 i).1 = false) (hend : t = 192 ∨ tb pl.2.2.2.2.2.2.2.2.1 (tra w h pl.1 m pl.2.2.2.2.2.2.2.2.2.1 kd p0 t).1 = true) : ∃ CF', CFR st (tra w h pl.1 m pl.2.2.2.2.2.2.2.2.2.1 kd p0 t) CF' ∧ EX8_isOutSometime [.ref 44] (CH mz tp tk rd hi sc pl dr (wPa T CF SN (24 + j) m p0 ou la) wo rc) = some (tb pl.2.2.2.2.2.2.2.2.1 (tra w h pl.1 m pl.2.2.2.2.2.2.2.2.2.1 kd p0 t).1, CH mz tp tk rd hi sc pl dr (wPa T CF' SN (24 + j) m (tra w h pl.1 m pl.2.2.2.2.2.2.2.2.2.1 kd p0 t) ou la) wo rc) := by
  have hn := H.n
  have hP := fun i => tra_ok (g := pl.1) (m := m) (no := pl.2.2.2.2.2.2.2.2.2.1) (kd := kd) H P0 i
  have hst : ∀ i, stp w h pl.1 m pl.2.2.2.2.2.2.2.2.2.1 SN kd (tra w h pl.1 m pl.2.2.2.2.2.2.2.2.2.1 kd p0 i) = tra w h pl.1 m pl.2.2.2.2.2.2.2.2.2.1 kd p0 (i + 1) := fun i => by
    rw [tra_s]
    exact stp_cong H (hP i).1 hS
  rw [eX8_isOutSometime_sa, qX8_isOutSometime_0a]
  have L := lp_inv (B := BX8_isOutSometime_2) (fun i lv hp => ∃ CF', CFR st (tra w h pl.1 m pl.2.2.2.2.2.2.2.2.2.1 kd p0 i) CF' ∧ lv = [(0, .ref 44), (1, .int (nI i))] ∧ hp = CH mz tp tk rd hi sc pl dr (wPa T CF' SN (24 + j) m (tra w h pl.1 m pl.2.2.2.2.2.2.2.2.2.1 kd p0 i) ou la) wo rc) (Q := fun r => ∃ CF', CFR st (tra w h pl.1 m pl.2.2.2.2.2.2.2.2.2.1 kd p0 t) CF' ∧ r = some (tb pl.2.2.2.2.2.2.2.2.1 (tra w h pl.1 m pl.2.2.2.2.2.2.2.2.2.1 kd p0 t).1, CH mz tp tk rd hi sc pl dr (wPa T CF' SN (24 + j) m (tra w h pl.1 m pl.2.2.2.2.2.2.2.2.2.1 kd p0 t) ou la) wo rc)) (t := t) (N := FU) (by have := FU_ge; omega) (fun i lv hp hit hI => ?_) (fun lv hp hI => ?_) (lv := [(0, .ref 44), (1, .int 0)]) (hp := CH mz tp tk rd hi sc pl dr (wPa T CF SN (24 + j) m p0 ou la) wo rc) ⟨CF, R, rfl, rfl⟩
  · obtain ⟨r, ⟨CF', R', hr⟩, e⟩ := L
    exact ⟨CF', R', e.trans hr⟩
  · obtain ⟨CF2, R2, rfl, rfl⟩ := hI
    have hc := (hP i).1
    obtain ⟨CF3, R3, e3⟩ := c_stepa (mz := mz) (tp := tp) (tk := tk) (rd := rd) (hi := hi) (sc := sc) (pl := pl) (dr := dr) (wo := wo) (rc := rc) (T := T) (SN := SN) (mo := m) (ou := ou) (la := la) hj H G (hP i) R2 hk hk1 hT
    rw [hst] at R3 e3
    refine Or.inl ⟨_, _, ⟨CF3, R3, rfl, rfl⟩, fun k => ?_⟩
    rw [qX8_isOutSometime_2a, l192, if_le (by omega) (by omega), if_neg (by omega), qX8_isOutSometime_10a (h := c_gatea (by omega)), if_b2i, hno i hit, if_neg (by decide), ← nI_1]
    exact qX8_isOutSometime_17a (h := e3) ..
  · obtain ⟨CF2, R2, rfl, rfl⟩ := hI
    have hc := (hP t).1
    have e27 : BX8_isOutSometime_27 [] [.ref 44] (CH mz tp tk rd hi sc pl dr (wPa T CF2 SN (24 + j) m (tra w h pl.1 m pl.2.2.2.2.2.2.2.2.2.1 kd p0 t) ou la) wo rc) = some (tb pl.2.2.2.2.2.2.2.2.1 (tra w h pl.1 m pl.2.2.2.2.2.2.2.2.2.1 kd p0 t).1, CH mz tp tk rd hi sc pl dr (wPa T CF2 SN (24 + j) m (tra w h pl.1 m pl.2.2.2.2.2.2.2.2.2.1 kd p0 t) ou la) wo rc) := by
      rw [qX8_isOutSometime_27a (h := c_gatea (by omega)), zb_b2i]
      rfl
    refine ⟨_, ⟨CF2, R2, rfl⟩, fun k => ?_⟩
    rw [qX8_isOutSometime_2a, l192, if_le (by omega) (by omega)]
    by_cases h5 : 192 ≤ t
    · rw [if_pos h5]; exact e27
    · rw [if_neg h5, qX8_isOutSometime_10a (h := c_gatea (by omega)), if_b2i]
      have hg : tb pl.2.2.2.2.2.2.2.2.1 (tra w h pl.1 m pl.2.2.2.2.2.2.2.2.2.1 kd p0 t).1 = true := by
        rcases hend with h6 | h6
        · omega
        · exact h6
      rw [if_pos hg]
      exact e27
theorem c_ringLen (hj : j < 5) (H : WH w h) (G : GrOK pl.1 w h) (P0 : PSOK (w * h) st p0) (hk : kd < 5) (hk1 : (pl.2.2.2.1 j).2.1 = nI kd) (hT : kd = 3 → TNok SN) (hS : kd = 3 → ∀ d, d < 48 → SN d = tnz pl.1 m pl.2.2.2.2.2.2.2.2.2.1 d) {a q : Nat} (R : CFR st (tra w h pl.1 m pl.2.2.2.2.2.2.2.2.2.1 kd p0 a) CF) (hq0 : 0 < q) (hq : q ≤ 192) (hno : ∀ i, 0 < i → i < q → kyp (tra w h pl.1 m pl.2.2.2.2.2.2.2.2.2.1 kd p0 (a + i)) ≠ kyp (tra w h pl.1 m pl.2.2.2.2.2.2.2.2.2.1 kd p0 a)) (hend : q = 192 ∨ kyp (tra w h pl.1 m pl.2.2.2.2.2.2.2.2.2.1 kd p0 (a + q)) = kyp (tra w h pl.1 m pl.2.2.2.2.2.2.2.2.2.1 kd p0 a)) : ∃ wa2, EX8_ringLength [.ref 44] (CH mz tp tk rd hi sc pl dr (wPa T CF SN (24 + j) m (tra w h pl.1 m pl.2.2.2.2.2.2.2.2.2.1 kd p0 a) ou la) wo rc) = some (nI q, CH mz tp tk rd hi sc pl dr wa2 wo rc) := by
  have hn := H.n
  have hP := fun i => tra_ok (g := pl.1) (m := m) (no := pl.2.2.2.2.2.2.2.2.2.1) (kd := kd) H P0 i
  have hst : ∀ i, stp w h pl.1 m pl.2.2.2.2.2.2.2.2.2.1 SN kd (tra w h pl.1 m pl.2.2.2.2.2.2.2.2.2.1 kd p0 i) = tra w h pl.1 m pl.2.2.2.2.2.2.2.2.2.1 kd p0 (i + 1) := fun i => by
    rw [tra_s]
    exact stp_cong H (hP i).1 hS
  have hca := hP a
  have hsame : ∀ {α : Type} (i : Nat) (x y : α), (if nI (tra w h pl.1 m pl.2.2.2.2.2.2.2.2.2.1 kd p0 i).1 = nI (tra w h pl.1 m pl.2.2.2.2.2.2.2.2.2.1 kd p0 a).1 then (if nI (tra w h pl.1 m pl.2.2.2.2.2.2.2.2.2.1 kd p0 i).2.1 = nI (tra w h pl.1 m pl.2.2.2.2.2.2.2.2.2.1 kd p0 a).2.1 then x else y) else y) = (if kyp (tra w h pl.1 m pl.2.2.2.2.2.2.2.2.2.1 kd p0 i) = kyp (tra w h pl.1 m pl.2.2.2.2.2.2.2.2.2.1 kd p0 a) then x else y) := fun i x y => by
    have h1 := (hP i).1
    have h2 := (hP i).2.1
    have h3 := hca.1
    have h4 := hca.2.1
    rw [if_eq (by omega) (by omega), if_eq (by omega) (by omega)]
    by_cases e1 : (tra w h pl.1 m pl.2.2.2.2.2.2.2.2.2.1 kd p0 i).1 = (tra w h pl.1 m pl.2.2.2.2.2.2.2.2.2.1 kd p0 a).1
    · rw [if_pos e1]
      by_cases e2 : (tra w h pl.1 m pl.2.2.2.2.2.2.2.2.2.1 kd p0 i).2.1 = (tra w h pl.1 m pl.2.2.2.2.2.2.2.2.2.1 kd p0 a).2.1
      · rw [if_pos e2, if_pos (by unfold kyp; omega)]
      · rw [if_neg e2, if_neg (by unfold kyp; omega)]
    · rw [if_neg e1, if_neg (by unfold kyp; omega)]
  rw [eX8_ringLength_sa, qX8_ringLength_0a]
  have L := lp_inv (B := BX8_ringLength_12) (fun i lv hp => ∃ CF', CFR st (tra w h pl.1 m pl.2.2.2.2.2.2.2.2.2.1 kd p0 (a + i)) CF' ∧ lv = [(0, .ref 44), (1, .int (nI (tra w h pl.1 m pl.2.2.2.2.2.2.2.2.2.1 kd p0 a).1)), (2, .int (nI (tra w h pl.1 m pl.2.2.2.2.2.2.2.2.2.1 kd p0 a).2.1)), (3, .int (nI (i + 1)))] ∧ hp = CH mz tp tk rd hi sc pl dr (wPa T CF' SN (24 + j) m (tra w h pl.1 m pl.2.2.2.2.2.2.2.2.2.1 kd p0 (a + i)) ou la) wo rc) (Q := fun r => ∃ wa2, r = some (nI q, CH mz tp tk rd hi sc pl dr wa2 wo rc)) (t := q - 1) (N := FU) (by have := FU_ge; omega) (fun i lv hp hit hI => ?_) (fun lv hp hI => ?_) (lv := [(0, .ref 44), (1, .int (nI (tra w h pl.1 m pl.2.2.2.2.2.2.2.2.2.1 kd p0 a).1)), (2, .int (nI (tra w h pl.1 m pl.2.2.2.2.2.2.2.2.2.1 kd p0 a).2.1)), (3, .int 1)]) (hp := CH mz tp tk rd hi sc pl dr (wPa T CF SN (24 + j) m (tra w h pl.1 m pl.2.2.2.2.2.2.2.2.2.1 kd p0 a) ou la) wo rc) ⟨CF, R, rfl, rfl⟩
  · obtain ⟨r, ⟨wa2, hr⟩, e⟩ := L
    exact ⟨wa2, e.trans hr⟩
  · obtain ⟨CF2, R2, rfl, rfl⟩ := hI
    obtain ⟨CF3, R3, e3⟩ := c_stepa (mz := mz) (tp := tp) (tk := tk) (rd := rd) (hi := hi) (sc := sc) (pl := pl) (dr := dr) (wo := wo) (rc := rc) (T := T) (SN := SN) (mo := m) (ou := ou) (la := la) hj H G (hP (a + i)) R2 hk hk1 hT
    rw [hst] at R3 e3
    refine Or.inl ⟨_, _, ⟨CF3, R3, rfl, rfl⟩, fun k => ?_⟩
    rw [qX8_ringLength_12a, l192, if_le (by omega) (by omega), if_neg (by omega), qX8_ringLength_20a (h := e3), nI_1, hsame, if_neg (show kyp (tra w h pl.1 m pl.2.2.2.2.2.2.2.2.2.1 kd p0 (a + i + 1)) ≠ kyp (tra w h pl.1 m pl.2.2.2.2.2.2.2.2.2.1 kd p0 a) from hno (i + 1) (by omega) (by omega))]
    rfl
  · obtain ⟨CF2, R2, rfl, rfl⟩ := hI
    by_cases h5 : q = 192
    · refine ⟨some (192, CH mz tp tk rd hi sc pl dr (wPa T CF2 SN (24 + j) m (tra w h pl.1 m pl.2.2.2.2.2.2.2.2.2.1 kd p0 (a + (q - 1))) ou la) wo rc), ⟨_, by rw [h5]; rfl⟩, fun k => ?_⟩
      rw [qX8_ringLength_12a, l192, if_le (by omega) (by omega), if_pos (by omega)]
    · obtain ⟨CF3, R3, e3⟩ := c_stepa (mz := mz) (tp := tp) (tk := tk) (rd := rd) (hi := hi) (sc := sc) (pl := pl) (dr := dr) (wo := wo) (rc := rc) (T := T) (SN := SN) (mo := m) (ou := ou) (la := la) hj H G (hP (a + (q - 1))) R2 hk hk1 hT
      rw [hst] at R3 e3
      have e4 : a + (q - 1) + 1 = a + q := by omega
      rw [e4] at e3
      refine ⟨_, ⟨wPa T CF3 SN (24 + j) m (tra w h pl.1 m pl.2.2.2.2.2.2.2.2.2.1 kd p0 (a + q)) ou la, rfl⟩, fun k => ?_⟩
      rw [qX8_ringLength_12a, l192, if_le (by omega) (by omega), if_neg (by omega), qX8_ringLength_20a (h := e3), hsame, if_pos, show q - 1 + 1 = q by omega]
      rcases hend with h6 | h6
      · exact absurd h6 h5
      · exact h6
end
section
variable {th mtr wh ta mfa : Int32} {mo : Int64} {sd ac mk : Int32} {mq : MsS} {ma : MaS} {me : MeS} {rdv : Value} {ce fg ow ou sk bp : Int32} {F Q CF TN RW OR BE : Nat → Int32} {w h : Nat} {g : GrS} {pl : PlS}
theorem m_ringOf (H : WH w h) (G : GrOK g w h) (h1 : me.1.1 = nI w) (h2 : me.1.2.1 = nI h) {j kd c f l s : Nat} (W : WkJ pl me (w * h) j kd c f l) (NO : me.1.2.2.2.2.2.2.2.2.2.2.2 = -2 ∨ ∃ c, c < w * h ∧ me.1.2.2.2.2.2.2.2.2.2.2.2 = nI c) (hm : Sub mo (w * h)) (hs : s < 65537) (hsd : sd = nI s) {t : Nat} {v : Int32} (ht : t ≤ 197) (hno : ∀ i, i < t → tb me.2.1.2.2.2.2.2 (tra w h g mo me.1.2.2.2.2.2.2.2.2.2.2.2 kd (ps0 c f ((s + j) % 65537)) i).1 = false ∧ (kd < 2 → ∀ i', i' < i → kyp (tra w h g mo me.1.2.2.2.2.2.2.2.2.2.2.2 kd (ps0 c f ((s + j) % 65537)) i') ≠ kyp (tra w h g mo me.1.2.2.2.2.2.2.2.2.2.2.2 kd (ps0 c f ((s + j) % 65537)) i))) (hend : (t ≤ 196 ∧ tb me.2.1.2.2.2.2.2 (tra w h g mo me.1.2.2.2.2.2.2.2.2.2.2.2 kd (ps0 c f ((s + j) % 65537)) t).1 = true ∧ v = 0) ∨ (t ≤ 196 ∧ tb me.2.1.2.2.2.2.2 (tra w h g mo me.1.2.2.2.2.2.2.2.2.2.2.2 kd (ps0 c f ((s + j) % 65537)) t).1 = false ∧ kd < 2 ∧ ∃ i, i < t ∧ kyp (tra w h g mo me.1.2.2.2.2.2.2.2.2.2.2.2 kd (ps0 c f ((s + j) % 65537)) i) = kyp (tra w h g mo me.1.2.2.2.2.2.2.2.2.2.2.2 kd (ps0 c f ((s + j) % 65537)) t) ∧ v = nI (t - i)) ∨ (t = 197 ∧ 2 ≤ kd ∧ v = 1)) : ∃ ce2 fg2 ow2 F2 Q2 CF2 TN2 BE2, EX12_ringOf [.ref 0, .int (nI j)] (M1 (th, mtr, wh, ta, mfa, mo, sd, ac, mk) (MQw mq ce fg ow ou sk bp) (MAw ma F Q CF TN RW OR BE) me rdv) = some (v, M1 (th, mtr, wh, ta, mfa, mo, sd, ac, mk) (MQw mq ce2 fg2 ow2 ou sk bp) (MAw ma F2 Q2 CF2 TN2 RW OR BE2) me rdv) := by
  have hn := H.n
  obtain ⟨F1, Q1, CF1, TN1, R1, hT1, e1⟩ := m_sets (th := th) (mtr := mtr) (wh := wh) (ta := ta) (mfa := mfa) (mo := mo) (sd := sd) (ac := ac) (mk := mk) (mq := mq) (ma := ma) (rdv := rdv) (ce := ce) (fg := fg) (ow := ow) (ou := ou) (sk := sk) (bp := bp) (F := F) (Q := Q) (CF := CF) (TN := TN) (RW := RW) (OR := OR) (BE := BE) H G h1 h2 W NO hm hs hsd
  obtain ⟨hj, hk, hc, hf, hl, _, k1, k2, k3, k4⟩ := id W
  have hin := nI_in hj (by omega)
  have hcj : (nI j).toNatClampNeg = j := nI_clamp (by omega)
  have P0 : PSOK (w * h) c (ps0 c f ((s + j) % 65537)) := ps0_ok hn.1 hc hf (Nat.mod_lt _ (by omega))
  have hTN : kd = 3 → TNok TN1 := fun e => by
    intro k hk
    rw [hT1 e k hk]
    exact tnz_ok H G hm NO k hk
  have e0 : EX12_ringOf [.ref 0, .int (nI j)] (M1 (th, mtr, wh, ta, mfa, mo, sd, ac, mk) (MQw mq ce fg ow ou sk bp) (MAw ma F Q CF TN RW OR BE) me rdv) = lp BX12_ringOf_42 FU [(0, .ref 0), (1, .int (nI j)), (2, .int (nI kd)), (3, .int 0)] [] (M1 (th, mtr, wh, ta, mfa, mo, sd, ac, mk) (MQw mq (nI (ps0 c f ((s + j) % 65537)).1) (nI (ps0 c f ((s + j) % 65537)).2.1) (nI (ps0 c f ((s + j) % 65537)).2.2.1) ou sk bp) (MAw ma F1 Q1 CF1 TN1 RW OR (fun k => if k < 192 then (-2) else BE k)) me rdv) := by
    rw [eX12_ringOf_s_w, qX12_ringOf_0_w, qX12_ringOf_2_w (h := e1)]
    refine lp_fill (fun i => [(0, .ref 0), (1, .int (nI j)), (2, .int (nI i))]) (fun A => (M1 (th, mtr, wh, ta, mfa, mo, sd, ac, mk) (MQw mq (nI c) (nI f) (nI ((s + j) % 65537)) ou sk bp) (MAw ma F1 Q1 CF1 TN1 RW OR A) me rdv)) (fun _ => -2) (t := 192) (by have := FU_ge; omega) (fun i hi k A => ?_) (fun k => ?_)
    · rw [qX12_ringOf_7_w, l192, if_le (by omega) (by omega), if_neg (by omega), if_neg (nI_in hi (by omega)), nI_clamp (by omega), nI_1]
    · rw [qX12_ringOf_7_w, l192, if_le (by omega) (by omega), if_pos (by omega), if_neg hin, hcj, k1]
      rfl
  generalize ps0 c f ((s + j) % 65537) = p0 at *
  have hP := fun i => tra_ok (g := g) (m := mo) (no := me.1.2.2.2.2.2.2.2.2.2.2.2) (kd := kd) H P0 i
  have hst : ∀ i, stp w h g mo me.1.2.2.2.2.2.2.2.2.2.2.2 TN1 kd (tra w h g mo me.1.2.2.2.2.2.2.2.2.2.2.2 kd p0 i) = tra w h g mo me.1.2.2.2.2.2.2.2.2.2.2.2 kd p0 (i + 1) := fun i => by
    rw [tra_s]
    exact stp_cong H (hP i).1 hT1
  have hky : ∀ i, 4 * nI (tra w h g mo me.1.2.2.2.2.2.2.2.2.2.2.2 kd p0 i).1 + nI (tra w h g mo me.1.2.2.2.2.2.2.2.2.2.2.2 kd p0 i).2.1 = nI (kyp (tra w h g mo me.1.2.2.2.2.2.2.2.2.2.2.2 kd p0 i)) ∧ kyp (tra w h g mo me.1.2.2.2.2.2.2.2.2.2.2.2 kd p0 i) < 192 := fun i => by
    have a1 := (hP i).1
    have a2 := (hP i).2.1
    refine ⟨?_, by unfold kyp; omega⟩
    rw [l4, pk_mul, nI_add]
  have L := lp_inv (B := BX12_ringOf_42) (fun i lv hp => ∃ CF' BE', (kd = 2 → MFR (tra w h g mo me.1.2.2.2.2.2.2.2.2.2.2.2 kd p0 i) CF') ∧ (kd < 2 → ∀ k, k < 192 → (BE' k = -2 ∧ ∀ i', i' < i → kyp (tra w h g mo me.1.2.2.2.2.2.2.2.2.2.2.2 kd p0 i') ≠ k) ∨ ∃ i', i' < i ∧ kyp (tra w h g mo me.1.2.2.2.2.2.2.2.2.2.2.2 kd p0 i') = k ∧ BE' k = nI i') ∧ lv = [(0, .ref 0), (1, .int (nI j)), (2, .int (nI kd)), (3, .int (nI i))] ∧ hp = (M1 (th, mtr, wh, ta, mfa, mo, sd, ac, mk) (MQw mq (nI (tra w h g mo me.1.2.2.2.2.2.2.2.2.2.2.2 kd p0 i).1) (nI (tra w h g mo me.1.2.2.2.2.2.2.2.2.2.2.2 kd p0 i).2.1) (nI (tra w h g mo me.1.2.2.2.2.2.2.2.2.2.2.2 kd p0 i).2.2.1) ou sk bp) (MAw ma F1 Q1 CF' TN1 RW OR BE') me rdv)) (Q := fun r => ∃ ce2 fg2 ow2 CF2 BE2, r = some (v, M1 (th, mtr, wh, ta, mfa, mo, sd, ac, mk) (MQw mq ce2 fg2 ow2 ou sk bp) (MAw ma F1 Q1 CF2 TN1 RW OR BE2) me rdv)) (t := t) (N := FU) (by have := FU_ge; omega) (fun i lv hp hit hI => ?_) (fun lv hp hI => ?_) (lv := [(0, .ref 0), (1, .int (nI j)), (2, .int (nI kd)), (3, .int 0)]) (hp := (M1 (th, mtr, wh, ta, mfa, mo, sd, ac, mk) (MQw mq (nI p0.1) (nI p0.2.1) (nI p0.2.2.1) ou sk bp) (MAw ma F1 Q1 CF1 TN1 RW OR (fun k => if k < 192 then (-2) else BE k)) me rdv)) ⟨CF1, (fun k => if k < 192 then (-2) else BE k), fun _ => R1, fun _ k hk => Or.inl ⟨if_pos hk, fun i' h5 => absurd h5 (Nat.not_lt_zero i')⟩, rfl, rfl⟩
  · obtain ⟨r, ⟨a1, a2, a3, a4, a5, hr⟩, e⟩ := L
    exact ⟨a1, a2, a3, F1, Q1, a4, TN1, a5, e0.trans (e.trans hr)⟩
  · obtain ⟨CF2, BE2, R2, hBE, rfl, rfl⟩ := hI
    have hcc := (hP i).1
    obtain ⟨ky1, ky2⟩ := hky i
    have hin2 := nI_in ky2 (by omega)
    obtain ⟨hg, hrep⟩ := hno i hit
    obtain ⟨CF3, R3, e3⟩ := m_goes (th := th) (mtr := mtr) (wh := wh) (ta := ta) (mfa := mfa) (mo := mo) (sd := sd) (ac := ac) (mk := mk) (mq := mq) (ma := ma) (rdv := rdv) (ou := ou) (sk := sk) (bp := bp) (F := F1) (Q := Q1) (CF := CF2) (TN := TN1) (RW := RW) (OR := OR) (BE := upd BE2 (kyp (tra w h g mo me.1.2.2.2.2.2.2.2.2.2.2.2 kd p0 i)) (nI i)) (g := g) hj H G h1 h2 (hP i) R2 hk k1 hTN
    rw [hst] at R3 e3
    refine Or.inl ⟨_, _, ⟨CF3, upd BE2 (kyp (tra w h g mo me.1.2.2.2.2.2.2.2.2.2.2.2 kd p0 i)) (nI i), R3, fun hk2 k hk192 => ?_, rfl, rfl⟩, fun k => ?_⟩
    · by_cases e : k = kyp (tra w h g mo me.1.2.2.2.2.2.2.2.2.2.2.2 kd p0 i)
      · exact Or.inr ⟨i, by omega, e.symm, by rw [e, pk_us]⟩
      · rw [pk_un e]
        rcases hBE hk2 k hk192 with ⟨b1, b2⟩ | ⟨i', b1, b2, b3⟩
        · refine Or.inl ⟨b1, fun i' h5 => ?_⟩
          by_cases e2 : i' = i
          · rw [e2]; exact fun e3 => e e3.symm
          · exact b2 i' (by omega)
        · exact Or.inr ⟨i', by omega, b2, b3⟩
    · rw [qX12_ringOf_42_w, show (196 : Int32) = nI 196 from rfl, if_lt (by omega) (by omega), if_neg (by omega), qX12_ringOf_54_w (h := e_isGate (by omega)), if_b2i, hg, if_neg (by decide), ky1, if_neg hin2, if_neg hin2, if_neg hin2, nI_clamp (by omega), if_2le (by omega), ← nI_1]
      by_cases hk2 : 2 ≤ kd
      · rw [if_pos hk2]
        exact qX12_ringOf_112_w (h := e3) ..
      · rw [if_neg hk2]
        have hb : BE2 (kyp (tra w h g mo me.1.2.2.2.2.2.2.2.2.2.2.2 kd p0 i)) = -2 := by
          rcases hBE (by omega) _ ky2 with ⟨b1, _⟩ | ⟨i', b1, b2, _⟩
          · exact b1
          · exact absurd b2 (hrep (by omega) i' b1)
        rw [if_pos hb]
        exact qX12_ringOf_112_w (h := e3) ..
  · obtain ⟨CF2, BE2, R2, hBE, rfl, rfl⟩ := hI
    have hcc := (hP t).1
    obtain ⟨ky1, ky2⟩ := hky t
    have hin2 := nI_in ky2 (by omega)
    refine ⟨_, ⟨nI (tra w h g mo me.1.2.2.2.2.2.2.2.2.2.2.2 kd p0 t).1, nI (tra w h g mo me.1.2.2.2.2.2.2.2.2.2.2.2 kd p0 t).2.1, nI (tra w h g mo me.1.2.2.2.2.2.2.2.2.2.2.2 kd p0 t).2.2.1, CF2, BE2, rfl⟩, fun k => ?_⟩
    rcases hend with ⟨a1, a2, rfl⟩ | ⟨a1, a2, a3, i, a4, a5, rfl⟩ | ⟨a1, a2, rfl⟩
    · rw [qX12_ringOf_42_w, show (196 : Int32) = nI 196 from rfl, if_lt (by omega) (by omega), if_neg (by omega), qX12_ringOf_54_w (h := e_isGate (by omega)), if_b2i, a2, if_pos rfl]
    · rw [qX12_ringOf_42_w, show (196 : Int32) = nI 196 from rfl, if_lt (by omega) (by omega), if_neg (by omega), qX12_ringOf_54_w (h := e_isGate (by omega)), if_b2i, a2, if_neg (by decide), ky1, if_neg hin2, if_neg hin2, if_neg hin2, nI_clamp (by omega), if_2le (by omega), if_neg (by omega : ¬ 2 ≤ kd)]
      rcases hBE a3 _ ky2 with ⟨_, b2⟩ | ⟨i', b1, b2, b3⟩
      · exact absurd a5 (b2 i a4)
      · have hii : i' = i := by
          rcases Nat.lt_trichotomy i' i with h5 | h5 | h5
          · exact absurd (b2.trans a5.symm) ((hno i a4).2 a3 i' h5)
          · exact h5
          · exact absurd (a5.trans b2.symm) ((hno i' b1).2 a3 i h5)
        subst hii
        rw [b3, if_neg (nI_m2 (by omega)), pk_sub (by omega)]
    · rw [qX12_ringOf_42_w, show (196 : Int32) = nI 196 from rfl, if_lt (by omega) (by omega), if_pos (by omega)]
end
/-- a walker not by lot: out or not; the ring -/
theorem ring_two {pl : PlS} {me : MeS} {w h du pa sh gc wc s j : Nat} {m : Int64} (H : WH w h) (G : GrOK pl.1 w h) (N : PlNu pl me w h du pa sh) (GA : PlGa pl me (w * h) gc) (NO : PlNo pl me (w * h)) (WK : PlWk pl me (w * h) wc) (hm : Sub m (w * h)) (hs : s < 65537) (hj : j < wc) : ∃ kd, kd < 5 ∧ j < 5 ∧ (pl.2.2.2.1 j).2.1 = nI kd ∧ me.2.2.2.2.2.1 j = nI kd ∧ (kd ≠ 4 → ∃ rg : Nat, rg ≤ 192 ∧
    (∀ mz tp tk rd hi sc dr wx wo rc, ∃ wa2 wa3, EX8_begin [.ref 44, .ref 14, .int (nI j), .long m, .int (nI s)] (CH mz tp tk rd hi sc pl dr wx wo rc) = some (CH mz tp tk rd hi sc pl dr wa2 wo rc) ∧ EX8_isOutSometime [.ref 44] (CH mz tp tk rd hi sc pl dr wa2 wo rc) = some (decide (rg = 0), CH mz tp tk rd hi sc pl dr wa3 wo rc) ∧ (rg ≠ 0 → ∃ wa4, EX8_ringLength [.ref 44] (CH mz tp tk rd hi sc pl dr wa3 wo rc) = some (nI rg, CH mz tp tk rd hi sc pl dr wa4 wo rc))) ∧
    (∀ th mtr wh ta mfa ac mk mq ma rdv ce fg ow ou sk bp F Q CF TN RW OR BE, ∃ ce2 fg2 ow2 F2 Q2 CF2 TN2 BE2, EX12_ringOf [.ref 0, .int (nI j)] (M1 (th, mtr, wh, ta, mfa, m, nI s, ac, mk) (MQw mq ce fg ow ou sk bp) (MAw ma F Q CF TN RW OR BE) me rdv) = some (nI rg, M1 (th, mtr, wh, ta, mfa, m, nI s, ac, mk) (MQw mq ce2 fg2 ow2 ou sk bp) (MAw ma F2 Q2 CF2 TN2 RW OR BE2) me rdv))) := by
  have hn := H.n
  obtain ⟨kd, c, f, l, W⟩ := WkJ_of WK hj
  obtain ⟨hj5, hk, hc, hf, hl, ⟨k1, k2, k3, k4⟩, q1, q2, q3, q4⟩ := id W
  refine ⟨kd, hk, hj5, k1, q1, fun h4 => ?_⟩
  have P0 : PSOK (w * h) c (ps0 c f ((s + j) % 65537)) := ps0_ok hn.1 hc hf (Nat.mod_lt _ (by omega))
  have NO2 : me.1.2.2.2.2.2.2.2.2.2.2.2 = -2 ∨ ∃ c, c < w * h ∧ me.1.2.2.2.2.2.2.2.2.2.2.2 = nI c := by rw [← NO.1]; exact NO.2
  have hP := fun i => tra_ok (g := pl.1) (m := m) (no := pl.2.2.2.2.2.2.2.2.2.1) (kd := kd) H P0 i
  -- the two ends
  have both : ∀ (rg t tm q : Nat), rg ≤ 192 → t ≤ 192 → (∀ i, i < t → tb pl.2.2.2.2.2.2.2.2.1 (tra w h pl.1 m pl.2.2.2.2.2.2.2.2.2.1 kd (ps0 c f ((s + j) % 65537)) i).1 = false) → (t = 192 ∨ tb pl.2.2.2.2.2.2.2.2.1 (tra w h pl.1 m pl.2.2.2.2.2.2.2.2.2.1 kd (ps0 c f ((s + j) % 65537)) t).1 = true) → tb pl.2.2.2.2.2.2.2.2.1 (tra w h pl.1 m pl.2.2.2.2.2.2.2.2.2.1 kd (ps0 c f ((s + j) % 65537)) t).1 = decide (rg = 0) → (rg ≠ 0 → (∀ i, 0 < i → i < rg → kyp (tra w h pl.1 m pl.2.2.2.2.2.2.2.2.2.1 kd (ps0 c f ((s + j) % 65537)) (t + i)) ≠ kyp (tra w h pl.1 m pl.2.2.2.2.2.2.2.2.2.1 kd (ps0 c f ((s + j) % 65537)) t)) ∧ (rg = 192 ∨ kyp (tra w h pl.1 m pl.2.2.2.2.2.2.2.2.2.1 kd (ps0 c f ((s + j) % 65537)) (t + rg)) = kyp (tra w h pl.1 m pl.2.2.2.2.2.2.2.2.2.1 kd (ps0 c f ((s + j) % 65537)) t))) → tm ≤ 197 → (∀ i, i < tm → tb pl.2.2.2.2.2.2.2.2.1 (tra w h pl.1 m pl.2.2.2.2.2.2.2.2.2.1 kd (ps0 c f ((s + j) % 65537)) i).1 = false ∧ (kd < 2 → ∀ i', i' < i → kyp (tra w h pl.1 m pl.2.2.2.2.2.2.2.2.2.1 kd (ps0 c f ((s + j) % 65537)) i') ≠ kyp (tra w h pl.1 m pl.2.2.2.2.2.2.2.2.2.1 kd (ps0 c f ((s + j) % 65537)) i))) → ((tm ≤ 196 ∧ tb pl.2.2.2.2.2.2.2.2.1 (tra w h pl.1 m pl.2.2.2.2.2.2.2.2.2.1 kd (ps0 c f ((s + j) % 65537)) tm).1 = true ∧ nI rg = 0) ∨ (tm ≤ 196 ∧ tb pl.2.2.2.2.2.2.2.2.1 (tra w h pl.1 m pl.2.2.2.2.2.2.2.2.2.1 kd (ps0 c f ((s + j) % 65537)) tm).1 = false ∧ kd < 2 ∧ ∃ i, i < tm ∧ kyp (tra w h pl.1 m pl.2.2.2.2.2.2.2.2.2.1 kd (ps0 c f ((s + j) % 65537)) i) = kyp (tra w h pl.1 m pl.2.2.2.2.2.2.2.2.2.1 kd (ps0 c f ((s + j) % 65537)) tm) ∧ nI rg = nI (tm - i)) ∨ (tm = 197 ∧ 2 ≤ kd ∧ nI rg = 1)) → ∃ rg : Nat, rg ≤ 192 ∧
    (∀ mz tp tk rd hi sc dr wx wo rc, ∃ wa2 wa3, EX8_begin [.ref 44, .ref 14, .int (nI j), .long m, .int (nI s)] (CH mz tp tk rd hi sc pl dr wx wo rc) = some (CH mz tp tk rd hi sc pl dr wa2 wo rc) ∧ EX8_isOutSometime [.ref 44] (CH mz tp tk rd hi sc pl dr wa2 wo rc) = some (decide (rg = 0), CH mz tp tk rd hi sc pl dr wa3 wo rc) ∧ (rg ≠ 0 → ∃ wa4, EX8_ringLength [.ref 44] (CH mz tp tk rd hi sc pl dr wa3 wo rc) = some (nI rg, CH mz tp tk rd hi sc pl dr wa4 wo rc))) ∧
    (∀ th mtr wh ta mfa ac mk mq ma rdv ce fg ow ou sk bp F Q CF TN RW OR BE, ∃ ce2 fg2 ow2 F2 Q2 CF2 TN2 BE2, EX12_ringOf [.ref 0, .int (nI j)] (M1 (th, mtr, wh, ta, mfa, m, nI s, ac, mk) (MQw mq ce fg ow ou sk bp) (MAw ma F Q CF TN RW OR BE) me rdv) = some (nI rg, M1 (th, mtr, wh, ta, mfa, m, nI s, ac, mk) (MQw mq ce2 fg2 ow2 ou sk bp) (MAw ma F2 Q2 CF2 TN2 RW OR BE2) me rdv)) := by
    intro rg t tm q hrg ht hno hend hdec hring htm hno2 hend2
    refine ⟨rg, hrg, fun mz tp tk rd hi sc dr wx wo rc => ?_, fun th mtr wh ta mfa ac mk mq ma rdv ce fg ow ou sk bp F Q CF TN RW OR BE => ?_⟩
    · obtain ⟨⟨T, CF, SN⟩, ⟨pp, qq⟩, mo, be, ce, fg, sv, ou0, la⟩ := wx
      obtain ⟨CF1, SN1, R1, hS1, e1⟩ := c_begina (mz := mz) (tp := tp) (tk := tk) (rd := rd) (hi := hi) (sc := sc) (pl := pl) (dr := dr) (wo := wo) (rc := rc) (T := T) (CF := CF) (SN := SN) (pp := pp) (q := qq) (mo := mo) (be := be) (ce := ce) (fg := fg) (sv := sv) (ou := ou0) (la := la) H G W NO hm hs
      have hT3 : kd = 3 → TNok SN1 := fun e => by
        intro k hk
        rw [hS1 e k hk]
        exact tnz_ok H G hm NO.2 k hk
      obtain ⟨CF2, R2, e2⟩ := c_isOut (mz := mz) (tp := tp) (tk := tk) (rd := rd) (hi := hi) (sc := sc) (dr := dr) (wo := wo) (rc := rc) (T := T) (ou := ou0) (la := la) hj5 H G P0 R1 hk k1 hT3 hS1 ht hno hend
      rw [hdec] at e2
      refine ⟨_, _, e1, e2, fun h0 => ?_⟩
      obtain ⟨r1, r2⟩ := hring h0
      exact c_ringLen hj5 H G P0 hk k1 hT3 hS1 R2 (Nat.pos_of_ne_zero h0) hrg r1 r2
    · rw [NO.1, GA.2.2.2.1] at hno2 hend2
      exact m_ringOf (pl := pl) H G N.1.1 N.1.2 W NO2 hm hs rfl htm hno2 hend2
  by_cases hk2 : kd < 2
  · -- he turns: his cell and side tell the next
    have hd : ∀ a b, kyp (tra w h pl.1 m pl.2.2.2.2.2.2.2.2.2.1 kd (ps0 c f ((s + j) % 65537)) a) = kyp (tra w h pl.1 m pl.2.2.2.2.2.2.2.2.2.1 kd (ps0 c f ((s + j) % 65537)) b) → kyp (tra w h pl.1 m pl.2.2.2.2.2.2.2.2.2.1 kd (ps0 c f ((s + j) % 65537)) (a + 1)) = kyp (tra w h pl.1 m pl.2.2.2.2.2.2.2.2.2.1 kd (ps0 c f ((s + j) % 65537)) (b + 1)) := fun a b e => by
      have a1 := (hP a).2.1
      have a2 := (hP b).2.1
      have e1 : (tra w h pl.1 m pl.2.2.2.2.2.2.2.2.2.1 kd (ps0 c f ((s + j) % 65537)) a).1 = (tra w h pl.1 m pl.2.2.2.2.2.2.2.2.2.1 kd (ps0 c f ((s + j) % 65537)) b).1 := by unfold kyp at e; omega
      have e2 : (tra w h pl.1 m pl.2.2.2.2.2.2.2.2.2.1 kd (ps0 c f ((s + j) % 65537)) a).2.1 = (tra w h pl.1 m pl.2.2.2.2.2.2.2.2.2.1 kd (ps0 c f ((s + j) % 65537)) b).2.1 := by unfold kyp at e; omega
      have es : ∀ i, tra w h pl.1 m pl.2.2.2.2.2.2.2.2.2.1 kd (ps0 c f ((s + j) % 65537)) (i + 1) = stT w h m kd (tra w h pl.1 m pl.2.2.2.2.2.2.2.2.2.1 kd (ps0 c f ((s + j) % 65537)) i) := fun i => by
        rw [tra_s]
        unfold stp
        rw [if_pos hk2]
      have := stT_det (w := w) (h := h) (m := m) (kd := kd) e1 e2
      unfold kyp
      rw [es, es, this.1, this.2]
    have hb : ∀ a, kyp (tra w h pl.1 m pl.2.2.2.2.2.2.2.2.2.1 kd (ps0 c f ((s + j) % 65537)) a) < 192 := fun a => by
      have a1 := (hP a).1
      have a2 := (hP a).2.1
      unfold kyp; omega
    obtain ⟨t, i, hit, ht, hrep, hf⟩ := rep_first hb
    have hcell : ∀ {a b}, kyp (tra w h pl.1 m pl.2.2.2.2.2.2.2.2.2.1 kd (ps0 c f ((s + j) % 65537)) a) = kyp (tra w h pl.1 m pl.2.2.2.2.2.2.2.2.2.1 kd (ps0 c f ((s + j) % 65537)) b) → (tra w h pl.1 m pl.2.2.2.2.2.2.2.2.2.1 kd (ps0 c f ((s + j) % 65537)) a).1 = (tra w h pl.1 m pl.2.2.2.2.2.2.2.2.2.1 kd (ps0 c f ((s + j) % 65537)) b).1 := fun {a b} e => by
      have a1 := (hP a).2.1
      have a2 := (hP b).2.1
      unfold kyp at e; omega
    rcases first_or (P := fun i => tb pl.2.2.2.2.2.2.2.2.1 (tra w h pl.1 m pl.2.2.2.2.2.2.2.2.2.1 kd (ps0 c f ((s + j) % 65537)) i).1 = true) t with ⟨u, hu, h1, h2⟩ | hno
    · refine both 0 u u 0 (by omega) (by omega) (fun i hi => by simpa using h2 i hi) (Or.inr h1) (by rw [h1]; rfl) (fun h => absurd rfl h) (by omega) (fun i hi => ⟨by simpa using h2 i hi, fun _ i' hi' => hf i' i hi' (by omega)⟩) (Or.inl ⟨by omega, h1, rfl⟩)
    · have hno2 : ∀ i', tb pl.2.2.2.2.2.2.2.2.1 (tra w h pl.1 m pl.2.2.2.2.2.2.2.2.2.1 kd (ps0 c f ((s + j) % 65537)) i').1 = false := fun i' => by
        by_cases h5 : i' < t
        · simpa using hno i' h5
        · obtain ⟨d, rfl⟩ : ∃ d, i' = i + d := ⟨i' - i, by omega⟩
          have hmod := per_mod (ky := fun a => kyp (tra w h pl.1 m pl.2.2.2.2.2.2.2.2.2.1 kd (ps0 c f ((s + j) % 65537)) a)) hd hit hrep d
          have hlt := Nat.mod_lt d (show 0 < t - i by omega)
          rw [hcell hmod]
          simpa using hno (i + d % (t - i)) (by omega)
      have hper := per_first (ky := fun a => kyp (tra w h pl.1 m pl.2.2.2.2.2.2.2.2.2.1 kd (ps0 c f ((s + j) % 65537)) a)) hd hit hrep hf (s := 192) (by omega)
      refine both (t - i) 192 t 0 (by omega) (by omega) (fun i' _ => hno2 i') (Or.inl rfl) ?_ (fun _ => ⟨fun q h0 hq => hper.2 q h0 hq, Or.inr hper.1⟩) (by omega) (fun i' hi' => ⟨hno2 i', fun _ i2 hi2 => hf i2 i' hi2 hi'⟩) (Or.inr (Or.inl ⟨by omega, hno2 t, hk2, i, hit, hrep, rfl⟩))
      rw [hno2 192, decide_eq_false (by omega)]
  · have hrest : ∀ i, 95 ≤ i → tra w h pl.1 m pl.2.2.2.2.2.2.2.2.2.1 kd (ps0 c f ((s + j) % 65537)) (i + 1) = tra w h pl.1 m pl.2.2.2.2.2.2.2.2.2.1 kd (ps0 c f ((s + j) % 65537)) i := by
      rcases (by omega : kd = 2 ∨ kd = 3) with rfl | rfl
      · exact fun i hi => once_rest H P0 i hi
      · exact fun i hi => cow_rest H G hm NO.2 P0 i (by omega)
    have h192 : ∀ i, 192 ≤ i → tra w h pl.1 m pl.2.2.2.2.2.2.2.2.2.1 kd (ps0 c f ((s + j) % 65537)) i = tra w h pl.1 m pl.2.2.2.2.2.2.2.2.2.1 kd (ps0 c f ((s + j) % 65537)) 192 := fun i hi => tra_stay (hrest 192 (by omega)) i hi
    rcases first_or (P := fun i => tb pl.2.2.2.2.2.2.2.2.1 (tra w h pl.1 m pl.2.2.2.2.2.2.2.2.2.1 kd (ps0 c f ((s + j) % 65537)) i).1 = true) 193 with ⟨u, hu, h1, h2⟩ | hno
    · exact both 0 u u 0 (by omega) (by omega) (fun i hi => by simpa using h2 i hi) (Or.inr h1) (by rw [h1]; rfl) (fun h => absurd rfl h) (by omega) (fun i hi => ⟨by simpa using h2 i hi, fun h => absurd h hk2⟩) (Or.inl ⟨by omega, h1, rfl⟩)
    · have hno2 : ∀ i', tb pl.2.2.2.2.2.2.2.2.1 (tra w h pl.1 m pl.2.2.2.2.2.2.2.2.2.1 kd (ps0 c f ((s + j) % 65537)) i').1 = false := fun i' => by
        by_cases h5 : i' < 193
        · simpa using hno i' h5
        · rw [h192 i' (by omega)]
          simpa using hno 192 (by omega)
      refine both 1 192 197 0 (by omega) (by omega) (fun i' _ => hno2 i') (Or.inl rfl) ?_ (fun _ => ⟨fun q h0 hq => by omega, Or.inr (by rw [h192 (192 + 1) (by omega)])⟩) (by omega) (fun i' _ => ⟨hno2 i', fun h => absurd h hk2⟩) (Or.inr (Or.inr ⟨rfl, by omega, rfl⟩))
      rw [hno2 192]; rfl
theorem c_byLot {cl : Int64} {se tr fa fp : Int32} {tp : TpS} {tk : TkS} {rd : RdS} {hi : HiS} {sc : ScS} {pl dr : PlS} {wa wb : WaS} {rc : Nat → Int32} {j kd : Nat} (hj : j < 5) (hk : kd < 5) (h : (pl.2.2.2.1 j).2.1 = nI kd) : EX10_goesByLot [.ref 0, .int (nI j)] (CH (1, cl, se, tr, fa, fp) tp tk rd hi sc pl dr wa wb rc) = some (decide (kd = 4)) := by
  rw [eX10_goesByLot_s_1, qX10_goesByLot_0_1, qX10_goesByLot_5_1 (hwj := hj) (h := e_walker _ _ _ _ _ _ _ _ _ _ _ hj), h, l4, if_eq (by omega) (by omega)]
  by_cases e : kd = 4
  · rw [if_pos e, decide_eq_true e]
  · rw [if_neg e, decide_eq_false e]
theorem op_ever (x : Int32) : Step Inv EX10_ever fIH EX12_ever fIH [.int x] := by
  refine step_qw (fun cl se tr fa fp tp tk rd hi sc pl dr wa wb rc th wh ta mo sd mq ma rdv _ _ => ⟨1, by decide, rfl, rfl⟩) (fun cl s tr fa fp tp tk rd hi sc pl dr wa wb rc th wh ta ac mk mq ma me rdv ce fg ow ou sk bp F Q CF TN RW OR BE w h du pa sh gc hq wc hs H G N GA NO WK HE C => ?_)
  have hwc := WK.1
  cases hx : inr wc x
  · refine ⟨-1, 1, sc, wa, wb, rc, MQw mq ce fg ow ou sk bp, MAw ma F Q CF TN RW OR BE, by decide, KeepMa.rf _, ?_, ?_⟩
    · rw [eX10_ever_s_1, qX10_ever_0_1, qX10_ever_2_1 (h := c_isWalker WK.2.1 _), hx, if_b2i, if_neg (by decide)]
    · rw [eX12_ever_s_w, qX12_ever_0_w, qX12_ever_7_w (h := m_isWalker WK.2.2.1 _), hx, if_b2i, if_neg (by decide)]
  · obtain ⟨j, hj, rfl⟩ := inr_true (by omega) hx
    obtain ⟨kd, hk, hj5, k1, q1, hrest⟩ := ring_two H G N GA NO WK C hs hj
    have hin := nI_in hj5 (by omega)
    have hcj : (nI j).toNatClampNeg = j := nI_clamp (by omega)
    by_cases h4 : kd = 4
    · refine ⟨-1, 5, sc, wa, wb, rc, MQw mq ce fg ow ou sk bp, MAw ma F Q CF TN RW OR BE, by decide, KeepMa.rf _, ?_, ?_⟩
      · rw [eX10_ever_s_1, qX10_ever_0_1, qX10_ever_2_1 (h := c_isWalker WK.2.1 _), hx, if_b2i, if_pos rfl, qX10_ever_16_1 (h := c_byLot hj5 hk k1), decide_eq_true h4, if_b2i, if_pos rfl]
      · rw [eX12_ever_s_w, qX12_ever_0_w, qX12_ever_7_w (h := m_isWalker WK.2.2.1 _), hx, if_b2i, if_pos rfl, if_neg hin, hcj, q1, if_pos (by rw [h4]; rfl)]
    · obtain ⟨rg, hrg, h5, h6⟩ := hrest h4
      obtain ⟨wa2, wa3, e1, e2, _⟩ := h5 (1, cl, nI s, tr, fa, fp) tp tk rd hi sc dr wa wb rc
      obtain ⟨a1, a2, a3, a4, a5, a6, a7, a8, e3⟩ := h6 0 tr wh ta fa ac mk mq ma rdv ce fg ow ou sk bp F Q CF TN RW OR BE
      refine ⟨if rg = 0 then 1 else 0, 0, sc, wa3, wb, rc, MQw mq a1 a2 a3 ou sk bp, MAw ma a4 a5 a6 a7 RW OR a8, by decide, ⟨rfl, rfl, rfl, rfl, rfl⟩, ?_, ?_⟩
      · rw [eX10_ever_s_1, qX10_ever_0_1, qX10_ever_2_1 (h := c_isWalker WK.2.1 _), hx, if_b2i, if_pos rfl, qX10_ever_16_1 (h := c_byLot hj5 hk k1), decide_eq_false h4, if_b2i, if_neg (by decide), qX10_ever_45_1 (h := e1), qX10_ever_53_1 (h := e2), if_b2i]
        by_cases h7 : rg = 0
        · rw [if_pos (decide_eq_true h7), if_pos h7]
        · rw [if_neg (by simp [h7]), if_neg h7]
      · rw [eX12_ever_s_w, qX12_ever_0_w, qX12_ever_7_w (h := m_isWalker WK.2.2.1 _), hx, if_b2i, if_pos rfl, if_neg hin, hcj, q1, if_neg (show ¬ nI kd = 4 by rw [l4, nI_eq (by omega) (by omega)]; exact h4), qX12_ever_43_w (h := e3)]
        by_cases h7 : rg = 0
        · rw [if_pos (by rw [h7]; rfl), if_pos h7]
        · rw [if_neg (nI_ne0 (Nat.pos_of_ne_zero h7) (by omega)), if_neg h7]
theorem op_ring (x : Int32) : Step Inv EX10_ring fIH EX12_ring fIH [.int x] := by
  refine step_qw (fun cl se tr fa fp tp tk rd hi sc pl dr wa wb rc th wh ta mo sd mq ma rdv _ _ => ⟨1, by decide, rfl, rfl⟩) (fun cl s tr fa fp tp tk rd hi sc pl dr wa wb rc th wh ta ac mk mq ma me rdv ce fg ow ou sk bp F Q CF TN RW OR BE w h du pa sh gc hq wc hs H G N GA NO WK HE C => ?_)
  have hwc := WK.1
  cases hx : inr wc x
  · refine ⟨-1, 1, sc, wa, wb, rc, MQw mq ce fg ow ou sk bp, MAw ma F Q CF TN RW OR BE, by decide, KeepMa.rf _, ?_, ?_⟩
    · rw [eX10_ring_s_1, qX10_ring_0_1, qX10_ring_2_1 (h := c_isWalker WK.2.1 _), hx, if_b2i, if_neg (by decide)]
    · rw [eX12_ring_s_w, qX12_ring_0_w, qX12_ring_7_w (h := m_isWalker WK.2.2.1 _), hx, if_b2i, if_neg (by decide)]
  · obtain ⟨j, hj, rfl⟩ := inr_true (by omega) hx
    obtain ⟨kd, hk, hj5, k1, q1, hrest⟩ := ring_two H G N GA NO WK C hs hj
    have hin := nI_in hj5 (by omega)
    have hcj : (nI j).toNatClampNeg = j := nI_clamp (by omega)
    by_cases h4 : kd = 4
    · refine ⟨-1, 5, sc, wa, wb, rc, MQw mq ce fg ow ou sk bp, MAw ma F Q CF TN RW OR BE, by decide, KeepMa.rf _, ?_, ?_⟩
      · rw [eX10_ring_s_1, qX10_ring_0_1, qX10_ring_2_1 (h := c_isWalker WK.2.1 _), hx, if_b2i, if_pos rfl, qX10_ring_16_1 (h := c_byLot hj5 hk k1), decide_eq_true h4, if_b2i, if_pos rfl]
      · rw [eX12_ring_s_w, qX12_ring_0_w, qX12_ring_7_w (h := m_isWalker WK.2.2.1 _), hx, if_b2i, if_pos rfl, if_neg hin, hcj, q1, if_pos (by rw [h4]; rfl)]
    · obtain ⟨rg, hrg, h5, h6⟩ := hrest h4
      obtain ⟨wa2, wa3, e1, e2, e4⟩ := h5 (1, cl, nI s, tr, fa, fp) tp tk rd hi sc dr wa wb rc
      obtain ⟨a1, a2, a3, a4, a5, a6, a7, a8, e3⟩ := h6 0 tr wh ta fa ac mk mq ma rdv ce fg ow ou sk bp F Q CF TN RW OR BE
      by_cases h7 : rg = 0
      · refine ⟨-1, 6, sc, wa3, wb, rc, MQw mq a1 a2 a3 ou sk bp, MAw ma a4 a5 a6 a7 RW OR a8, by decide, ⟨rfl, rfl, rfl, rfl, rfl⟩, ?_, ?_⟩
        · rw [eX10_ring_s_1, qX10_ring_0_1, qX10_ring_2_1 (h := c_isWalker WK.2.1 _), hx, if_b2i, if_pos rfl, qX10_ring_16_1 (h := c_byLot hj5 hk k1), decide_eq_false h4, if_b2i, if_neg (by decide), qX10_ring_45_1 (h := e1), qX10_ring_52_1 (h := e2), if_b2i, if_pos (decide_eq_true h7)]
        · rw [eX12_ring_s_w, qX12_ring_0_w, qX12_ring_7_w (h := m_isWalker WK.2.2.1 _), hx, if_b2i, if_pos rfl, if_neg hin, hcj, q1, if_neg (show ¬ nI kd = 4 by rw [l4, nI_eq (by omega) (by omega)]; exact h4), qX12_ring_40_w (h := e3), if_pos (by rw [h7]; rfl)]
      · obtain ⟨wa4, e5⟩ := e4 h7
        refine ⟨nI rg, 0, sc, wa4, wb, rc, MQw mq a1 a2 a3 ou sk bp, MAw ma a4 a5 a6 a7 RW OR a8, by decide, ⟨rfl, rfl, rfl, rfl, rfl⟩, ?_, ?_⟩
        · rw [eX10_ring_s_1, qX10_ring_0_1, qX10_ring_2_1 (h := c_isWalker WK.2.1 _), hx, if_b2i, if_pos rfl, qX10_ring_16_1 (h := c_byLot hj5 hk k1), decide_eq_false h4, if_b2i, if_neg (by decide), qX10_ring_45_1 (h := e1), qX10_ring_52_1 (h := e2), if_b2i, if_neg (by simp [h7]), qX10_ring_70_1 (h := e5)]
        · rw [eX12_ring_s_w, qX12_ring_0_w, qX12_ring_7_w (h := m_isWalker WK.2.2.1 _), hx, if_b2i, if_pos rfl, if_neg hin, hcj, q1, if_neg (show ¬ nI kd = 4 by rw [l4, nI_eq (by omega) (by omega)]; exact h4), qX12_ring_40_w (h := e3), if_neg (nI_ne0 (Nat.pos_of_ne_zero h7) (by omega))]
