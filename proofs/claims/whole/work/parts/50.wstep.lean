section
variable {mz : MzS} {tp : TpS} {tk : TkS} {rd : RdS} {hi : HiS} {sc : ScS} {pl dr : PlS} {wo : WaS} {rc : Nat → Int32} {w h : Nat} {T CF SN : Nat → Int32} {q : Nat} {mo be : Int64} {ce fg sv ou la : Int32} {st : Nat} {p : PS}
theorem c_mownToa (H : WH w h) (G : GrOK pl.1 w h) {c s : Nat} (hc : c < w * h) (hs : s < 4) : EX8_mownTo [.ref 44, .int (nI s)] (CH mz tp tk rd hi sc pl dr (wA T CF SN 14 q mo be (nI c) fg sv ou la) wo rc) = some (oI (mto w h mo c s)) := by
  have hn := H.n
  have e : EX0_cellTo [.ref 15, .int (nI s), .int (nI c)] (CH mz tp tk rd hi sc pl dr (wA T CF SN 14 q mo be (nI c) fg sv ou la) wo rc) = some (oI (nb w h c s)) := e_cellTo H G hc hs
  rw [eX8_mownTo_sa, qX8_mownTo_0a, qX8_mownTo_12a (h := e)]
  unfold mto
  cases hnb : nb w h c s with
  | none => rw [oIn]; rfl
  | some d =>
    have hd := nb_lt H hc hs hnb
    rw [show oI (some d) = nI d from rfl, if_neg (nI_m1 (by omega)), qX8_mownTo_26a (h := e_isIn _ _ (by omega)), if_b2i, Option.bind_some]
    by_cases h5 : tb mo d = true
    · rw [if_pos h5, if_pos h5]; rfl
    · rw [if_neg h5, if_neg h5]; rfl
abbrev wPa (T CF SN : Nat → Int32) (q : Nat) (mo : Int64) (p : PS) (ou la : Int32) : WaS := wA T CF SN 14 q mo p.2.2.2.1 (nI p.1) (nI p.2.1) (nI p.2.2.1) ou la
theorem c_entera {d : Nat} (hd : d < 48) (fr : Int32) : EX8_enter [.ref 44, .int (nI d), .int fr] (CH mz tp tk rd hi sc pl dr (wA T CF SN 14 q mo be ce fg sv ou la) wo rc) = some (CH mz tp tk rd hi sc pl dr (wA T (if tb be d = true then CF else upd CF d fr) SN 14 q mo (be ||| bitL (nI d)) (nI d) fg sv ou la) wo rc) := by
  rw [eX8_enter_sa, qX8_enter_0a, qX8_enter_5a (h := e_isIn _ _ (by omega)), if_b2i, if_neg (nI_pos (by omega)), l48, if_le (by omega) (by omega), if_neg (by omega : ¬ 48 ≤ d), if_neg (nI_in hd (by omega)), nI_clamp (by omega)]
  by_cases h5 : tb be d = true
  · rw [if_pos h5, if_pos h5]
  · rw [if_neg h5, if_neg h5]
theorem c_enta {n d : Nat} (hn : n ≤ 48) (P : PSOK n st p) (R : CFR st p CF) (hd : d < n) : ∃ CF', CFR st (ent d p) CF' ∧ EX8_enter [.ref 44, .int (nI d), .int (nI p.1)] (CH mz tp tk rd hi sc pl dr (wPa T CF SN q mo p ou la) wo rc) = some (CH mz tp tk rd hi sc pl dr (wPa T CF' SN q mo (ent d p) ou la) wo rc) :=
  ⟨_, ent_CFR hn P R hd, c_entera (by omega) _⟩
theorem c_turna (H : WH w h) (G : GrOK pl.1 w h) {kd : Nat} {a t : Int32} (P : PSOK (w * h) st p) (R : CFR st p CF) (hs : ∀ i, i < 4 → ((nI p.2.1 + a) + (t * nI i)) - ((nI p.2.1 + a) + (t * nI i)) / 4 * 4 = nI (sdT kd p.2.1 i)) : ∃ CF', CFR st (stT w h mo kd p) CF' ∧ EX8_stepTurning [.ref 44, .int (nI p.2.1 + a), .int t] (CH mz tp tk rd hi sc pl dr (wPa T CF SN q mo p ou la) wo rc) = some (CH mz tp tk rd hi sc pl dr (wPa T CF' SN q mo (stT w h mo kd p) ou la) wo rc) := by
  have hn := H.n
  rw [eX8_stepTurning_sa, qX8_stepTurning_0a]
  unfold stT
  rcases fs4_ok (fun i => mto w h mo p.1 (sdT kd p.2.1 i)) with ⟨e, h1⟩ | ⟨j, d, e, hj, hd, h1⟩
  · rw [e]
    refine ⟨CF, R, ?_⟩
    refine lp_run (fun i => [(0, .ref 44), (1, .int (nI p.2.1 + a)), (2, .int t), (3, .int (nI i))]) (fun _ => (CH mz tp tk rd hi sc pl dr (wPa T CF SN q mo p ou la) wo rc)) (t := 4) (by have := FU_ge; omega) (fun i hi k => ?_) (fun k => ?_)
    · rw [qX8_stepTurning_2a, l4, if_le (by omega) (by omega), if_neg (by omega), ← l4, hs i hi, qX8_stepTurning_19a (h := c_mownToa H G P.1 (sdT_lt _ _ _)), h1 i hi, oIn, nI_1]
    · rw [qX8_stepTurning_2a, l4, if_le (by omega) (by omega), if_pos (by omega)]
  · rw [e]
    dsimp only
    have hdn := mto_lt H P.1 (sdT_lt _ _ _) hd
    have hd : mto w h mo p.1 (sdT kd p.2.1 j) = some d := hd
    obtain ⟨CF', R', e2⟩ := c_enta (mz := mz) (tp := tp) (tk := tk) (rd := rd) (hi := hi) (sc := sc) (pl := pl) (dr := dr) (wo := wo) (rc := rc) (T := T) (SN := SN) (q := q) (mo := mo) (ou := ou) (la := la) (p := (p.1, sdT kd p.2.1 j, p.2.2)) hn.1 ⟨P.1, sdT_lt _ _ _, P.2.2⟩ R hdn
    refine ⟨CF', R', ?_⟩
    refine lp_run (fun i => [(0, .ref 44), (1, .int (nI p.2.1 + a)), (2, .int t), (3, .int (nI i))]) (fun _ => (CH mz tp tk rd hi sc pl dr (wPa T CF SN q mo p ou la) wo rc)) (t := j) (by have := FU_ge; omega) (fun i hi k => ?_) (fun k => ?_)
    · rw [qX8_stepTurning_2a, l4, if_le (by omega) (by omega), if_neg (by omega), ← l4, hs i (by omega), qX8_stepTurning_19a (h := c_mownToa H G P.1 (sdT_lt _ _ _)), h1 i hi, oIn, nI_1]
    · rw [qX8_stepTurning_2a, l4, if_le (by omega) (by omega), if_neg (by omega), ← l4, hs j hj, qX8_stepTurning_19a (h := c_mownToa H G P.1 (sdT_lt _ _ _)), hd, show oI (some d) = nI d from rfl, if_neg (nI_m1 (by omega))]
      exact qX8_stepTurning_43a (h := e2) ..
theorem c_oncea (H : WH w h) (G : GrOK pl.1 w h) (P : PSOK (w * h) st p) (R : CFR st p CF) : ∃ CF', CFR st (stO w h mo p) CF' ∧ EX8_stepOnce [.ref 44] (CH mz tp tk rd hi sc pl dr (wPa T CF SN q mo p ou la) wo rc) = some (CH mz tp tk rd hi sc pl dr (wPa T CF' SN q mo (stO w h mo p) ou la) wo rc) := by
  have hn := H.n
  have hc := P.1
  rw [eX8_stepOnce_sa, qX8_stepOnce_0a]
  have hround : ∀ i, i < 4 → frs w h mo p i = none → ∀ k, BX8_stepOnce_2 k [(0, .ref 44), (1, .int (nI i))] [] (CH mz tp tk rd hi sc pl dr (wPa T CF SN q mo p ou la) wo rc) = k [(0, .ref 44), (1, .int (nI (i + 1)))] [] (CH mz tp tk rd hi sc pl dr (wPa T CF SN q mo p ou la) wo rc) := fun i hi h1 k => by
    rw [qX8_stepOnce_2a, l4, if_le (by omega) (by omega), if_neg (by omega), qX8_stepOnce_9a (h := c_mownToa H G P.1 hi)]
    cases hm : mto w h mo p.1 i with
    | none => rw [oIn, nI_1]
    | some d =>
      have hdn := mto_lt H P.1 hi hm
      rw [show oI (some d) = nI d from rfl, if_neg (nI_m1 (by omega)), qX8_stepOnce_23a (h := e_isIn _ _ (by omega)), if_b2i, if_pos (frs_none h1 hm), nI_1]
  unfold stO
  rcases fs4_ok (frs w h mo p) with ⟨e, h1⟩ | ⟨j, d, e, hj, hd, h1⟩
  · rw [e]
    dsimp only
    have hon := P.2.2.2.1 _ (P.2.2.2.2.2.2.1 _ P.2.2.2.2.1)
    have hcf := R p.1 (by omega) P.2.2.2.2.1
    by_cases hst : p.1 = st
    · have ho : p.2.2.2.2 p.1 = p.1 := by rw [hst]; exact P.2.2.2.2.2.2.2
      have e3 : (if tb mo (p.2.2.2.2 p.1) = true then ent (p.2.2.2.2 p.1) p else p) = p := by
        rw [ho, ent_self hn.1 P]
        by_cases h5 : tb mo p.1 = true
        · rw [if_pos h5]
        · rw [if_neg h5]
      rw [e3]
      refine ⟨CF, R, ?_⟩
      refine lp_run (fun i => [(0, .ref 44), (1, .int (nI i))]) (fun _ => (CH mz tp tk rd hi sc pl dr (wPa T CF SN q mo p ou la) wo rc)) (t := 4) (by have := FU_ge; omega) (fun i hi k => hround i hi (h1 i hi) k) (fun k => ?_)
      rw [qX8_stepOnce_2a, l4, if_le (by omega) (by omega), if_pos (by omega), if_neg (nI_pos (by omega)), l48, if_le (by omega) (by omega), if_neg (by omega), if_neg (nI_in (by omega : p.1 < 48) (by omega)), nI_clamp (by omega), hcf, if_pos hst, qX8_stepOnce_77a, if_pos rfl]
    · rw [if_neg hst] at hcf
      by_cases h5 : tb mo (p.2.2.2.2 p.1) = true
      · rw [if_pos h5]
        obtain ⟨CF', R', e2⟩ := c_enta (mz := mz) (tp := tp) (tk := tk) (rd := rd) (hi := hi) (sc := sc) (pl := pl) (dr := dr) (wo := wo) (rc := rc) (T := T) (SN := SN) (q := q) (mo := mo) (ou := ou) (la := la) hn.1 P R hon
        refine ⟨CF', R', ?_⟩
        refine lp_run (fun i => [(0, .ref 44), (1, .int (nI i))]) (fun _ => (CH mz tp tk rd hi sc pl dr (wPa T CF SN q mo p ou la) wo rc)) (t := 4) (by have := FU_ge; omega) (fun i hi k => hround i hi (h1 i hi) k) (fun k => ?_)
        rw [qX8_stepOnce_2a, l4, if_le (by omega) (by omega), if_pos (by omega), if_neg (nI_pos (by omega)), l48, if_le (by omega) (by omega), if_neg (by omega), if_neg (nI_in (by omega : p.1 < 48) (by omega)), nI_clamp (by omega), hcf, qX8_stepOnce_77a, if_neg (nI_m1 (by omega)), qX8_stepOnce_88a (h := e_isIn _ _ (by omega)), if_b2i, if_pos h5]
        exact qX8_stepOnce_100a (h := e2) ..
      · rw [if_neg h5]
        refine ⟨CF, R, ?_⟩
        refine lp_run (fun i => [(0, .ref 44), (1, .int (nI i))]) (fun _ => (CH mz tp tk rd hi sc pl dr (wPa T CF SN q mo p ou la) wo rc)) (t := 4) (by have := FU_ge; omega) (fun i hi k => hround i hi (h1 i hi) k) (fun k => ?_)
        rw [qX8_stepOnce_2a, l4, if_le (by omega) (by omega), if_pos (by omega), if_neg (nI_pos (by omega)), l48, if_le (by omega) (by omega), if_neg (by omega), if_neg (nI_in (by omega : p.1 < 48) (by omega)), nI_clamp (by omega), hcf, qX8_stepOnce_77a, if_neg (nI_m1 (by omega)), qX8_stepOnce_88a (h := e_isIn _ _ (by omega)), if_b2i, if_neg h5]
  · rw [e]
    dsimp only
    obtain ⟨hm, hb⟩ := frs_some hd
    have hdn := mto_lt H P.1 hj hm
    obtain ⟨CF', R', e2⟩ := c_enta (mz := mz) (tp := tp) (tk := tk) (rd := rd) (hi := hi) (sc := sc) (pl := pl) (dr := dr) (wo := wo) (rc := rc) (T := T) (SN := SN) (q := q) (mo := mo) (ou := ou) (la := la) hn.1 P R hdn
    refine ⟨CF', R', ?_⟩
    refine lp_run (fun i => [(0, .ref 44), (1, .int (nI i))]) (fun _ => (CH mz tp tk rd hi sc pl dr (wPa T CF SN q mo p ou la) wo rc)) (t := j) (by have := FU_ge; omega) (fun i hi k => hround i (by omega) (h1 i hi) k) (fun k => ?_)
    rw [qX8_stepOnce_2a, l4, if_le (by omega) (by omega), if_neg (by omega), qX8_stepOnce_9a (h := c_mownToa H G P.1 hj), hm, show oI (some d) = nI d from rfl, if_neg (nI_m1 (by omega)), qX8_stepOnce_23a (h := e_isIn _ _ (by omega)), if_b2i, if_neg (by rw [hb]; decide)]
    exact qX8_stepOnce_35a (h := e2) ..
theorem c_cowa (H : WH w h) (G : GrOK pl.1 w h) (P : PSOK (w * h) st p) (R : CFR st p CF) (hT : TNok SN) : ∃ CF', CFR st (stC w h mo pl.2.2.2.2.2.2.2.2.2.1 SN p) CF' ∧ EX8_stepToNoise [.ref 44] (CH mz tp tk rd hi sc pl dr (wPa T CF SN q mo p ou la) wo rc) = some (CH mz tp tk rd hi sc pl dr (wPa T CF' SN q mo (stC w h mo pl.2.2.2.2.2.2.2.2.2.1 SN p) ou la) wo rc) := by
  have hn := H.n
  have hc := P.1
  rw [eX8_stepToNoise_sa, qX8_stepToNoise_0a]
  unfold stC
  by_cases h0 : nI p.1 = pl.2.2.2.2.2.2.2.2.2.1
  · rw [if_pos h0, if_pos h0]
    exact ⟨CF, R, rfl⟩
  · rw [if_neg h0, if_neg h0]
    have hround : ∀ i, i < 4 → ∀ k, BX8_stepToNoise_22 k [(0, .ref 44), (1, .int (oI (bst w h mo SN p.1 i))), (2, .int (few SN (bst w h mo SN p.1 i))), (3, .int (nI i))] [] (CH mz tp tk rd hi sc pl dr (wPa T CF SN q mo p ou la) wo rc) = k [(0, .ref 44), (1, .int (oI (bst w h mo SN p.1 (i + 1)))), (2, .int (few SN (bst w h mo SN p.1 (i + 1)))), (3, .int (nI (i + 1)))] [] (CH mz tp tk rd hi sc pl dr (wPa T CF SN q mo p ou la) wo rc) := fun i hi k => by
      rw [qX8_stepToNoise_22a, l4, if_le (by omega) (by omega), if_neg (by omega), qX8_stepToNoise_29a (h := c_mownToa H G P.1 hi), bst_s]
      cases hm : mto w h mo p.1 i with
      | none =>
        rw [show oI none = -1 from rfl, if_pos (by decide), qX8_stepToNoise_59a, qX8_stepToNoise_61a, if_pos (by decide), nI_1]
      | some d =>
        have hdn := mto_lt H P.1 hi hm
        rw [show oI (some d) = nI d from rfl, if_neg (nI_pos (by omega)), l48, if_le (by omega) (by omega), if_neg (by omega), if_neg (nI_in (by omega : d < 48) (by omega)), nI_clamp (by omega), qX8_stepToNoise_61a]
        dsimp only
        rcases hT d (by omega) with e | ⟨a, ha, e⟩
        · rw [if_pos (by rw [e]; decide), if_pos e, nI_1]
        · rw [if_neg (show ¬ SN d < 0 by rw [e]; exact nI_pos (by omega)), if_neg (show ¬ SN d = -2 by rw [e]; exact nI_m2 (by omega))]
          cases hb : bst w h mo SN p.1 i with
          | none =>
            rw [show few SN none = nI 48 from rfl, e, if_le (by omega) (by omega), if_neg (by omega), nI_1]
            show _ = k [(0, .ref 44), (1, .int (nI d)), (2, .int (SN d)), (3, .int (nI (i + 1)))] [] _
            rw [e]
          | some y =>
            dsimp only
            rw [show few SN (some y) = SN y from rfl]
            by_cases hl : SN d < SN y
            · rw [if_pos hl, if_neg (Int32.not_le.mpr hl), nI_1]; rfl
            · rw [if_neg hl, if_pos (Int32.not_lt.mp hl), nI_1]; rfl
    cases hb : bst w h mo SN p.1 4 with
    | none =>
      refine ⟨CF, R, ?_⟩
      refine lp_run (fun i => [(0, .ref 44), (1, .int (oI (bst w h mo SN p.1 i))), (2, .int (few SN (bst w h mo SN p.1 i))), (3, .int (nI i))]) (fun _ => (CH mz tp tk rd hi sc pl dr (wPa T CF SN q mo p ou la) wo rc)) (t := 4) (by have := FU_ge; omega) (fun i hi k => hround i hi k) (fun k => ?_)
      rw [qX8_stepToNoise_22a, l4, if_le (by omega) (by omega), if_pos (by omega), hb, oIn]
    | some d =>
      obtain ⟨⟨i, hi4, h1⟩, _⟩ := bst_some hb
      have hdn := mto_lt H P.1 hi4 h1
      obtain ⟨CF', R', e2⟩ := c_enta (mz := mz) (tp := tp) (tk := tk) (rd := rd) (hi := hi) (sc := sc) (pl := pl) (dr := dr) (wo := wo) (rc := rc) (T := T) (SN := SN) (q := q) (mo := mo) (ou := ou) (la := la) hn.1 P R hdn
      refine ⟨CF', R', ?_⟩
      refine lp_run (fun i => [(0, .ref 44), (1, .int (oI (bst w h mo SN p.1 i))), (2, .int (few SN (bst w h mo SN p.1 i))), (3, .int (nI i))]) (fun _ => (CH mz tp tk rd hi sc pl dr (wPa T CF SN q mo p ou la) wo rc)) (t := 4) (by have := FU_ge; omega) (fun i hi k => hround i hi k) (fun k => ?_)
      rw [qX8_stepToNoise_22a, l4, if_le (by omega) (by omega), if_pos (by omega), hb, show oI (some d) = nI d from rfl, if_neg (nI_m1 (by omega))]
      exact qX8_stepToNoise_97a (h := e2) ..
theorem c_lota (H : WH w h) (G : GrOK pl.1 w h) (P : PSOK (w * h) st p) (R : CFR st p CF) : ∃ CF', CFR st (stLo w h pl.1 mo p) CF' ∧ EX8_stepByLot [.ref 44] (CH mz tp tk rd hi sc pl dr (wPa T CF SN q mo p ou la) wo rc) = some (CH mz tp tk rd hi sc pl dr (wPa T CF' SN q mo (stLo w h pl.1 mo p) ou la) wo rc) := by
  have hn := H.n
  have hc := P.1
  have hv := P.2.2.1
  have hwy : way pl.1 mo p.1 ≤ 64 := pcn_le _
  have hway : pcn (besd pl.1 (bitL (nI p.1)) &&& mo) = way pl.1 mo p.1 := rfl
  rw [eX8_stepByLot_sa, qX8_stepByLot_0a, bcnt_eq, drawc (by omega), hway]
  unfold stLo
  by_cases h0 : way pl.1 mo p.1 = 0
  · rw [if_pos h0, if_pos (by rw [h0]; rfl)]
    exact ⟨CF, R, rfl⟩
  · have h01 : ¬ nI (way pl.1 mo p.1) = 0 := nI_ne0 (Nat.pos_of_ne_zero h0) (show way pl.1 mo p.1 < 2 ^ 31 by omega)
    have hdr := drw_lt p.2.2.1
    rw [if_neg h0, if_neg h01, if_pos h01, pk_rem (by omega) (Nat.pos_of_ne_zero h0) (show way pl.1 mo p.1 < 2 ^ 31 by omega)]
    show ∃ CF', _ ∧ lp BX8_stepByLot_44 FU [(0, .ref 44), (2, .int (nI (drw p.2.2.1 % way pl.1 mo p.1))), (3, .int 0)] [] _ = _
    have hll : drw p.2.2.1 % way pl.1 mo p.1 < 2 ^ 30 := Nat.lt_of_lt_of_le (Nat.mod_lt _ (Nat.pos_of_ne_zero h0)) (by omega)
    generalize drw p.2.2.1 % way pl.1 mo p.1 = l at hll ⊢
    have P1 : PSOK (w * h) st (p.1, p.2.1, drw p.2.2.1, p.2.2.2) := ⟨P.1, P.2.1, hdr, P.2.2.2⟩
    have R1 : CFR st (p.1, p.2.1, drw p.2.2.1, p.2.2.2) CF := R
    have key : ∀ i s l N, l < 2 ^ 30 → s + i = 4 → i < N → ∃ CF', CFR st (match lot w h mo p.1 i s l with | some d => ent d (p.1, p.2.1, drw p.2.2.1, p.2.2.2) | none => (p.1, p.2.1, drw p.2.2.1, p.2.2.2)) CF' ∧ lp BX8_stepByLot_44 N [(0, .ref 44), (2, .int (nI l)), (3, .int (nI s))] [] (CH mz tp tk rd hi sc pl dr (wPa T CF SN q mo (p.1, p.2.1, drw p.2.2.1, p.2.2.2) ou la) wo rc) = some (CH mz tp tk rd hi sc pl dr (wPa T CF' SN q mo (match lot w h mo p.1 i s l with | some d => ent d (p.1, p.2.1, drw p.2.2.1, p.2.2.2) | none => (p.1, p.2.1, drw p.2.2.1, p.2.2.2)) ou la) wo rc) := by
      intro i
      induction i with
      | zero =>
        intro s l N hl hs hN
        refine ⟨CF, R1, ?_⟩
        obtain ⟨N, rfl⟩ : ∃ N', N = N' + 1 := ⟨N - 1, by omega⟩
        show BX8_stepByLot_44 (lp BX8_stepByLot_44 N) _ _ _ = _
        rw [qX8_stepByLot_44a, l4, if_le (by omega) (by omega), if_pos (by omega)]
        rfl
      | succ i ih =>
        intro s l N hl hs hN
        obtain ⟨N, rfl⟩ : ∃ N', N = N' + 1 := ⟨N - 1, by omega⟩
        have e0 : lp BX8_stepByLot_44 (N + 1) [(0, .ref 44), (2, .int (nI l)), (3, .int (nI s))] [] (CH mz tp tk rd hi sc pl dr (wPa T CF SN q mo (p.1, p.2.1, drw p.2.2.1, p.2.2.2) ou la) wo rc) = BX8_stepByLot_44 (lp BX8_stepByLot_44 N) [(0, .ref 44), (2, .int (nI l)), (3, .int (nI s))] [] (CH mz tp tk rd hi sc pl dr (wPa T CF SN q mo (p.1, p.2.1, drw p.2.2.1, p.2.2.2) ou la) wo rc) := rfl
        rw [e0, qX8_stepByLot_44a, l4, if_le (by omega) (by omega), if_neg (by omega), qX8_stepByLot_51a (h := c_mownToa H G P.1 (by omega : s < 4)), lot_s]
        cases hm : mto w h mo p.1 s with
        | none =>
          rw [oIn, nI_1]
          exact ih (s + 1) l N hl (by omega) (by omega)
        | some d =>
          have hdn := mto_lt H P.1 (by omega : s < 4) hm
          rw [show oI (some d) = nI d from rfl, if_neg (nI_m1 (by omega))]
          dsimp only
          by_cases hl0 : l = 0
          · subst hl0
            obtain ⟨CF', R', e2⟩ := c_enta (mz := mz) (tp := tp) (tk := tk) (rd := rd) (hi := hi) (sc := sc) (pl := pl) (dr := dr) (wo := wo) (rc := rc) (T := T) (SN := SN) (q := q) (mo := mo) (ou := ou) (la := la) hn.1 P1 R1 hdn
            refine ⟨CF', R', ?_⟩
            rw [if_pos nI_0, if_pos rfl]
            exact qX8_stepByLot_73a (h := e2) ..
          · rw [if_neg hl0, if_neg (nI_ne0 (by omega) (by omega)), nI_1]
            obtain ⟨l, rfl⟩ : ∃ l', l = l' + 1 := ⟨l - 1, by omega⟩
            rw [pk_m1]
            exact ih (s + 1) l N (by omega) (by omega) (by omega)
    exact key 4 0 l FU hll rfl (by have := FU_ge; omega)
theorem c_stepa {j kd : Nat} (hj : j < 5) (H : WH w h) (G : GrOK pl.1 w h) (P : PSOK (w * h) st p) (R : CFR st p CF) (hk : kd < 5) (hk1 : (pl.2.2.2.1 j).2.1 = nI kd) (hT : kd = 3 → TNok SN) : ∃ CF', CFR st (stp w h pl.1 mo pl.2.2.2.2.2.2.2.2.2.1 SN kd p) CF' ∧ EX8_step [.ref 44] (CH mz tp tk rd hi sc pl dr (wPa T CF SN (24 + j) mo p ou la) wo rc) = some (CH mz tp tk rd hi sc pl dr (wPa T CF' SN (24 + j) mo (stp w h pl.1 mo pl.2.2.2.2.2.2.2.2.2.1 SN kd p) ou la) wo rc) := by
  have hf := P.2.1
  have sL := sd_L p.2.1 hf
  have sR := sd_R p.2.1 hf
  rw [eX8_step_sa (hwj := hj), qX8_step_0a (hwj := hj), hk1]
  rcases (by omega : kd = 0 ∨ kd = 1 ∨ kd = 2 ∨ kd = 3 ∨ kd = 4) with rfl | rfl | rfl | rfl | rfl
  · obtain ⟨CF', R', e⟩ := c_turna (mz := mz) (tp := tp) (tk := tk) (rd := rd) (hi := hi) (sc := sc) (pl := pl) (dr := dr) (wo := wo) (rc := rc) (T := T) (SN := SN) (q := 24 + j) (mo := mo) (ou := ou) (la := la) H G (kd := 0) P R sL
    refine ⟨CF', R', ?_⟩
    rw [if_pos (by decide)]
    exact qX8_step_44a (hwj := hj) (h := e) ..
  · obtain ⟨CF', R', e⟩ := c_turna (mz := mz) (tp := tp) (tk := tk) (rd := rd) (hi := hi) (sc := sc) (pl := pl) (dr := dr) (wo := wo) (rc := rc) (T := T) (SN := SN) (q := 24 + j) (mo := mo) (ou := ou) (la := la) H G (kd := 1) P R sR
    refine ⟨CF', R', ?_⟩
    rw [if_neg (by decide), if_pos (by decide)]
    exact qX8_step_58a (hwj := hj) (h := e) ..
  · obtain ⟨CF', R', e⟩ := c_oncea (mz := mz) (tp := tp) (tk := tk) (rd := rd) (hi := hi) (sc := sc) (pl := pl) (dr := dr) (wo := wo) (rc := rc) (T := T) (SN := SN) (q := 24 + j) (mo := mo) (ou := ou) (la := la) H G P R
    refine ⟨CF', R', ?_⟩
    rw [if_neg (by decide), if_neg (by decide), if_pos (by decide)]
    exact qX8_step_65a (hwj := hj) (h := e) ..
  · obtain ⟨CF', R', e⟩ := c_cowa (mz := mz) (tp := tp) (tk := tk) (rd := rd) (hi := hi) (sc := sc) (pl := pl) (dr := dr) (wo := wo) (rc := rc) (T := T) (SN := SN) (q := 24 + j) (mo := mo) (ou := ou) (la := la) H G P R (hT rfl)
    refine ⟨CF', R', ?_⟩
    rw [if_neg (by decide), if_neg (by decide), if_neg (by decide), if_pos (by decide)]
    exact qX8_step_72a (hwj := hj) (h := e) ..
  · obtain ⟨CF', R', e⟩ := c_lota (mz := mz) (tp := tp) (tk := tk) (rd := rd) (hi := hi) (sc := sc) (pl := pl) (dr := dr) (wo := wo) (rc := rc) (T := T) (SN := SN) (q := 24 + j) (mo := mo) (ou := ou) (la := la) H G P R
    refine ⟨CF', R', ?_⟩
    rw [if_neg (by decide), if_neg (by decide), if_neg (by decide), if_neg (by decide)]
    exact qX8_step_79a (hwj := hj) (h := e) ..
end
section
variable {mz : MzS} {tp : TpS} {tk : TkS} {rd : RdS} {hi : HiS} {sc : ScS} {pl dr : PlS} {wo : WaS} {rc : Nat → Int32} {w h : Nat} {T CF SN : Nat → Int32} {q : Nat} {mo be : Int64} {ce fg sv ou la : Int32} {st : Nat} {p : PS}
theorem c_mownTob (H : WH w h) (G : GrOK pl.1 w h) {c s : Nat} (hc : c < w * h) (hs : s < 4) : EX8_mownTo [.ref 48, .int (nI s)] (CH mz tp tk rd hi sc pl dr wo (wA T CF SN 14 q mo be (nI c) fg sv ou la) rc) = some (oI (mto w h mo c s)) := by
  have hn := H.n
  have e : EX0_cellTo [.ref 15, .int (nI s), .int (nI c)] (CH mz tp tk rd hi sc pl dr wo (wA T CF SN 14 q mo be (nI c) fg sv ou la) rc) = some (oI (nb w h c s)) := e_cellTo H G hc hs
  rw [eX8_mownTo_sb, qX8_mownTo_0b, qX8_mownTo_12b (h := e)]
  unfold mto
  cases hnb : nb w h c s with
  | none => rw [oIn]; rfl
  | some d =>
    have hd := nb_lt H hc hs hnb
    rw [show oI (some d) = nI d from rfl, if_neg (nI_m1 (by omega)), qX8_mownTo_26b (h := e_isIn _ _ (by omega)), if_b2i, Option.bind_some]
    by_cases h5 : tb mo d = true
    · rw [if_pos h5, if_pos h5]; rfl
    · rw [if_neg h5, if_neg h5]; rfl
abbrev wPb (T CF SN : Nat → Int32) (q : Nat) (mo : Int64) (p : PS) (ou la : Int32) : WaS := wA T CF SN 14 q mo p.2.2.2.1 (nI p.1) (nI p.2.1) (nI p.2.2.1) ou la
theorem c_enterb {d : Nat} (hd : d < 48) (fr : Int32) : EX8_enter [.ref 48, .int (nI d), .int fr] (CH mz tp tk rd hi sc pl dr wo (wA T CF SN 14 q mo be ce fg sv ou la) rc) = some (CH mz tp tk rd hi sc pl dr wo (wA T (if tb be d = true then CF else upd CF d fr) SN 14 q mo (be ||| bitL (nI d)) (nI d) fg sv ou la) rc) := by
  rw [eX8_enter_sb, qX8_enter_0b, qX8_enter_5b (h := e_isIn _ _ (by omega)), if_b2i, if_neg (nI_pos (by omega)), l48, if_le (by omega) (by omega), if_neg (by omega : ¬ 48 ≤ d), if_neg (nI_in hd (by omega)), nI_clamp (by omega)]
  by_cases h5 : tb be d = true
  · rw [if_pos h5, if_pos h5]
  · rw [if_neg h5, if_neg h5]
theorem c_entb {n d : Nat} (hn : n ≤ 48) (P : PSOK n st p) (R : CFR st p CF) (hd : d < n) : ∃ CF', CFR st (ent d p) CF' ∧ EX8_enter [.ref 48, .int (nI d), .int (nI p.1)] (CH mz tp tk rd hi sc pl dr wo (wPb T CF SN q mo p ou la) rc) = some (CH mz tp tk rd hi sc pl dr wo (wPb T CF' SN q mo (ent d p) ou la) rc) :=
  ⟨_, ent_CFR hn P R hd, c_enterb (by omega) _⟩
theorem c_turnb (H : WH w h) (G : GrOK pl.1 w h) {kd : Nat} {a t : Int32} (P : PSOK (w * h) st p) (R : CFR st p CF) (hs : ∀ i, i < 4 → ((nI p.2.1 + a) + (t * nI i)) - ((nI p.2.1 + a) + (t * nI i)) / 4 * 4 = nI (sdT kd p.2.1 i)) : ∃ CF', CFR st (stT w h mo kd p) CF' ∧ EX8_stepTurning [.ref 48, .int (nI p.2.1 + a), .int t] (CH mz tp tk rd hi sc pl dr wo (wPb T CF SN q mo p ou la) rc) = some (CH mz tp tk rd hi sc pl dr wo (wPb T CF' SN q mo (stT w h mo kd p) ou la) rc) := by
  have hn := H.n
  rw [eX8_stepTurning_sb, qX8_stepTurning_0b]
  unfold stT
  rcases fs4_ok (fun i => mto w h mo p.1 (sdT kd p.2.1 i)) with ⟨e, h1⟩ | ⟨j, d, e, hj, hd, h1⟩
  · rw [e]
    refine ⟨CF, R, ?_⟩
    refine lp_run (fun i => [(0, .ref 48), (1, .int (nI p.2.1 + a)), (2, .int t), (3, .int (nI i))]) (fun _ => (CH mz tp tk rd hi sc pl dr wo (wPb T CF SN q mo p ou la) rc)) (t := 4) (by have := FU_ge; omega) (fun i hi k => ?_) (fun k => ?_)
    · rw [qX8_stepTurning_2b, l4, if_le (by omega) (by omega), if_neg (by omega), ← l4, hs i hi, qX8_stepTurning_19b (h := c_mownTob H G P.1 (sdT_lt _ _ _)), h1 i hi, oIn, nI_1]
    · rw [qX8_stepTurning_2b, l4, if_le (by omega) (by omega), if_pos (by omega)]
  · rw [e]
    dsimp only
    have hdn := mto_lt H P.1 (sdT_lt _ _ _) hd
    have hd : mto w h mo p.1 (sdT kd p.2.1 j) = some d := hd
    obtain ⟨CF', R', e2⟩ := c_entb (mz := mz) (tp := tp) (tk := tk) (rd := rd) (hi := hi) (sc := sc) (pl := pl) (dr := dr) (wo := wo) (rc := rc) (T := T) (SN := SN) (q := q) (mo := mo) (ou := ou) (la := la) (p := (p.1, sdT kd p.2.1 j, p.2.2)) hn.1 ⟨P.1, sdT_lt _ _ _, P.2.2⟩ R hdn
    refine ⟨CF', R', ?_⟩
    refine lp_run (fun i => [(0, .ref 48), (1, .int (nI p.2.1 + a)), (2, .int t), (3, .int (nI i))]) (fun _ => (CH mz tp tk rd hi sc pl dr wo (wPb T CF SN q mo p ou la) rc)) (t := j) (by have := FU_ge; omega) (fun i hi k => ?_) (fun k => ?_)
    · rw [qX8_stepTurning_2b, l4, if_le (by omega) (by omega), if_neg (by omega), ← l4, hs i (by omega), qX8_stepTurning_19b (h := c_mownTob H G P.1 (sdT_lt _ _ _)), h1 i hi, oIn, nI_1]
    · rw [qX8_stepTurning_2b, l4, if_le (by omega) (by omega), if_neg (by omega), ← l4, hs j hj, qX8_stepTurning_19b (h := c_mownTob H G P.1 (sdT_lt _ _ _)), hd, show oI (some d) = nI d from rfl, if_neg (nI_m1 (by omega))]
      exact qX8_stepTurning_43b (h := e2) ..
theorem c_onceb (H : WH w h) (G : GrOK pl.1 w h) (P : PSOK (w * h) st p) (R : CFR st p CF) : ∃ CF', CFR st (stO w h mo p) CF' ∧ EX8_stepOnce [.ref 48] (CH mz tp tk rd hi sc pl dr wo (wPb T CF SN q mo p ou la) rc) = some (CH mz tp tk rd hi sc pl dr wo (wPb T CF' SN q mo (stO w h mo p) ou la) rc) := by
  have hn := H.n
  have hc := P.1
  rw [eX8_stepOnce_sb, qX8_stepOnce_0b]
  have hround : ∀ i, i < 4 → frs w h mo p i = none → ∀ k, BX8_stepOnce_2 k [(0, .ref 48), (1, .int (nI i))] [] (CH mz tp tk rd hi sc pl dr wo (wPb T CF SN q mo p ou la) rc) = k [(0, .ref 48), (1, .int (nI (i + 1)))] [] (CH mz tp tk rd hi sc pl dr wo (wPb T CF SN q mo p ou la) rc) := fun i hi h1 k => by
    rw [qX8_stepOnce_2b, l4, if_le (by omega) (by omega), if_neg (by omega), qX8_stepOnce_9b (h := c_mownTob H G P.1 hi)]
    cases hm : mto w h mo p.1 i with
    | none => rw [oIn, nI_1]
    | some d =>
      have hdn := mto_lt H P.1 hi hm
      rw [show oI (some d) = nI d from rfl, if_neg (nI_m1 (by omega)), qX8_stepOnce_23b (h := e_isIn _ _ (by omega)), if_b2i, if_pos (frs_none h1 hm), nI_1]
  unfold stO
  rcases fs4_ok (frs w h mo p) with ⟨e, h1⟩ | ⟨j, d, e, hj, hd, h1⟩
  · rw [e]
    dsimp only
    have hon := P.2.2.2.1 _ (P.2.2.2.2.2.2.1 _ P.2.2.2.2.1)
    have hcf := R p.1 (by omega) P.2.2.2.2.1
    by_cases hst : p.1 = st
    · have ho : p.2.2.2.2 p.1 = p.1 := by rw [hst]; exact P.2.2.2.2.2.2.2
      have e3 : (if tb mo (p.2.2.2.2 p.1) = true then ent (p.2.2.2.2 p.1) p else p) = p := by
        rw [ho, ent_self hn.1 P]
        by_cases h5 : tb mo p.1 = true
        · rw [if_pos h5]
        · rw [if_neg h5]
      rw [e3]
      refine ⟨CF, R, ?_⟩
      refine lp_run (fun i => [(0, .ref 48), (1, .int (nI i))]) (fun _ => (CH mz tp tk rd hi sc pl dr wo (wPb T CF SN q mo p ou la) rc)) (t := 4) (by have := FU_ge; omega) (fun i hi k => hround i hi (h1 i hi) k) (fun k => ?_)
      rw [qX8_stepOnce_2b, l4, if_le (by omega) (by omega), if_pos (by omega), if_neg (nI_pos (by omega)), l48, if_le (by omega) (by omega), if_neg (by omega), if_neg (nI_in (by omega : p.1 < 48) (by omega)), nI_clamp (by omega), hcf, if_pos hst, qX8_stepOnce_77b, if_pos rfl]
    · rw [if_neg hst] at hcf
      by_cases h5 : tb mo (p.2.2.2.2 p.1) = true
      · rw [if_pos h5]
        obtain ⟨CF', R', e2⟩ := c_entb (mz := mz) (tp := tp) (tk := tk) (rd := rd) (hi := hi) (sc := sc) (pl := pl) (dr := dr) (wo := wo) (rc := rc) (T := T) (SN := SN) (q := q) (mo := mo) (ou := ou) (la := la) hn.1 P R hon
        refine ⟨CF', R', ?_⟩
        refine lp_run (fun i => [(0, .ref 48), (1, .int (nI i))]) (fun _ => (CH mz tp tk rd hi sc pl dr wo (wPb T CF SN q mo p ou la) rc)) (t := 4) (by have := FU_ge; omega) (fun i hi k => hround i hi (h1 i hi) k) (fun k => ?_)
        rw [qX8_stepOnce_2b, l4, if_le (by omega) (by omega), if_pos (by omega), if_neg (nI_pos (by omega)), l48, if_le (by omega) (by omega), if_neg (by omega), if_neg (nI_in (by omega : p.1 < 48) (by omega)), nI_clamp (by omega), hcf, qX8_stepOnce_77b, if_neg (nI_m1 (by omega)), qX8_stepOnce_88b (h := e_isIn _ _ (by omega)), if_b2i, if_pos h5]
        exact qX8_stepOnce_100b (h := e2) ..
      · rw [if_neg h5]
        refine ⟨CF, R, ?_⟩
        refine lp_run (fun i => [(0, .ref 48), (1, .int (nI i))]) (fun _ => (CH mz tp tk rd hi sc pl dr wo (wPb T CF SN q mo p ou la) rc)) (t := 4) (by have := FU_ge; omega) (fun i hi k => hround i hi (h1 i hi) k) (fun k => ?_)
        rw [qX8_stepOnce_2b, l4, if_le (by omega) (by omega), if_pos (by omega), if_neg (nI_pos (by omega)), l48, if_le (by omega) (by omega), if_neg (by omega), if_neg (nI_in (by omega : p.1 < 48) (by omega)), nI_clamp (by omega), hcf, qX8_stepOnce_77b, if_neg (nI_m1 (by omega)), qX8_stepOnce_88b (h := e_isIn _ _ (by omega)), if_b2i, if_neg h5]
  · rw [e]
    dsimp only
    obtain ⟨hm, hb⟩ := frs_some hd
    have hdn := mto_lt H P.1 hj hm
    obtain ⟨CF', R', e2⟩ := c_entb (mz := mz) (tp := tp) (tk := tk) (rd := rd) (hi := hi) (sc := sc) (pl := pl) (dr := dr) (wo := wo) (rc := rc) (T := T) (SN := SN) (q := q) (mo := mo) (ou := ou) (la := la) hn.1 P R hdn
    refine ⟨CF', R', ?_⟩
    refine lp_run (fun i => [(0, .ref 48), (1, .int (nI i))]) (fun _ => (CH mz tp tk rd hi sc pl dr wo (wPb T CF SN q mo p ou la) rc)) (t := j) (by have := FU_ge; omega) (fun i hi k => hround i (by omega) (h1 i hi) k) (fun k => ?_)
    rw [qX8_stepOnce_2b, l4, if_le (by omega) (by omega), if_neg (by omega), qX8_stepOnce_9b (h := c_mownTob H G P.1 hj), hm, show oI (some d) = nI d from rfl, if_neg (nI_m1 (by omega)), qX8_stepOnce_23b (h := e_isIn _ _ (by omega)), if_b2i, if_neg (by rw [hb]; decide)]
    exact qX8_stepOnce_35b (h := e2) ..
theorem c_cowb (H : WH w h) (G : GrOK pl.1 w h) (P : PSOK (w * h) st p) (R : CFR st p CF) (hT : TNok SN) : ∃ CF', CFR st (stC w h mo pl.2.2.2.2.2.2.2.2.2.1 SN p) CF' ∧ EX8_stepToNoise [.ref 48] (CH mz tp tk rd hi sc pl dr wo (wPb T CF SN q mo p ou la) rc) = some (CH mz tp tk rd hi sc pl dr wo (wPb T CF' SN q mo (stC w h mo pl.2.2.2.2.2.2.2.2.2.1 SN p) ou la) rc) := by
  have hn := H.n
  have hc := P.1
  rw [eX8_stepToNoise_sb, qX8_stepToNoise_0b]
  unfold stC
  by_cases h0 : nI p.1 = pl.2.2.2.2.2.2.2.2.2.1
  · rw [if_pos h0, if_pos h0]
    exact ⟨CF, R, rfl⟩
  · rw [if_neg h0, if_neg h0]
    have hround : ∀ i, i < 4 → ∀ k, BX8_stepToNoise_22 k [(0, .ref 48), (1, .int (oI (bst w h mo SN p.1 i))), (2, .int (few SN (bst w h mo SN p.1 i))), (3, .int (nI i))] [] (CH mz tp tk rd hi sc pl dr wo (wPb T CF SN q mo p ou la) rc) = k [(0, .ref 48), (1, .int (oI (bst w h mo SN p.1 (i + 1)))), (2, .int (few SN (bst w h mo SN p.1 (i + 1)))), (3, .int (nI (i + 1)))] [] (CH mz tp tk rd hi sc pl dr wo (wPb T CF SN q mo p ou la) rc) := fun i hi k => by
      rw [qX8_stepToNoise_22b, l4, if_le (by omega) (by omega), if_neg (by omega), qX8_stepToNoise_29b (h := c_mownTob H G P.1 hi), bst_s]
      cases hm : mto w h mo p.1 i with
      | none =>
        rw [show oI none = -1 from rfl, if_pos (by decide), qX8_stepToNoise_59b, qX8_stepToNoise_61b, if_pos (by decide), nI_1]
      | some d =>
        have hdn := mto_lt H P.1 hi hm
        rw [show oI (some d) = nI d from rfl, if_neg (nI_pos (by omega)), l48, if_le (by omega) (by omega), if_neg (by omega), if_neg (nI_in (by omega : d < 48) (by omega)), nI_clamp (by omega), qX8_stepToNoise_61b]
        dsimp only
        rcases hT d (by omega) with e | ⟨a, ha, e⟩
        · rw [if_pos (by rw [e]; decide), if_pos e, nI_1]
        · rw [if_neg (show ¬ SN d < 0 by rw [e]; exact nI_pos (by omega)), if_neg (show ¬ SN d = -2 by rw [e]; exact nI_m2 (by omega))]
          cases hb : bst w h mo SN p.1 i with
          | none =>
            rw [show few SN none = nI 48 from rfl, e, if_le (by omega) (by omega), if_neg (by omega), nI_1]
            show _ = k [(0, .ref 48), (1, .int (nI d)), (2, .int (SN d)), (3, .int (nI (i + 1)))] [] _
            rw [e]
          | some y =>
            dsimp only
            rw [show few SN (some y) = SN y from rfl]
            by_cases hl : SN d < SN y
            · rw [if_pos hl, if_neg (Int32.not_le.mpr hl), nI_1]; rfl
            · rw [if_neg hl, if_pos (Int32.not_lt.mp hl), nI_1]; rfl
    cases hb : bst w h mo SN p.1 4 with
    | none =>
      refine ⟨CF, R, ?_⟩
      refine lp_run (fun i => [(0, .ref 48), (1, .int (oI (bst w h mo SN p.1 i))), (2, .int (few SN (bst w h mo SN p.1 i))), (3, .int (nI i))]) (fun _ => (CH mz tp tk rd hi sc pl dr wo (wPb T CF SN q mo p ou la) rc)) (t := 4) (by have := FU_ge; omega) (fun i hi k => hround i hi k) (fun k => ?_)
      rw [qX8_stepToNoise_22b, l4, if_le (by omega) (by omega), if_pos (by omega), hb, oIn]
    | some d =>
      obtain ⟨⟨i, hi4, h1⟩, _⟩ := bst_some hb
      have hdn := mto_lt H P.1 hi4 h1
      obtain ⟨CF', R', e2⟩ := c_entb (mz := mz) (tp := tp) (tk := tk) (rd := rd) (hi := hi) (sc := sc) (pl := pl) (dr := dr) (wo := wo) (rc := rc) (T := T) (SN := SN) (q := q) (mo := mo) (ou := ou) (la := la) hn.1 P R hdn
      refine ⟨CF', R', ?_⟩
      refine lp_run (fun i => [(0, .ref 48), (1, .int (oI (bst w h mo SN p.1 i))), (2, .int (few SN (bst w h mo SN p.1 i))), (3, .int (nI i))]) (fun _ => (CH mz tp tk rd hi sc pl dr wo (wPb T CF SN q mo p ou la) rc)) (t := 4) (by have := FU_ge; omega) (fun i hi k => hround i hi k) (fun k => ?_)
      rw [qX8_stepToNoise_22b, l4, if_le (by omega) (by omega), if_pos (by omega), hb, show oI (some d) = nI d from rfl, if_neg (nI_m1 (by omega))]
      exact qX8_stepToNoise_97b (h := e2) ..
theorem c_lotb (H : WH w h) (G : GrOK pl.1 w h) (P : PSOK (w * h) st p) (R : CFR st p CF) : ∃ CF', CFR st (stLo w h pl.1 mo p) CF' ∧ EX8_stepByLot [.ref 48] (CH mz tp tk rd hi sc pl dr wo (wPb T CF SN q mo p ou la) rc) = some (CH mz tp tk rd hi sc pl dr wo (wPb T CF' SN q mo (stLo w h pl.1 mo p) ou la) rc) := by
  have hn := H.n
  have hc := P.1
  have hv := P.2.2.1
  have hwy : way pl.1 mo p.1 ≤ 64 := pcn_le _
  have hway : pcn (besd pl.1 (bitL (nI p.1)) &&& mo) = way pl.1 mo p.1 := rfl
  rw [eX8_stepByLot_sb, qX8_stepByLot_0b, bcnt_eq, drawc (by omega), hway]
  unfold stLo
  by_cases h0 : way pl.1 mo p.1 = 0
  · rw [if_pos h0, if_pos (by rw [h0]; rfl)]
    exact ⟨CF, R, rfl⟩
  · have h01 : ¬ nI (way pl.1 mo p.1) = 0 := nI_ne0 (Nat.pos_of_ne_zero h0) (show way pl.1 mo p.1 < 2 ^ 31 by omega)
    have hdr := drw_lt p.2.2.1
    rw [if_neg h0, if_neg h01, if_pos h01, pk_rem (by omega) (Nat.pos_of_ne_zero h0) (show way pl.1 mo p.1 < 2 ^ 31 by omega)]
    show ∃ CF', _ ∧ lp BX8_stepByLot_44 FU [(0, .ref 48), (2, .int (nI (drw p.2.2.1 % way pl.1 mo p.1))), (3, .int 0)] [] _ = _
    have hll : drw p.2.2.1 % way pl.1 mo p.1 < 2 ^ 30 := Nat.lt_of_lt_of_le (Nat.mod_lt _ (Nat.pos_of_ne_zero h0)) (by omega)
    generalize drw p.2.2.1 % way pl.1 mo p.1 = l at hll ⊢
    have P1 : PSOK (w * h) st (p.1, p.2.1, drw p.2.2.1, p.2.2.2) := ⟨P.1, P.2.1, hdr, P.2.2.2⟩
    have R1 : CFR st (p.1, p.2.1, drw p.2.2.1, p.2.2.2) CF := R
    have key : ∀ i s l N, l < 2 ^ 30 → s + i = 4 → i < N → ∃ CF', CFR st (match lot w h mo p.1 i s l with | some d => ent d (p.1, p.2.1, drw p.2.2.1, p.2.2.2) | none => (p.1, p.2.1, drw p.2.2.1, p.2.2.2)) CF' ∧ lp BX8_stepByLot_44 N [(0, .ref 48), (2, .int (nI l)), (3, .int (nI s))] [] (CH mz tp tk rd hi sc pl dr wo (wPb T CF SN q mo (p.1, p.2.1, drw p.2.2.1, p.2.2.2) ou la) rc) = some (CH mz tp tk rd hi sc pl dr wo (wPb T CF' SN q mo (match lot w h mo p.1 i s l with | some d => ent d (p.1, p.2.1, drw p.2.2.1, p.2.2.2) | none => (p.1, p.2.1, drw p.2.2.1, p.2.2.2)) ou la) rc) := by
      intro i
      induction i with
      | zero =>
        intro s l N hl hs hN
        refine ⟨CF, R1, ?_⟩
        obtain ⟨N, rfl⟩ : ∃ N', N = N' + 1 := ⟨N - 1, by omega⟩
        show BX8_stepByLot_44 (lp BX8_stepByLot_44 N) _ _ _ = _
        rw [qX8_stepByLot_44b, l4, if_le (by omega) (by omega), if_pos (by omega)]
        rfl
      | succ i ih =>
        intro s l N hl hs hN
        obtain ⟨N, rfl⟩ : ∃ N', N = N' + 1 := ⟨N - 1, by omega⟩
        have e0 : lp BX8_stepByLot_44 (N + 1) [(0, .ref 48), (2, .int (nI l)), (3, .int (nI s))] [] (CH mz tp tk rd hi sc pl dr wo (wPb T CF SN q mo (p.1, p.2.1, drw p.2.2.1, p.2.2.2) ou la) rc) = BX8_stepByLot_44 (lp BX8_stepByLot_44 N) [(0, .ref 48), (2, .int (nI l)), (3, .int (nI s))] [] (CH mz tp tk rd hi sc pl dr wo (wPb T CF SN q mo (p.1, p.2.1, drw p.2.2.1, p.2.2.2) ou la) rc) := rfl
        rw [e0, qX8_stepByLot_44b, l4, if_le (by omega) (by omega), if_neg (by omega), qX8_stepByLot_51b (h := c_mownTob H G P.1 (by omega : s < 4)), lot_s]
        cases hm : mto w h mo p.1 s with
        | none =>
          rw [oIn, nI_1]
          exact ih (s + 1) l N hl (by omega) (by omega)
        | some d =>
          have hdn := mto_lt H P.1 (by omega : s < 4) hm
          rw [show oI (some d) = nI d from rfl, if_neg (nI_m1 (by omega))]
          dsimp only
          by_cases hl0 : l = 0
          · subst hl0
            obtain ⟨CF', R', e2⟩ := c_entb (mz := mz) (tp := tp) (tk := tk) (rd := rd) (hi := hi) (sc := sc) (pl := pl) (dr := dr) (wo := wo) (rc := rc) (T := T) (SN := SN) (q := q) (mo := mo) (ou := ou) (la := la) hn.1 P1 R1 hdn
            refine ⟨CF', R', ?_⟩
            rw [if_pos nI_0, if_pos rfl]
            exact qX8_stepByLot_73b (h := e2) ..
          · rw [if_neg hl0, if_neg (nI_ne0 (by omega) (by omega)), nI_1]
            obtain ⟨l, rfl⟩ : ∃ l', l = l' + 1 := ⟨l - 1, by omega⟩
            rw [pk_m1]
            exact ih (s + 1) l N (by omega) (by omega) (by omega)
    exact key 4 0 l FU hll rfl (by have := FU_ge; omega)
theorem c_stepb {j kd : Nat} (hj : j < 5) (H : WH w h) (G : GrOK pl.1 w h) (P : PSOK (w * h) st p) (R : CFR st p CF) (hk : kd < 5) (hk1 : (pl.2.2.2.1 j).2.1 = nI kd) (hT : kd = 3 → TNok SN) : ∃ CF', CFR st (stp w h pl.1 mo pl.2.2.2.2.2.2.2.2.2.1 SN kd p) CF' ∧ EX8_step [.ref 48] (CH mz tp tk rd hi sc pl dr wo (wPb T CF SN (24 + j) mo p ou la) rc) = some (CH mz tp tk rd hi sc pl dr wo (wPb T CF' SN (24 + j) mo (stp w h pl.1 mo pl.2.2.2.2.2.2.2.2.2.1 SN kd p) ou la) rc) := by
  have hf := P.2.1
  have sL := sd_L p.2.1 hf
  have sR := sd_R p.2.1 hf
  rw [eX8_step_sb (hwj := hj), qX8_step_0b (hwj := hj), hk1]
  rcases (by omega : kd = 0 ∨ kd = 1 ∨ kd = 2 ∨ kd = 3 ∨ kd = 4) with rfl | rfl | rfl | rfl | rfl
  · obtain ⟨CF', R', e⟩ := c_turnb (mz := mz) (tp := tp) (tk := tk) (rd := rd) (hi := hi) (sc := sc) (pl := pl) (dr := dr) (wo := wo) (rc := rc) (T := T) (SN := SN) (q := 24 + j) (mo := mo) (ou := ou) (la := la) H G (kd := 0) P R sL
    refine ⟨CF', R', ?_⟩
    rw [if_pos (by decide)]
    exact qX8_step_44b (hwj := hj) (h := e) ..
  · obtain ⟨CF', R', e⟩ := c_turnb (mz := mz) (tp := tp) (tk := tk) (rd := rd) (hi := hi) (sc := sc) (pl := pl) (dr := dr) (wo := wo) (rc := rc) (T := T) (SN := SN) (q := 24 + j) (mo := mo) (ou := ou) (la := la) H G (kd := 1) P R sR
    refine ⟨CF', R', ?_⟩
    rw [if_neg (by decide), if_pos (by decide)]
    exact qX8_step_58b (hwj := hj) (h := e) ..
  · obtain ⟨CF', R', e⟩ := c_onceb (mz := mz) (tp := tp) (tk := tk) (rd := rd) (hi := hi) (sc := sc) (pl := pl) (dr := dr) (wo := wo) (rc := rc) (T := T) (SN := SN) (q := 24 + j) (mo := mo) (ou := ou) (la := la) H G P R
    refine ⟨CF', R', ?_⟩
    rw [if_neg (by decide), if_neg (by decide), if_pos (by decide)]
    exact qX8_step_65b (hwj := hj) (h := e) ..
  · obtain ⟨CF', R', e⟩ := c_cowb (mz := mz) (tp := tp) (tk := tk) (rd := rd) (hi := hi) (sc := sc) (pl := pl) (dr := dr) (wo := wo) (rc := rc) (T := T) (SN := SN) (q := 24 + j) (mo := mo) (ou := ou) (la := la) H G P R (hT rfl)
    refine ⟨CF', R', ?_⟩
    rw [if_neg (by decide), if_neg (by decide), if_neg (by decide), if_pos (by decide)]
    exact qX8_step_72b (hwj := hj) (h := e) ..
  · obtain ⟨CF', R', e⟩ := c_lotb (mz := mz) (tp := tp) (tk := tk) (rd := rd) (hi := hi) (sc := sc) (pl := pl) (dr := dr) (wo := wo) (rc := rc) (T := T) (SN := SN) (q := 24 + j) (mo := mo) (ou := ou) (la := la) H G P R
    refine ⟨CF', R', ?_⟩
    rw [if_neg (by decide), if_neg (by decide), if_neg (by decide), if_neg (by decide)]
    exact qX8_step_79b (hwj := hj) (h := e) ..
end
