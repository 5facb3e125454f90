/-! How the model's walkers go. -/
theorem nle4 {i : Nat} (h : i < 4) : ¬ (4 : Int32) ≤ nI i := nI_ge (b := 4) h (by omega)
theorem le4 {i : Nat} (h : 4 ≤ i) (h2 : i < 2 ^ 31) : (4 : Int32) ≤ nI i := nI_le (a := 4) h h2
theorem sm_3 : ∀ s, s < 4 → nI s &&& 3 = nI s := by decide +kernel
theorem sm_L : ∀ f, f < 4 → ((nI f + 3) &&& 3 = nI (sdT 0 f 0)) ∧ ((nI f + 0) &&& 3 = nI (sdT 0 f 1)) ∧ ((nI f + (4 - 3)) &&& 3 = nI (sdT 0 f 2)) ∧ ((nI f + 2) &&& 3 = nI (sdT 0 f 3)) := by decide +kernel
theorem sm_R : ∀ f, f < 4 → ((nI f + 1) &&& 3 = nI (sdT 1 f 0)) ∧ ((nI f + 0) &&& 3 = nI (sdT 1 f 1)) ∧ ((nI f + (4 - 1)) &&& 3 = nI (sdT 1 f 2)) ∧ ((nI f + 2) &&& 3 = nI (sdT 1 f 3)) := by decide +kernel
theorem drawm {v : Nat} (hv : v < 65537) : (((75 * (nI v).toInt64) + 74) - ((75 * (nI v).toInt64) + 74) / 65537 * 65537).toInt32 = nI (drw v) := by
  have e : (75 * (nI v).toInt64) + 74 = lN (75 * v + 74) := by
    rw [nI_l (by omega), show (75 : Int64) = lN 75 from rfl, show (74 : Int64) = lN 74 from rfl, lN_mul, lN_add]
  rw [e, show (65537 : Int64) = lN 65537 from rfl, pk_lRem (by omega) (by omega) (by omega), lN_i]
  rfl
section
variable {th mtr wh ta mfa : Int32} {mo : Int64} {sd ac mk : Int32} {mq : MsS} {ma : MaS} {me : MeS} {rdv : Value} {ce fg ow ou sk bp : Int32} {F Q CF TN RW OR BE : Nat → Int32} {w h : Nat} {g : GrS} {st : Nat} {p : PS}
theorem m_mownTo (H : WH w h) (h1 : me.1.1 = nI w) (h2 : me.1.2.1 = nI h) {c s : Nat} (hc : c < w * h) (hs : s < 4) : EX12_mownTo [.ref 0, .int (nI s)] (M1 (th, mtr, wh, ta, mfa, mo, sd, ac, mk) (MQw mq (nI c) fg ow ou sk bp) (MAw ma F Q CF TN RW OR BE) me rdv) = some (oI (mto w h mo c s)) := by
  have hn := H.n
  rw [eX12_mownTo_s_w, qX12_mownTo_0_w, sm_3 s hs, qX12_mownTo_11_w (h := e_to H h1 h2 hc hs)]
  unfold mto
  cases hnb : nb w h c s with
  | none => rw [oIn]; rfl
  | some d =>
    have hd := nb_lt H hc hs hnb
    rw [show oI (some d) = nI d from rfl, if_neg (nI_m1 (by omega)), qX12_mownTo_25_w (h := e_has _ _ (by omega)), if_b2i, Option.bind_some]
    by_cases h5 : tb mo d = true
    · rw [if_pos h5, if_pos h5]; rfl
    · rw [if_neg h5, if_neg h5]; rfl
theorem m_turns (H : WH w h) (h1 : me.1.1 = nI w) (h2 : me.1.2.1 = nI h) {kd c f : Nat} {hd : Int32} (hc : c < w * h) (hs : ((nI f + hd) &&& 3 = nI (sdT kd f 0)) ∧ ((nI f + 0) &&& 3 = nI (sdT kd f 1)) ∧ ((nI f + (4 - hd)) &&& 3 = nI (sdT kd f 2)) ∧ ((nI f + 2) &&& 3 = nI (sdT kd f 3))) : EX12_turns [.ref 0, .int hd] (M1 (th, mtr, wh, ta, mfa, mo, sd, ac, mk) (MQw mq (nI c) (nI f) ow ou sk bp) (MAw ma F Q CF TN RW OR BE) me rdv) = some (match fs4 (fun i => mto w h mo c (sdT kd f i)) with
    | some (i, d) => (M1 (th, mtr, wh, ta, mfa, mo, sd, ac, mk) (MQw mq (nI d) (nI (sdT kd f i)) ow ou sk bp) (MAw ma F Q CF TN RW OR BE) me rdv)
    | none => (M1 (th, mtr, wh, ta, mfa, mo, sd, ac, mk) (MQw mq (nI c) (nI f) ow ou sk bp) (MAw ma F Q CF TN RW OR BE) me rdv)) := by
  have hn := H.n
  obtain ⟨s0, s1, s2, s3⟩ := hs
  rw [eX12_turns_s_w, qX12_turns_0_w]
  have hround : ∀ i, i < 4 → ∀ k, BX12_turns_2 k [(0, .ref 0), (1, .int hd), (2, .int (nI i))] [] (M1 (th, mtr, wh, ta, mfa, mo, sd, ac, mk) (MQw mq (nI c) (nI f) ow ou sk bp) (MAw ma F Q CF TN RW OR BE) me rdv) = (match mto w h mo c (sdT kd f i) with
      | none => k [(0, .ref 0), (1, .int hd), (2, .int (nI (i + 1)))] [] (M1 (th, mtr, wh, ta, mfa, mo, sd, ac, mk) (MQw mq (nI c) (nI f) ow ou sk bp) (MAw ma F Q CF TN RW OR BE) me rdv)
      | some d => some (M1 (th, mtr, wh, ta, mfa, mo, sd, ac, mk) (MQw mq (nI d) (nI (sdT kd f i)) ow ou sk bp) (MAw ma F Q CF TN RW OR BE) me rdv)) := fun i hi k => by
    have fin : BX12_turns_46 k [(0, .ref 0), (1, .int hd), (2, .int (nI i)), (3, .int (nI (sdT kd f i)))] [.int (nI (sdT kd f i)), .ref 0] (M1 (th, mtr, wh, ta, mfa, mo, sd, ac, mk) (MQw mq (nI c) (nI f) ow ou sk bp) (MAw ma F Q CF TN RW OR BE) me rdv) = (match mto w h mo c (sdT kd f i) with
      | none => k [(0, .ref 0), (1, .int hd), (2, .int (nI (i + 1)))] [] (M1 (th, mtr, wh, ta, mfa, mo, sd, ac, mk) (MQw mq (nI c) (nI f) ow ou sk bp) (MAw ma F Q CF TN RW OR BE) me rdv)
      | some d => some (M1 (th, mtr, wh, ta, mfa, mo, sd, ac, mk) (MQw mq (nI d) (nI (sdT kd f i)) ow ou sk bp) (MAw ma F Q CF TN RW OR BE) me rdv)) := by
      rw [qX12_turns_46_w (h := m_mownTo H h1 h2 hc (sdT_lt _ _ _))]
      cases hm : mto w h mo c (sdT kd f i) with
      | none => rw [oIn, nI_1]
      | some d =>
        have hdn := mto_lt H hc (sdT_lt _ _ _) hm
        rw [show oI (some d) = nI d from rfl, if_neg (nI_m1 (by omega))]
    rw [← fin]
    rcases (by omega : i = 0 ∨ i = 1 ∨ i = 2 ∨ i = 3) with rfl | rfl | rfl | rfl
    · rw [qX12_turns_2_w, if_neg (by decide), if_pos (by decide), qX12_turns_40_w, s0]
    · rw [qX12_turns_2_w, if_neg (by decide), if_neg (by decide), if_pos (by decide), qX12_turns_40_w, s1]
    · rw [qX12_turns_2_w, if_neg (by decide), if_neg (by decide), if_neg (by decide), if_pos (by decide), qX12_turns_40_w, s2]
    · rw [qX12_turns_2_w, if_neg (by decide), if_neg (by decide), if_neg (by decide), if_neg (by decide), qX12_turns_40_w, s3]
  rcases fs4_ok (fun i => mto w h mo c (sdT kd f i)) with ⟨e, h3⟩ | ⟨j, d, e, hj, hd2, h3⟩
  · rw [e]
    dsimp only
    refine lp_run (fun i => [(0, .ref 0), (1, .int hd), (2, .int (nI i))]) (fun _ => (M1 (th, mtr, wh, ta, mfa, mo, sd, ac, mk) (MQw mq (nI c) (nI f) ow ou sk bp) (MAw ma F Q CF TN RW OR BE) me rdv)) (t := 4) (by have := FU_ge; omega) (fun i hi k => ?_) (fun k => ?_)
    · rw [hround i hi, h3 i hi]
    · rw [qX12_turns_2_w, if_pos (by decide)]
  · rw [e]
    dsimp only
    have hd2 : mto w h mo c (sdT kd f j) = some d := hd2
    refine lp_run (fun i => [(0, .ref 0), (1, .int hd), (2, .int (nI i))]) (fun _ => (M1 (th, mtr, wh, ta, mfa, mo, sd, ac, mk) (MQw mq (nI c) (nI f) ow ou sk bp) (MAw ma F Q CF TN RW OR BE) me rdv)) (t := j) (by have := FU_ge; omega) (fun i hi k => ?_) (fun k => ?_)
    · rw [hround i (by omega), h3 i hi]
    · rw [hround j hj, hd2]
theorem m_once (H : WH w h) (h1 : me.1.1 = nI w) (h2 : me.1.2.1 = nI h) (P : PSOK (w * h) st p) (R : MFR p CF) : ∃ CF', MFR (stO w h mo p) CF' ∧ EX12_goesOnce [.ref 0] (M1 (th, mtr, wh, ta, mfa, mo, sd, ac, mk) (MQw mq (nI p.1) (nI p.2.1) (nI p.2.2.1) ou sk bp) (MAw ma F Q CF TN RW OR BE) me rdv) = some (M1 (th, mtr, wh, ta, mfa, mo, sd, ac, mk) (MQw mq (nI (stO w h mo p).1) (nI (stO w h mo p).2.1) (nI (stO w h mo p).2.2.1) ou sk bp) (MAw ma F Q CF' TN RW OR BE) me rdv) := by
  have hn := H.n
  have hc := P.1
  rw [eX12_goesOnce_s_w, qX12_goesOnce_0_w]
  have hround : ∀ i, i < 4 → ∀ k, BX12_goesOnce_2 k [(0, .ref 0), (1, .int (nI i))] [] (M1 (th, mtr, wh, ta, mfa, mo, sd, ac, mk) (MQw mq (nI p.1) (nI p.2.1) (nI p.2.2.1) ou sk bp) (MAw ma F Q CF TN RW OR BE) me rdv) = (match frs w h mo p i with
      | none => k [(0, .ref 0), (1, .int (nI (i + 1)))] [] (M1 (th, mtr, wh, ta, mfa, mo, sd, ac, mk) (MQw mq (nI p.1) (nI p.2.1) (nI p.2.2.1) ou sk bp) (MAw ma F Q CF TN RW OR BE) me rdv)
      | some d => some (M1 (th, mtr, wh, ta, mfa, mo, sd, ac, mk) (MQw mq (nI d) (nI p.2.1) (nI p.2.2.1) ou sk bp) (MAw ma F Q (upd CF d (nI p.1)) TN RW OR BE) me rdv)) := fun i hi k => by
    rw [qX12_goesOnce_2_w, if_neg (nle4 hi), qX12_goesOnce_9_w (h := m_mownTo H h1 h2 hc hi)]
    unfold frs
    cases hm : mto w h mo p.1 i with
    | none => rw [oIn, nI_1]; rfl
    | some d =>
      have hdn := mto_lt H hc hi hm
      have hin := nI_in (by omega : d < 48) (by omega)
      rw [show oI (some d) = nI d from rfl, if_neg (nI_m1 (by omega)), if_neg hin, if_neg hin, nI_clamp (by omega), R d (by omega), Option.bind_some]
      by_cases h5 : tb p.2.2.2.1 d = true
      · have h6 := P.2.2.2.1 _ (P.2.2.2.2.2.2.1 d h5)
        rw [if_pos h5, if_pos h5, if_neg (nI_m2 (by omega)), nI_1]
      · rw [if_neg h5, if_neg h5, if_pos rfl]
  unfold stO
  rcases fs4_ok (frs w h mo p) with ⟨e, h3⟩ | ⟨j, d, e, hj, hd, h3⟩
  · rw [e]
    dsimp only
    have hob := P.2.2.2.2.2.2.1 _ P.2.2.2.2.1
    have hon := P.2.2.2.1 _ hob
    have hcf := R p.1 (by omega)
    rw [if_pos P.2.2.2.2.1] at hcf
    have hin := nI_in (by omega : p.1 < 48) (by omega)
    by_cases h5 : tb mo (p.2.2.2.2 p.1) = true
    · rw [if_pos h5]
      have R' := ent_MFR hn.1 P R hon
      rw [if_pos hob] at R'
      refine ⟨CF, R', ?_⟩
      refine lp_run (fun i => [(0, .ref 0), (1, .int (nI i))]) (fun _ => (M1 (th, mtr, wh, ta, mfa, mo, sd, ac, mk) (MQw mq (nI p.1) (nI p.2.1) (nI p.2.2.1) ou sk bp) (MAw ma F Q CF TN RW OR BE) me rdv)) (t := 4) (by have := FU_ge; omega) (fun i hi k => ?_) (fun k => ?_)
      · rw [hround i hi, h3 i hi]
      · rw [qX12_goesOnce_2_w, if_pos (by decide), if_neg hin, nI_clamp (by omega), hcf, qX12_goesOnce_67_w (h := e_has _ _ (by omega)), if_b2i, if_pos h5, if_neg hin, nI_clamp (by omega), hcf]
        rfl
    · rw [if_neg h5]
      refine ⟨CF, R, ?_⟩
      refine lp_run (fun i => [(0, .ref 0), (1, .int (nI i))]) (fun _ => (M1 (th, mtr, wh, ta, mfa, mo, sd, ac, mk) (MQw mq (nI p.1) (nI p.2.1) (nI p.2.2.1) ou sk bp) (MAw ma F Q CF TN RW OR BE) me rdv)) (t := 4) (by have := FU_ge; omega) (fun i hi k => ?_) (fun k => ?_)
      · rw [hround i hi, h3 i hi]
      · rw [qX12_goesOnce_2_w, if_pos (by decide), if_neg hin, nI_clamp (by omega), hcf, qX12_goesOnce_67_w (h := e_has _ _ (by omega)), if_b2i, if_neg h5]
  · rw [e]
    dsimp only
    obtain ⟨hm, hb⟩ := frs_some hd
    have hdn := mto_lt H hc hj hm
    have R' := ent_MFR hn.1 P R hdn
    rw [if_neg (by rw [hb]; decide)] at R'
    refine ⟨_, R', ?_⟩
    refine lp_run (fun i => [(0, .ref 0), (1, .int (nI i))]) (fun _ => (M1 (th, mtr, wh, ta, mfa, mo, sd, ac, mk) (MQw mq (nI p.1) (nI p.2.1) (nI p.2.2.1) ou sk bp) (MAw ma F Q CF TN RW OR BE) me rdv)) (t := j) (by have := FU_ge; omega) (fun i hi k => ?_) (fun k => ?_)
    · rw [hround i (by omega), h3 i hi]
    · rw [hround j hj, hd]
      rfl
theorem m_noise (H : WH w h) (h1 : me.1.1 = nI w) (h2 : me.1.2.1 = nI h) (hT : TNok TN) (hc : p.1 < w * h) : EX12_goesToNoise [.ref 0] (M1 (th, mtr, wh, ta, mfa, mo, sd, ac, mk) (MQw mq (nI p.1) fg ow ou sk bp) (MAw ma F Q CF TN RW OR BE) me rdv) = some (M1 (th, mtr, wh, ta, mfa, mo, sd, ac, mk) (MQw mq (nI (stC w h mo me.1.2.2.2.2.2.2.2.2.2.2.2 TN p).1) fg ow ou sk bp) (MAw ma F Q CF TN RW OR BE) me rdv) := by
  have hn := H.n
  rw [eX12_goesToNoise_s_w, qX12_goesToNoise_0_w]
  unfold stC
  by_cases h0 : nI p.1 = me.1.2.2.2.2.2.2.2.2.2.2.2
  · rw [if_pos h0, if_pos h0]
  · rw [if_neg h0, if_neg h0]
    refine lp_run (fun i => [(0, .ref 0), (1, .int (oI (bst w h mo TN p.1 i))), (2, .int (nI i))]) (fun _ => (M1 (th, mtr, wh, ta, mfa, mo, sd, ac, mk) (MQw mq (nI p.1) fg ow ou sk bp) (MAw ma F Q CF TN RW OR BE) me rdv)) (t := 4) (by have := FU_ge; omega) (fun i hi k => ?_) (fun k => ?_)
    · rw [qX12_goesToNoise_19_w, if_neg (nle4 hi), qX12_goesToNoise_26_w (h := m_mownTo H h1 h2 hc hi), bst_s]
      cases hm : mto w h mo p.1 i with
      | none => rw [oIn, nI_1]
      | some d =>
        have hdn := mto_lt H hc hi hm
        have hin := nI_in (by omega : d < 48) (by omega)
        rw [show oI (some d) = nI d from rfl, if_neg (nI_m1 (by omega)), if_neg hin, if_neg hin, nI_clamp (by omega), nI_1]
        dsimp only
        by_cases h5 : TN d = -2
        · rw [if_pos h5, if_pos h5]
        · rw [if_neg h5, if_neg h5]
          cases hb : bst w h mo TN p.1 i with
          | none => rw [oIn]; rfl
          | some y =>
            obtain ⟨⟨i2, hi2, h6⟩, _⟩ := bst_some hb
            have hyn := mto_lt H hc (by omega : i2 < 4) h6
            rw [show oI (some y) = nI y from rfl, if_neg (nI_m1 (by omega)), if_neg (nI_in (by omega : y < 48) (by omega)), nI_clamp (by omega)]
            dsimp only
            by_cases hl : TN d < TN y
            · rw [if_pos hl]
              first
                | rw [if_neg (Int32.not_le.mpr hl)]; rfl
                | rw [if_pos hl]; rfl
            · rw [if_neg hl]
              first
                | rw [if_pos (Int32.not_lt.mp hl)]; rfl
                | rw [if_neg hl]; rfl
    · rw [qX12_goesToNoise_19_w, if_pos (by decide)]
      cases hb : bst w h mo TN p.1 4 with
      | none => rw [oIn]
      | some d =>
        obtain ⟨⟨i2, hi2, h6⟩, _⟩ := bst_some hb
        have hdn := mto_lt H hc (by omega : i2 < 4) h6
        rw [show oI (some d) = nI d from rfl, if_neg (nI_m1 (by omega))]
        rfl
theorem m_lot (H : WH w h) (G : GrOK g w h) (h1 : me.1.1 = nI w) (h2 : me.1.2.1 = nI h) (P : PSOK (w * h) st p) : EX12_goesByLot [.ref 0] (M1 (th, mtr, wh, ta, mfa, mo, sd, ac, mk) (MQw mq (nI p.1) (nI p.2.1) (nI p.2.2.1) ou sk bp) (MAw ma F Q CF TN RW OR BE) me rdv) = some (M1 (th, mtr, wh, ta, mfa, mo, sd, ac, mk) (MQw mq (nI (stLo w h g mo p).1) (nI (stLo w h g mo p).2.1) (nI (stLo w h g mo p).2.2.1) ou sk bp) (MAw ma F Q CF TN RW OR BE) me rdv) := by
  have hn := H.n
  have hc := P.1
  have hv := P.2.2.1
  have hwy : way g mo p.1 ≤ 64 := pcn_le _
  rw [eX12_goesByLot_s_w, qX12_goesByLot_0_w, qX12_goesByLot_9_w (h := e_besideOf H G h1 h2 hc), drawm hv, lg0]
  unfold stLo
  by_cases h0 : way g mo p.1 = 0
  · rw [if_pos h0, if_pos (pcn_eq0.mp h0)]
  · have hdr := drw_lt p.2.2.1
    rw [if_neg h0, if_neg (fun e => h0 (pcn_eq0.mpr e)), qX12_goesByLot_36_w (h := e_bits _ _)]
    have h01 : ¬ nI (way g mo p.1) = 0 := nI_ne0 (Nat.pos_of_ne_zero h0) (show way g mo p.1 < 2 ^ 31 by omega)
    have hway : pcn (besd g (bitL (nI p.1)) &&& mo) = way g mo p.1 := rfl
    rw [hway, if_pos h01, pk_rem (by omega) (Nat.pos_of_ne_zero h0) (show way g mo p.1 < 2 ^ 31 by omega)]
    show lp BX12_goesByLot_44 FU [(0, .ref 0), (3, .int (nI (drw p.2.2.1 % way g mo p.1))), (4, .int 0)] [] _ = _
    have hll : drw p.2.2.1 % way g mo p.1 < 2 ^ 30 := Nat.lt_of_lt_of_le (Nat.mod_lt _ (Nat.pos_of_ne_zero h0)) (by omega)
    generalize drw p.2.2.1 % way g mo p.1 = l at hll ⊢
    have key : ∀ i s l N, l < 2 ^ 30 → s + i = 4 → i < N → lp BX12_goesByLot_44 N [(0, .ref 0), (3, .int (nI l)), (4, .int (nI s))] [] (M1 (th, mtr, wh, ta, mfa, mo, sd, ac, mk) (MQw mq (nI p.1) (nI p.2.1) (nI (drw p.2.2.1)) ou sk bp) (MAw ma F Q CF TN RW OR BE) me rdv) = some (match lot w h mo p.1 i s l with | some d => (M1 (th, mtr, wh, ta, mfa, mo, sd, ac, mk) (MQw mq (nI d) (nI p.2.1) (nI (drw p.2.2.1)) ou sk bp) (MAw ma F Q CF TN RW OR BE) me rdv) | none => (M1 (th, mtr, wh, ta, mfa, mo, sd, ac, mk) (MQw mq (nI p.1) (nI p.2.1) (nI (drw p.2.2.1)) ou sk bp) (MAw ma F Q CF TN RW OR BE) me rdv)) := by
      intro i
      induction i with
      | zero =>
        intro s l N hl hs hN
        obtain ⟨N, rfl⟩ : ∃ N', N = N' + 1 := ⟨N - 1, by omega⟩
        show BX12_goesByLot_44 (lp BX12_goesByLot_44 N) _ _ _ = _
        rw [qX12_goesByLot_44_w, if_pos (le4 (by omega) (by omega))]
        rfl
      | succ i ih =>
        intro s l N hl hs hN
        obtain ⟨N, rfl⟩ : ∃ N', N = N' + 1 := ⟨N - 1, by omega⟩
        show BX12_goesByLot_44 (lp BX12_goesByLot_44 N) _ _ _ = _
        rw [qX12_goesByLot_44_w, if_neg (nle4 (by omega)), qX12_goesByLot_53_w (h := m_mownTo H h1 h2 hc (by omega : s < 4)), lot_s]
        cases hm : mto w h mo p.1 s with
        | none =>
          rw [oIn, nI_1]
          exact ih (s + 1) l N hl (by omega) (by omega)
        | some d =>
          have hdn := mto_lt H hc (by omega : s < 4) hm
          rw [show oI (some d) = nI d from rfl, if_neg (nI_m1 (by omega))]
          dsimp only
          by_cases hl0 : l = 0
          · subst hl0
            rw [if_pos nI_0, if_pos rfl]
          · rw [if_neg hl0, if_neg (nI_ne0 (by omega) (by omega)), nI_1]
            obtain ⟨l, rfl⟩ : ∃ l', l = l' + 1 := ⟨l - 1, by omega⟩
            rw [pk_m1]
            exact ih (s + 1) l N (by omega) (by omega) (by omega)
    have e := key 4 0 l FU hll rfl (by have := FU_ge; omega)
    refine e.trans ?_
    cases lot w h mo p.1 4 0 l <;> rfl
theorem m_goes {j kd : Nat} (hj : j < 5) (H : WH w h) (G : GrOK g w h) (h1 : me.1.1 = nI w) (h2 : me.1.2.1 = nI h) (P : PSOK (w * h) st p) (R : kd = 2 → MFR p CF) (hk : kd < 5) (hk1 : me.2.2.2.2.2.1 j = nI kd) (hT : kd = 3 → TNok TN) : ∃ CF', (kd = 2 → MFR (stp w h g mo me.1.2.2.2.2.2.2.2.2.2.2.2 TN kd p) CF') ∧ EX12_goes [.ref 0, .int (nI j)] (M1 (th, mtr, wh, ta, mfa, mo, sd, ac, mk) (MQw mq (nI p.1) (nI p.2.1) (nI p.2.2.1) ou sk bp) (MAw ma F Q CF TN RW OR BE) me rdv) = some (M1 (th, mtr, wh, ta, mfa, mo, sd, ac, mk) (MQw mq (nI (stp w h g mo me.1.2.2.2.2.2.2.2.2.2.2.2 TN kd p).1) (nI (stp w h g mo me.1.2.2.2.2.2.2.2.2.2.2.2 TN kd p).2.1) (nI (stp w h g mo me.1.2.2.2.2.2.2.2.2.2.2.2 TN kd p).2.2.1) ou sk bp) (MAw ma F Q CF' TN RW OR BE) me rdv) := by
  have hf := P.2.1
  rw [eX12_goes_s_w, qX12_goes_0_w, if_neg (nI_in hj (by omega)), nI_clamp (by omega), hk1]
  have turn : ∀ {hd : Int32}, (((nI p.2.1 + hd) &&& 3 = nI (sdT kd p.2.1 0)) ∧ ((nI p.2.1 + 0) &&& 3 = nI (sdT kd p.2.1 1)) ∧ ((nI p.2.1 + (4 - hd)) &&& 3 = nI (sdT kd p.2.1 2)) ∧ ((nI p.2.1 + 2) &&& 3 = nI (sdT kd p.2.1 3))) → EX12_turns [.ref 0, .int hd] (M1 (th, mtr, wh, ta, mfa, mo, sd, ac, mk) (MQw mq (nI p.1) (nI p.2.1) (nI p.2.2.1) ou sk bp) (MAw ma F Q CF TN RW OR BE) me rdv) = some (M1 (th, mtr, wh, ta, mfa, mo, sd, ac, mk) (MQw mq (nI (stT w h mo kd p).1) (nI (stT w h mo kd p).2.1) (nI (stT w h mo kd p).2.2.1) ou sk bp) (MAw ma F Q CF TN RW OR BE) me rdv) := fun hs => by
    rw [m_turns H h1 h2 P.1 hs]
    unfold stT
    rcases fs4_ok (fun i => mto w h mo p.1 (sdT kd p.2.1 i)) with ⟨e, h3⟩ | ⟨i, d, e, hi, hd2, h3⟩
    · rw [e]
    · rw [e]
      rfl
  rcases (by omega : kd = 0 ∨ kd = 1 ∨ kd = 2 ∨ kd = 3 ∨ kd = 4) with rfl | rfl | rfl | rfl | rfl
  · refine ⟨CF, fun e => absurd e (by decide), ?_⟩
    rw [if_pos (by decide)]
    exact qX12_goes_42_w (h := turn (sm_L _ hf)) ..
  · refine ⟨CF, fun e => absurd e (by decide), ?_⟩
    rw [if_neg (by decide), if_pos (by decide)]
    exact qX12_goes_50_w (h := turn (sm_R _ hf)) ..
  · obtain ⟨CF', R', e⟩ := m_once (th := th) (mtr := mtr) (wh := wh) (ta := ta) (mfa := mfa) (mo := mo) (sd := sd) (ac := ac) (mk := mk) (mq := mq) (ma := ma) (rdv := rdv) (ou := ou) (sk := sk) (bp := bp) (F := F) (Q := Q) (TN := TN) (RW := RW) (OR := OR) (BE := BE) H h1 h2 P (R rfl)
    refine ⟨CF', fun _ => R', ?_⟩
    rw [if_neg (by decide), if_neg (by decide), if_pos (by decide)]
    exact qX12_goes_57_w (h := e) ..
  · refine ⟨CF, fun e => absurd e (by decide), ?_⟩
    rw [if_neg (by decide), if_neg (by decide), if_neg (by decide), if_pos (by decide)]
    have e := m_noise (th := th) (mtr := mtr) (wh := wh) (ta := ta) (mfa := mfa) (mo := mo) (sd := sd) (ac := ac) (mk := mk) (mq := mq) (ma := ma) (rdv := rdv) (fg := nI p.2.1) (ow := nI p.2.2.1) (ou := ou) (sk := sk) (bp := bp) (F := F) (Q := Q) (CF := CF) (RW := RW) (OR := OR) (BE := BE) H h1 h2 (hT rfl) P.1
    have e3 : (stp w h g mo me.1.2.2.2.2.2.2.2.2.2.2.2 TN 3 p).2.1 = p.2.1 ∧ (stp w h g mo me.1.2.2.2.2.2.2.2.2.2.2.2 TN 3 p).2.2.1 = p.2.2.1 := by
      show (stC w h mo me.1.2.2.2.2.2.2.2.2.2.2.2 TN p).2.1 = _ ∧ (stC w h mo me.1.2.2.2.2.2.2.2.2.2.2.2 TN p).2.2.1 = _
      unfold stC
      by_cases h0 : nI p.1 = me.1.2.2.2.2.2.2.2.2.2.2.2
      · rw [if_pos h0]; exact ⟨rfl, rfl⟩
      · rw [if_neg h0]
        cases bst w h mo TN p.1 4 <;> exact ⟨rfl, rfl⟩
    rw [e3.1, e3.2]
    exact qX12_goes_64_w (h := e) ..
  · refine ⟨CF, fun e => absurd e (by decide), ?_⟩
    rw [if_neg (by decide), if_neg (by decide), if_neg (by decide), if_neg (by decide)]
    exact qX12_goes_71_w (h := m_lot H G h1 h2 P) ..
end
