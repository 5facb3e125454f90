/-! at, out, shouts, visits. -/
theorem step_qw {f g : List Value → HP → Option (Int32 × HP)} {as : List Value}
    (h0 : ∀ cl se tr fa fp tp tk rd hi sc pl dr wa wb rc th wh ta mo sd mq ma rdv, hi.2.2.2.2.1 = 0 → hi.2.2.2.2.2 = 0 → ∃ t, t ≠ 4 ∧ f (.ref 0 :: as) (CH (0, cl, se, tr, fa, fp) tp tk rd hi sc pl dr wa wb rc) = some (-1, CH (0, cl, se, t, fa, fp) tp tk rd hi sc pl dr wa wb rc) ∧ g (.ref 0 :: as) (M0 (th, tr, wh, ta, fa, mo, sd, 0, 0) mq ma rdv) = some (-1, M0 (0, t, -1, ta, fa, mo, sd, 0, 0) mq ma rdv))
    (h1 : ∀ cl s tr fa fp tp tk rd hi sc pl dr wa wb rc th wh ta ac mk mq ma me rdv ce fg ow ou sk bp F Q CF TN RW OR BE w h du pa sh gc hq wc, s < 65537 → WH w h → GrOK pl.1 w h → PlNu pl me w h du pa sh → PlGa pl me (w * h) gc → PlNo pl me (w * h) → PlWk pl me (w * h) wc → PlHe pl me (w * h) hq → Sub cl (w * h) → ∃ v t sc2 wa2 wb2 rc2 mq2 ma2, t ≠ 4 ∧ KeepMa (MAw ma F Q CF TN RW OR BE) ma2 ∧ f (.ref 0 :: as) (CH (1, cl, nI s, tr, fa, fp) tp tk rd hi sc pl dr wa wb rc) = some (v, CH (1, cl, nI s, t, fa, fp) tp tk rd hi sc2 pl dr wa2 wb2 rc2) ∧ g (.ref 0 :: as) (M1 (th, tr, wh, ta, fa, cl, nI s, ac, mk) (MQw mq ce fg ow ou sk bp) (MAw ma F Q CF TN RW OR BE) me rdv) = some (v, M1 (0, t, -1, ta, fa, cl, nI s, ac, mk) mq2 ma2 me rdv)) : Step Inv f fIH g fIH as := by
  refine step_q h0 (fun cl se tr fa fp tp tk rd hi sc pl dr wa wb rc th wh ta ac mk mq ma me rdv _ I => ?_)
  obtain ⟨T, ⟨s, hs, rfl⟩, w, h, du, pa, sh, gc, hq, wc, ⟨H, G, N, P, GA, NO, HE, WK⟩, C, HI⟩ := id I
  exact h1 cl s tr fa fp tp tk rd hi sc pl dr wa wb rc th wh ta ac mk mq ma me rdv mq.2.2.1 mq.2.2.2.1 mq.2.2.2.2.1 mq.2.2.2.2.2.1 mq.2.2.2.2.2.2.1 mq.2.2.2.2.2.2.2 ma.2.2.1 ma.2.2.2.1 ma.2.2.2.2.1 ma.2.2.2.2.2.1 ma.2.2.2.2.2.2.1 ma.2.2.2.2.2.2.2.1 ma.2.2.2.2.2.2.2.2.1 w h du pa sh gc hq wc hs H G N GA NO WK HE C
theorem c_isWalker {cl : Int64} {se tr fa fp : Int32} {tp : TpS} {tk : TkS} {rd : RdS} {hi : HiS} {sc : ScS} {pl dr : PlS} {wa wb : WaS} {rc : Nat → Int32} {wc : Nat} (h : pl.2.2.2.2.2.2.2.2.2.2.2 = nI wc) (x : Int32) : EX10_isWalker [.ref 0, .int x] (CH (1, cl, se, tr, fa, fp) tp tk rd hi sc pl dr wa wb rc) = some (inr wc x) := by
  rw [eX10_isWalker_s_1, qX10_isWalker_0_1, h, inr_if]
  cases inr wc x <;> rfl
theorem inr_ifs {α : Type} {n : Nat} {x : Int32} (hn : n < 2 ^ 29) (a b : α) : (if x < 0 then a else if nI n < x then a else b) = (if inr (n + 1) x = true then b else a) := by
  have e := inr_dec2 (n := n) (x := x) hn
  by_cases h1 : x < 0
  · rw [if_pos h1, if_neg]
    rw [← e, decide_eq_true_iff]
    exact fun h => absurd h1 (Int32.not_lt.mpr h.1)
  · rw [if_neg h1]
    by_cases h2 : nI n < x
    · rw [if_pos h2, if_neg]
      rw [← e, decide_eq_true_iff]
      exact fun h => absurd h2 (Int32.not_lt.mpr h.2)
    · rw [if_neg h2, if_pos]
      rw [← e, decide_eq_true_iff]
      exact ⟨Int32.not_lt.mp h1, Int32.not_lt.mp h2⟩
theorem c_isMinute {cl : Int64} {se tr fa fp : Int32} {tp : TpS} {tk : TkS} {rd : RdS} {hi : HiS} {sc : ScS} {pl dr : PlS} {wa wb : WaS} {rc : Nat → Int32} {du : Nat} (hd : du ≤ 200) (h : pl.2.2.2.2.1 = nI du) (x : Int32) : EX10_isMinute [.ref 0, .int x] (CH (1, cl, se, tr, fa, fp) tp tk rd hi sc pl dr wa wb rc) = some (inr (du + 1) x) := by
  rw [eX10_isMinute_s_1, qX10_isMinute_0_1, h, inr_ifs (by omega)]
  cases inr (du + 1) x <;> rfl
theorem op_at (x y : Int32) : Step Inv EX10_at fIH EX12_at fIH [.int x, .int y] := by
  refine step_qw (fun cl se tr fa fp tp tk rd hi sc pl dr wa wb rc th wh ta mo sd mq ma rdv _ _ => ⟨1, by decide, rfl, rfl⟩) (fun cl s tr fa fp tp tk rd hi sc pl dr wa wb rc th wh ta ac mk mq ma me rdv ce fg ow ou sk bp F Q CF TN RW OR BE w h du pa sh gc hq wc hs H G N GA NO WK HE C => ?_)
  have hdu := N.2.1.2.1
  cases hx : inr wc x
  · refine ⟨-1, 1, sc, wa, wb, rc, MQw mq ce fg ow ou sk bp, MAw ma F Q CF TN RW OR BE, by decide, KeepMa.rf _, ?_, ?_⟩
    · rw [eX10_at_s_1, qX10_at_0_1, qX10_at_2_1 (h := c_isWalker WK.2.1 _), hx, if_b2i, if_neg (by decide)]
    · rw [eX12_at_s_w, qX12_at_0_w, qX12_at_7_w (h := m_isWalker WK.2.2.1 _), hx, if_b2i, if_neg (by decide)]
  · have hwc := WK.1
    obtain ⟨j, hj, rfl⟩ := inr_true (by omega) hx
    cases hy : inr (du + 1) y
    · refine ⟨-1, 2, sc, wa, wb, rc, MQw mq ce fg ow ou sk bp, MAw ma F Q CF TN RW OR BE, by decide, KeepMa.rf _, ?_, ?_⟩
      · rw [eX10_at_s_1, qX10_at_0_1, qX10_at_2_1 (h := c_isWalker WK.2.1 _), hx, if_b2i, if_pos rfl, qX10_at_16_1 (h := c_isMinute hdu N.2.1.2.2.1 _), hy, if_b2i, if_neg (by decide)]
      · rw [eX12_at_s_w, qX12_at_0_w, qX12_at_7_w (h := m_isWalker WK.2.2.1 _), hx, if_b2i, if_pos rfl, N.2.1.2.2.2, qX12_at_28_w (h := e_in _ _ _ _), if_b2i, inr_dec2 (by omega), hy, if_neg (by decide)]
    · obtain ⟨z, hz, rfl⟩ := inr_true (by omega) hy
      obtain ⟨l, K, od, tr2, W⟩ := walk_two H G N GA NO WK C hs hj
      obtain ⟨w1, w2, w3, w4, w5, w6, w7, w8, w9, w10⟩ := id W
      have hbd := WKO_bd w3
      obtain ⟨T1, CF1, SN1, hT1, e1⟩ := w8 (1, cl, nI s, tr, fa, fp) tp tk rd hi sc dr wa wb rc
      obtain ⟨F1, Q1, CF2, TN1, RW1, ce1, fg1, ow1, hR1, e2⟩ := w10 0 tr wh ta fa ac mk mq ma rdv ce fg ow ou sk bp F Q CF TN RW OR BE
      refine ⟨oM (posn l K tr2 z), 0, sc, wPa T1 CF1 SN1 (24 + j) cl (tr2 (K - 1)) (oM od) (las l K), wb, rc, MQw mq ce1 fg1 ow1 (oM od) sk bp, MAw ma F1 Q1 CF2 TN1 RW1 OR BE, by decide, ⟨rfl, rfl, rfl, rfl, rfl⟩, ?_, ?_⟩
      · rw [eX10_at_s_1, qX10_at_0_1, qX10_at_2_1 (h := c_isWalker WK.2.1 _), hx, if_b2i, if_pos rfl, qX10_at_16_1 (h := c_isMinute hdu N.2.1.2.2.1 _), hy, if_b2i, if_pos rfl, qX10_at_45_1 (h := e1), qX10_at_54_1 (h := c_cellIna w1 w2 w6 hT1 (by omega) (by omega))]
      · rw [eX12_at_s_w, qX12_at_0_w, qX12_at_7_w (h := m_isWalker WK.2.2.1 _), hx, if_b2i, if_pos rfl, N.2.1.2.2.2, qX12_at_28_w (h := e_in _ _ _ _), if_b2i, inr_dec2 (by omega), hy, if_pos rfl, qX12_at_42_w (h := e2), if_neg (nI_in (by omega : z < 201) (by omega)), nI_clamp (by omega), hR1 z (by omega)]
theorem op_out (x : Int32) : Step Inv EX10_out fIH EX12_out fIH [.int x] := by
  refine step_qw (fun cl se tr fa fp tp tk rd hi sc pl dr wa wb rc th wh ta mo sd mq ma rdv _ _ => ⟨1, by decide, rfl, rfl⟩) (fun cl s tr fa fp tp tk rd hi sc pl dr wa wb rc th wh ta ac mk mq ma me rdv ce fg ow ou sk bp F Q CF TN RW OR BE w h du pa sh gc hq wc hs H G N GA NO WK HE C => ?_)
  have hdu := N.2.1.2.1
  cases hx : inr wc x
  · refine ⟨-1, 1, sc, wa, wb, rc, MQw mq ce fg ow ou sk bp, MAw ma F Q CF TN RW OR BE, by decide, KeepMa.rf _, ?_, ?_⟩
    · rw [eX10_out_s_1, qX10_out_0_1, qX10_out_2_1 (h := c_isWalker WK.2.1 _), hx, if_b2i, if_neg (by decide)]
    · rw [eX12_out_s_w, qX12_out_0_w, qX12_out_7_w (h := m_isWalker WK.2.2.1 _), hx, if_b2i, if_neg (by decide)]
  · have hwc := WK.1
    obtain ⟨j, hj, rfl⟩ := inr_true (by omega) hx
    obtain ⟨l, K, od, tr2, W⟩ := walk_two H G N GA NO WK C hs hj
    obtain ⟨w1, w2, w3, w4, w5, w6, w7, w8, w9, w10⟩ := id W
    obtain ⟨T1, CF1, SN1, hT1, e1⟩ := w8 (1, cl, nI s, tr, fa, fp) tp tk rd hi sc dr wa wb rc
    obtain ⟨F1, Q1, CF2, TN1, RW1, ce1, fg1, ow1, hR1, e2⟩ := w10 0 tr wh ta fa ac mk mq ma rdv ce fg ow ou sk bp F Q CF TN RW OR BE
    refine ⟨oM od, 0, sc, wPa T1 CF1 SN1 (24 + j) cl (tr2 (K - 1)) (oM od) (las l K), wb, rc, MQw mq ce1 fg1 ow1 (oM od) sk bp, MAw ma F1 Q1 CF2 TN1 RW1 OR BE, by decide, ⟨rfl, rfl, rfl, rfl, rfl⟩, ?_, ?_⟩
    · rw [eX10_out_s_1, qX10_out_0_1, qX10_out_2_1 (h := c_isWalker WK.2.1 _), hx, if_b2i, if_pos rfl, qX10_out_31_1 (h := e1)]
    · rw [eX12_out_s_w, qX12_out_0_w, qX12_out_7_w (h := m_isWalker WK.2.2.1 _), hx, if_b2i, if_pos rfl, qX12_out_21_w (h := e2)]
theorem op_shouts (x : Int32) : Step Inv EX10_shouts fIH EX12_shouts fIH [.int x] := by
  refine step_qw (fun cl se tr fa fp tp tk rd hi sc pl dr wa wb rc th wh ta mo sd mq ma rdv _ _ => ⟨1, by decide, rfl, rfl⟩) (fun cl s tr fa fp tp tk rd hi sc pl dr wa wb rc th wh ta ac mk mq ma me rdv ce fg ow ou sk bp F Q CF TN RW OR BE w h du pa sh gc hq wc hs H G N GA NO WK HE C => ?_)
  have hdu := N.2.1.2.1
  cases hx : inr wc x
  · refine ⟨-1, 1, sc, wa, wb, rc, MQw mq ce fg ow ou sk bp, MAw ma F Q CF TN RW OR BE, by decide, KeepMa.rf _, ?_, ?_⟩
    · rw [eX10_shouts_s_1, qX10_shouts_0_1, qX10_shouts_2_1 (h := c_isWalker WK.2.1 _), hx, if_b2i, if_neg (by decide)]
    · rw [eX12_shouts_s_w, qX12_shouts_0_w, qX12_shouts_7_w (h := m_isWalker WK.2.2.1 _), hx, if_b2i, if_neg (by decide)]
  · have hwc := WK.1
    obtain ⟨j, hj, rfl⟩ := inr_true (by omega) hx
    obtain ⟨l, K, od, tr2, W⟩ := walk_two H G N GA NO WK C hs hj
    obtain ⟨w1, w2, w3, w4, w5, w6, w7, w8, w9, w10⟩ := id W
    have hod := WKO_od w3
    obtain ⟨T1, CF1, SN1, hT1, e1⟩ := w8 (1, cl, nI s, tr, fa, fp) tp tk rd hi sc dr wa wb rc
    obtain ⟨F1, Q1, CF2, TN1, RW1, ce1, fg1, ow1, hR1, e2⟩ := w10 0 tr wh ta fa ac mk mq ma rdv ce fg ow ou sk bp F Q CF TN RW OR BE
    refine ⟨nI (lsm du od - l), 0, sc, wPa T1 CF1 SN1 (24 + j) cl (tr2 (K - 1)) (oM od) (las l K), wb, rc, MQw mq ce1 fg1 ow1 (oM od) sk bp, MAw ma F1 Q1 CF2 TN1 RW1 OR BE, by decide, ⟨rfl, rfl, rfl, rfl, rfl⟩, ?_, ?_⟩
    · rw [eX10_shouts_s_1, qX10_shouts_0_1, qX10_shouts_2_1 (h := c_isWalker WK.2.1 _), hx, if_b2i, if_pos rfl, qX10_shouts_31_1 (h := e1), qX10_shouts_39_1 (h := c_shoutsa w1 w2 w6 hdu N.2.1.2.2.1 hod)]
    · rw [eX12_shouts_s_w, qX12_shouts_0_w, qX12_shouts_7_w (h := m_isWalker WK.2.2.1 _), hx, if_b2i, if_pos rfl, qX12_shouts_21_w (h := e2), qX12_shouts_27_w (h := m_there w1 w2 w7 hdu N.2.1.2.2.2 (fun x e => Nat.le_trans (hod x e) hdu))]
theorem op_visits (x : Int32) : Step Inv EX10_visits fIH EX12_visits fIH [.int x] := by
  refine step_qw (fun cl se tr fa fp tp tk rd hi sc pl dr wa wb rc th wh ta mo sd mq ma rdv _ _ => ⟨1, by decide, rfl, rfl⟩) (fun cl s tr fa fp tp tk rd hi sc pl dr wa wb rc th wh ta ac mk mq ma me rdv ce fg ow ou sk bp F Q CF TN RW OR BE w h du pa sh gc hq wc hs H G N GA NO WK HE C => ?_)
  have hdu := N.2.1.2.1
  have hn := H.n
  cases hx : inr wc x
  · refine ⟨-1, 1, sc, wa, wb, rc, MQw mq ce fg ow ou sk bp, MAw ma F Q CF TN RW OR BE, by decide, KeepMa.rf _, ?_, ?_⟩
    · rw [eX10_visits_s_1, qX10_visits_0_1, qX10_visits_2_1 (h := c_isWalker WK.2.1 _), hx, if_b2i, if_neg (by decide)]
    · rw [eX12_visits_s_w, qX12_visits_0_w, qX12_visits_7_w (h := m_isWalker WK.2.2.1 _), hx, if_b2i, if_neg (by decide)]
  · have hwc := WK.1
    obtain ⟨j, hj, rfl⟩ := inr_true (by omega) hx
    obtain ⟨l, K, od, tr2, W⟩ := walk_two H G N GA NO WK C hs hj
    obtain ⟨w1, w2, w3, w4, w5, w6, w7, w8, w9, w10⟩ := id W
    have hbd := WKO_bd w3
    have hv := vst_end hn.1 w4 w5 hbd
    obtain ⟨T1, CF1, SN1, hT1, e1⟩ := w8 (1, cl, nI s, tr, fa, fp) tp tk rd hi sc dr wa wb rc
    obtain ⟨F1, Q1, CF2, TN1, RW1, ce1, fg1, ow1, hR1, e2⟩ := w10 0 tr wh ta fa ac mk mq ma rdv ce fg ow ou sk bp F Q CF TN RW OR BE
    refine ⟨nI (pcn (if du < l then 0 else (tr2 (K - 1)).2.2.2.1)), 0, sc, wPa T1 CF1 SN1 (24 + j) cl (tr2 (K - 1)) (oM od) (las l K), wb, rc, MQw mq ce1 fg1 ow1 (oM od) sk bp, MAw ma F1 Q1 CF2 TN1 RW1 OR BE, by decide, ⟨rfl, rfl, rfl, rfl, rfl⟩, ?_, ?_⟩
    · rw [eX10_visits_s_1, qX10_visits_0_1, qX10_visits_2_1 (h := c_isWalker WK.2.1 _), hx, if_b2i, if_pos rfl, qX10_visits_31_1 (h := e1), qX10_visits_39_1 (h := c_cellsa w1 w2 w6 hdu N.2.1.2.2.1)]
    · rw [eX12_visits_s_w, qX12_visits_0_w, qX12_visits_7_w (h := m_isWalker WK.2.2.1 _), hx, if_b2i, if_pos rfl, qX12_visits_21_w (h := e2), ← hv]
      refine lp_run (fun z => [(0, .ref 0), (2, .long (vst l K tr2 z)), (4, .int (nI z))]) (fun _ => (M1 (0, tr, wh, ta, fa, cl, nI s, ac, mk) (MQw mq ce1 fg1 ow1 (oM od) sk bp) (MAw ma F1 Q1 CF2 TN1 RW1 OR BE) me rdv)) (t := du + 1) (by have := FU_ge; omega) (fun z hz k => ?_) (fun k => ?_)
      · have hin := nI_in (by omega : z < 201) (by omega)
        rw [qX12_visits_29_w, N.2.1.2.2.2, if_lt (by omega) (by omega), if_neg (by omega), if_neg hin, if_neg hin, nI_clamp (by omega), hR1 z (by omega), nI_1]
        show _ = k [(0, .ref 0), (2, .long (match posn l K tr2 z with | none => vst l K tr2 z | some c => vst l K tr2 z ||| bitL (nI c))), (4, .int (nI (z + 1)))] [] _
        cases hp : posn l K tr2 z with
        | none => rw [show oM none = -2 from rfl, if_pos rfl]
        | some c =>
          have hcn : c < w * h := by
            unfold posn at hp
            by_cases h5 : l ≤ z ∧ z < l + K
            · rw [if_pos h5] at hp; cases hp; exact w4 _
            · rw [if_neg h5] at hp; cases hp
          rw [show oM (some c) = nI c from rfl, if_neg (nI_m2 (by omega))]
      · rw [qX12_visits_29_w, N.2.1.2.2.2, if_lt (by omega) (by omega), if_pos (by omega), qX12_visits_73_w (h := e_bits _ _)]
