/-! meets, caught. -/
theorem posn_lt {l K n z c : Nat} {tr : Nat → PS} (h : ∀ i, (tr i).1 < n) (e : posn l K tr z = some c) : c < n := by
  unfold posn at e
  by_cases h5 : l ≤ z ∧ z < l + K
  · rw [if_pos h5] at e; cases e; exact h _
  · rw [if_neg h5] at e; cases e
/-- the first minute of a kind -/
theorem first_or {P : Nat → Prop} [DecidablePred P] (n : Nat) : (∃ t, t < n ∧ P t ∧ ∀ z, z < t → ¬ P z) ∨ ∀ z, z < n → ¬ P z := by
  by_cases h : ∃ i, i < n ∧ P i
  · exact Or.inl (fb_first h)
  · exact Or.inr (fun z hz hp => h ⟨z, hz, hp⟩)
theorem oM_in {n : Nat} (hn : n ≤ 48) {a b : Option Nat} (ha : ∀ c, a = some c → c < n) (hb : ∀ c, b = some c → c < n) : oM a = oM b ↔ a = b := by
  cases a with
  | none =>
    cases b with
    | none => exact ⟨fun _ => rfl, fun _ => rfl⟩
    | some y => exact ⟨fun e => absurd e.symm (nI_m2 (by have := hb y rfl; omega)), fun e => by cases e⟩
  | some x =>
    cases b with
    | none => exact ⟨fun e => absurd e (nI_m2 (by have := ha x rfl; omega)), fun e => by cases e⟩
    | some y =>
      have hx := ha x rfl
      have hy := hb y rfl
      show nI x = nI y ↔ _
      rw [nI_eq (by omega) (by omega)]
      exact ⟨fun e => by rw [e], fun e => by cases e; rfl⟩
theorem op_meets (x y : Int32) : Step Inv EX10_meets fIH EX12_meets fIH [.int x, .int y] := by
  refine step_qw (fun cl se tr fa fp tp tk rd hi sc pl dr wa wb rc th wh ta mo sd mq ma rdv _ _ => ⟨1, by decide, rfl, rfl⟩) (fun cl s tr fa fp tp tk rd hi sc pl dr wa wb rc th wh ta ac mk mq ma me rdv ce fg ow ou sk bp F Q CF TN RW OR BE w h du pa sh gc hq wc hs H G N GA NO WK HE C => ?_)
  have hdu := N.2.1.2.1
  have hn := H.n
  have hwc := WK.1
  cases hx : inr wc x
  · refine ⟨-1, 1, sc, wa, wb, rc, MQw mq ce fg ow ou sk bp, MAw ma F Q CF TN RW OR BE, by decide, KeepMa.rf _, ?_, ?_⟩
    · rw [eX10_meets_s_1, qX10_meets_0_1, qX10_meets_2_1 (h := c_isWalker WK.2.1 _), hx, if_b2i, if_neg (by decide)]
    · rw [eX12_meets_s_w, qX12_meets_0_w, qX12_meets_7_w (h := m_isWalker WK.2.2.1 _), hx, if_b2i, if_neg (by decide)]
  · cases hy : inr wc y
    · refine ⟨-1, 1, sc, wa, wb, rc, MQw mq ce fg ow ou sk bp, MAw ma F Q CF TN RW OR BE, by decide, KeepMa.rf _, ?_, ?_⟩
      · rw [eX10_meets_s_1, qX10_meets_0_1, qX10_meets_2_1 (h := c_isWalker WK.2.1 _), hx, if_b2i, if_pos rfl, qX10_meets_10_1 (h := c_isWalker WK.2.1 _), hy, if_b2i, if_neg (by decide)]
      · rw [eX12_meets_s_w, qX12_meets_0_w, qX12_meets_7_w (h := m_isWalker WK.2.2.1 _), hx, if_b2i, if_pos rfl, qX12_meets_15_w (h := m_isWalker WK.2.2.1 _), hy, if_b2i, if_neg (by decide)]
    · by_cases hxy : x = y
      · refine ⟨-1, 1, sc, wa, wb, rc, MQw mq ce fg ow ou sk bp, MAw ma F Q CF TN RW OR BE, by decide, KeepMa.rf _, ?_, ?_⟩
        · rw [eX10_meets_s_1, qX10_meets_0_1, qX10_meets_2_1 (h := c_isWalker WK.2.1 _), hx, if_b2i, if_pos rfl, qX10_meets_10_1 (h := c_isWalker WK.2.1 _), hy, if_b2i, if_pos rfl, if_pos hxy]
        · rw [eX12_meets_s_w, qX12_meets_0_w, qX12_meets_7_w (h := m_isWalker WK.2.2.1 _), hx, if_b2i, if_pos rfl, qX12_meets_15_w (h := m_isWalker WK.2.2.1 _), hy, if_b2i, if_pos rfl, if_pos hxy]
      · obtain ⟨j, hj, rfl⟩ := inr_true (by omega) hx
        obtain ⟨i, hii, rfl⟩ := inr_true (by omega) hy
        obtain ⟨l, K, od, tr2, W⟩ := walk_two H G N GA NO WK C hs hj
        obtain ⟨l2, K2, od2, tr3, V⟩ := walk_two H G N GA NO WK C hs hii
        obtain ⟨w1, w2, w3, w4, w5, w6, w7, w8, w9, w10⟩ := W
        obtain ⟨v1, v2, v3, v4, v5, v6, v7, v8, v9, v10⟩ := V
        have hbd := WKO_bd w3
        have hbd2 := WKO_bd v3
        obtain ⟨T1, CF1, SN1, hT1, e1⟩ := w8 (1, cl, nI s, tr, fa, fp) tp tk rd hi sc dr wa wb rc
        obtain ⟨T2, CF2, SN2, hT2, e2⟩ := v9 (1, cl, nI s, tr, fa, fp) tp tk rd hi sc dr wb (wPa T1 CF1 SN1 (24 + j) cl (tr2 (K - 1)) (oM od) (las l K)) rc
        obtain ⟨F1, Q1, CF3, TN1, RW1, ce1, fg1, ow1, hR1, e3⟩ := w10 0 tr wh ta fa ac mk mq ma rdv ce fg ow ou sk bp F Q CF TN RW OR BE
        obtain ⟨F2, Q2, CF4, TN2, RW2, ce2, fg2, ow2, hR2, e4⟩ := v10 0 tr wh ta fa ac mk mq ma rdv ce1 fg1 ow1 (oM od) sk bp F1 Q1 CF3 TN1 RW1 (fun k => if k < 201 then RW1 k else OR k) BE
        have hp1 : ∀ {z c}, posn l K tr2 z = some c → c < w * h := fun e => posn_lt w4 e
        have hp2 : ∀ {z c}, posn l2 K2 tr3 z = some c → c < w * h := fun e => posn_lt v4 e
        have go : ∀ (t : Nat) (v : Int32), t ≤ du + 1 → (∀ z, z < t → ¬ (posn l K tr2 z = posn l2 K2 tr3 z ∧ (posn l K tr2 z).isSome = true)) → ((t = du + 1 ∧ v = -2) ∨ (t < du + 1 ∧ (posn l K tr2 t = posn l2 K2 tr3 t ∧ (posn l K tr2 t).isSome = true) ∧ v = nI t)) → ∃ v t sc2 wa2 wb2 rc2 mq2 ma2, t ≠ 4 ∧ KeepMa (MAw ma F Q CF TN RW OR BE) ma2 ∧ EX10_meets [.ref 0, .int (nI j), .int (nI i)] (CH (1, cl, nI s, tr, fa, fp) tp tk rd hi sc pl dr wa wb rc) = some (v, CH (1, cl, nI s, t, fa, fp) tp tk rd hi sc2 pl dr wa2 wb2 rc2) ∧ EX12_meets [.ref 0, .int (nI j), .int (nI i)] (M1 (th, tr, wh, ta, fa, cl, nI s, ac, mk) (MQw mq ce fg ow ou sk bp) (MAw ma F Q CF TN RW OR BE) me rdv) = some (v, M1 (0, t, -1, ta, fa, cl, nI s, ac, mk) mq2 ma2 me rdv) := by
          intro t v ht hno hv
          refine ⟨v, 0, sc, wPa T1 CF1 SN1 (24 + j) cl (tr2 (K - 1)) (oM od) (las l K), wPb T2 CF2 SN2 (24 + i) cl (tr3 (K2 - 1)) (oM od2) (las l2 K2), rc, MQw mq ce2 fg2 ow2 (oM od2) sk bp, MAw ma F2 Q2 CF4 TN2 RW2 (fun k => if k < 201 then RW1 k else OR k) BE, by decide, ⟨rfl, rfl, rfl, rfl, rfl⟩, ?_, ?_⟩
          · rw [eX10_meets_s_1, qX10_meets_0_1, qX10_meets_2_1 (h := c_isWalker WK.2.1 _), hx, if_b2i, if_pos rfl, qX10_meets_10_1 (h := c_isWalker WK.2.1 _), hy, if_b2i, if_pos rfl, if_neg hxy, qX10_meets_44_1 (h := e1), qX10_meets_64_1 (h := e2)]
            have ca : ∀ z, z ≤ 200 → EX8_cellIn [.ref 44, .int (nI z)] (CH (1, cl, nI s, tr, fa, fp) tp tk rd hi sc pl dr (wPa T1 CF1 SN1 (24 + j) cl (tr2 (K - 1)) (oM od) (las l K)) (wPb T2 CF2 SN2 (24 + i) cl (tr3 (K2 - 1)) (oM od2) (las l2 K2)) rc) = some (oM (posn l K tr2 z)) := fun z hz => c_cellIna w1 w2 w6 hT1 (by omega) hz
            have cb : ∀ z, z ≤ 200 → EX8_cellIn [.ref 48, .int (nI z)] (CH (1, cl, nI s, tr, fa, fp) tp tk rd hi sc pl dr (wPa T1 CF1 SN1 (24 + j) cl (tr2 (K - 1)) (oM od) (las l K)) (wPb T2 CF2 SN2 (24 + i) cl (tr3 (K2 - 1)) (oM od2) (las l2 K2)) rc) = some (oM (posn l2 K2 tr3 z)) := fun z hz => c_cellInb v1 v2 v6 hT2 (by omega) hz
            refine lp_run (fun z => [(0, .ref 0), (3, .int (nI z))]) (fun _ => (CH (1, cl, nI s, tr, fa, fp) tp tk rd hi sc pl dr (wPa T1 CF1 SN1 (24 + j) cl (tr2 (K - 1)) (oM od) (las l K)) (wPb T2 CF2 SN2 (24 + i) cl (tr3 (K2 - 1)) (oM od2) (las l2 K2)) rc)) (t := t) (by have := FU_ge; omega) (fun z hz k => ?_) (fun k => ?_)
            · rw [qX10_meets_69_1, N.2.1.2.2.1, if_lt (by omega) (by omega), if_neg (by omega), qX10_meets_85_1 (h := ca z (by omega)), nI_1]
              have hz2 := hno z hz
              cases hp : posn l K tr2 z with
              | none => rw [show oM none = -2 from rfl, if_pos (by decide)]
              | some c =>
                have hc := hp1 hp
                rw [show oM (some c) = nI c from rfl, if_neg (nI_pos (by omega)), qX10_meets_102_1 (h := cb z (by omega)), nI_1, if_neg]
                intro e
                have e : oM (some c) = oM (posn l2 K2 tr3 z) := e
                rw [oM_in hn.1 (fun c2 e2 => by cases e2; exact hc) (fun c2 e2 => hp2 e2)] at e
                exact hz2 ⟨hp.trans e, by rw [hp]; rfl⟩
            · rcases hv with ⟨rfl, rfl⟩ | ⟨h6, ⟨h7, h8⟩, rfl⟩
              · rw [qX10_meets_69_1, N.2.1.2.2.1, if_lt (by omega) (by omega), if_pos (by omega)]
              · rw [qX10_meets_69_1, N.2.1.2.2.1, if_lt (by omega) (by omega), if_neg (by omega), qX10_meets_85_1 (h := ca t (by omega))]
                cases hp : posn l K tr2 t with
                | none => rw [hp] at h8; cases h8
                | some c =>
                  have hc := hp1 hp
                  rw [hp] at h7
                  rw [show oM (some c) = nI c from rfl, if_neg (nI_pos (by omega)), qX10_meets_102_1 (h := cb t (by omega)), ← h7, if_pos (show nI c = oM (some c) from rfl)]
          · have e5 : EX12_meets [.ref 0, .int (nI j), .int (nI i)] (M1 (th, tr, wh, ta, fa, cl, nI s, ac, mk) (MQw mq ce fg ow ou sk bp) (MAw ma F Q CF TN RW OR BE) me rdv) = lp BX12_meets_71 FU [(0, .ref 0), (3, .int 0)] [] (M1 (0, tr, wh, ta, fa, cl, nI s, ac, mk) (MQw mq ce2 fg2 ow2 (oM od2) sk bp) (MAw ma F2 Q2 CF4 TN2 RW2 (fun k => if k < 201 then RW1 k else OR k) BE) me rdv) := by
              rw [eX12_meets_s_w, qX12_meets_0_w, qX12_meets_7_w (h := m_isWalker WK.2.2.1 _), hx, if_b2i, if_pos rfl, qX12_meets_15_w (h := m_isWalker WK.2.2.1 _), hy, if_b2i, if_pos rfl, if_neg hxy, qX12_meets_34_w (h := e3)]
              refine lp_fill (fun z => [(0, .ref 0), (2, .int (nI i)), (3, .int (nI z))]) (fun A => (M1 (0, tr, wh, ta, fa, cl, nI s, ac, mk) (MQw mq ce1 fg1 ow1 (oM od) sk bp) (MAw ma F1 Q1 CF3 TN1 RW1 A BE) me rdv)) RW1 (t := 201) (by have := FU_ge; omega) (fun z hz k A => ?_) (fun k => ?_)
              · rw [qX12_meets_39_w, show (200 : Int32) = nI 200 from rfl, if_lt (by omega) (by omega), if_neg (by omega), if_neg (nI_in hz (by omega)), if_neg (nI_in hz (by omega)), nI_clamp (by omega), nI_1]
              · rw [qX12_meets_39_w, show (200 : Int32) = nI 200 from rfl, if_lt (by omega) (by omega), if_pos (by omega), qX12_meets_66_w (h := e4)]
            rw [e5]
            have hrow : ∀ z, z < 201 → RW2 z = oM (posn l2 K2 tr3 z) ∧ (if z < 201 then RW1 z else OR z) = oM (posn l K tr2 z) := fun z hz => ⟨hR2 z hz, by rw [if_pos hz]; exact hR1 z hz⟩
            refine lp_run (fun z => [(0, .ref 0), (3, .int (nI z))]) (fun _ => (M1 (0, tr, wh, ta, fa, cl, nI s, ac, mk) (MQw mq ce2 fg2 ow2 (oM od2) sk bp) (MAw ma F2 Q2 CF4 TN2 RW2 (fun k => if k < 201 then RW1 k else OR k) BE) me rdv)) (t := t) (by have := FU_ge; omega) (fun z hz k => ?_) (fun k => ?_)
            · have hin := nI_in (by omega : z < 201) (by omega)
              rw [qX12_meets_71_w, N.2.1.2.2.2, if_lt (by omega) (by omega), if_neg (by omega), if_neg hin, if_neg hin, if_neg hin, nI_clamp (by omega), (hrow z (by omega)).1, (hrow z (by omega)).2, nI_1]
              have hz2 := hno z hz
              cases hp : posn l2 K2 tr3 z with
              | none => rw [show oM none = -2 from rfl, if_pos rfl]
              | some c =>
                have hc := hp2 hp
                rw [if_neg (show ¬ oM (some c) = -2 from nI_m2 (by omega)), if_neg]
                intro e
                rw [oM_in hn.1 (fun c2 e2 => by cases e2; exact hc) (fun c2 e2 => hp1 e2)] at e
                exact hz2 ⟨e.symm.trans hp.symm, by rw [← e]; rfl⟩
            · rcases hv with ⟨rfl, rfl⟩ | ⟨h6, ⟨h7, h8⟩, rfl⟩
              · rw [qX12_meets_71_w, N.2.1.2.2.2, if_lt (by omega) (by omega), if_pos (by omega)]
              · have hin := nI_in (by omega : t < 201) (by omega)
                rw [qX12_meets_71_w, N.2.1.2.2.2, if_lt (by omega) (by omega), if_neg (by omega), if_neg hin, if_neg hin, if_neg hin, nI_clamp (by omega), (hrow t (by omega)).1, (hrow t (by omega)).2, h7]
                rw [h7] at h8
                cases hp : posn l2 K2 tr3 t with
                | none => rw [hp] at h8; cases h8
                | some c =>
                  have hc := hp2 hp
                  rw [if_neg (show ¬ oM (some c) = -2 from nI_m2 (by omega)), if_pos rfl]
        rcases first_or (P := fun z => posn l K tr2 z = posn l2 K2 tr3 z ∧ (posn l K tr2 z).isSome = true) (du + 1) with ⟨t, h1, h2, h3⟩ | h3
        · exact go t (nI t) (by omega) h3 (Or.inr ⟨h1, h2, rfl⟩)
        · exact go (du + 1) (-2) (Nat.le_refl _) h3 (Or.inl ⟨rfl, rfl⟩)
theorem op_caught (x y z : Int32) : Step Inv EX10_caught fIH EX12_caught fIH [.int x, .int y, .int z] := by
  refine step_qw (fun cl se tr fa fp tp tk rd hi sc pl dr wa wb rc th wh ta mo sd mq ma rdv _ _ => ⟨1, by decide, rfl, rfl⟩) (fun cl s tr fa fp tp tk rd hi sc pl dr wa wb rc th wh ta ac mk mq ma me rdv ce fg ow ou sk bp F Q CF TN RW OR BE w h du pa sh gc hq wc hs H G N GA NO WK HE C => ?_)
  have hdu := N.2.1.2.1
  have hn := H.n
  have hwc := WK.1
  cases hx : inr wc x
  · refine ⟨-1, 1, sc, wa, wb, rc, MQw mq ce fg ow ou sk bp, MAw ma F Q CF TN RW OR BE, by decide, KeepMa.rf _, ?_, ?_⟩
    · rw [eX10_caught_s_1, qX10_caught_0_1, qX10_caught_2_1 (h := c_isWalker WK.2.1 _), hx, if_b2i, if_neg (by decide)]
    · rw [eX12_caught_s_w, qX12_caught_0_w, qX12_caught_7_w (h := m_isWalker WK.2.2.1 _), hx, if_b2i, if_neg (by decide)]
  · cases hb : (inr w y && inr h z)
    · refine ⟨-1, 1, sc, wa, wb, rc, MQw mq ce fg ow ou sk bp, MAw ma F Q CF TN RW OR BE, by decide, KeepMa.rf _, ?_, ?_⟩
      · rw [eX10_caught_s_1, qX10_caught_0_1, qX10_caught_2_1 (h := c_isWalker WK.2.1 _), hx, if_b2i, if_pos rfl, qX10_caught_11_1 (h := c_isCell G _ _), hb, if_b2i, if_neg (by decide)]
      · rw [eX12_caught_s_w, qX12_caught_0_w, qX12_caught_7_w (h := m_isWalker WK.2.2.1 _), hx, if_b2i, if_pos rfl, qX12_caught_16_w (h := m_isCell H N.1.1 N.1.2 _ _), hb, if_b2i, if_neg (by decide)]
    · have hb2 := hb
      rw [Bool.and_eq_true] at hb
      obtain ⟨X, hX, rfl⟩ := inr_true (by have := H.2.1; omega) hb.1
      obtain ⟨Y, hY, rfl⟩ := inr_true (by have := H.2.2.2; omega) hb.2
      have hc := yx_lt hX hY
      obtain ⟨j, hj, rfl⟩ := inr_true (by omega) hx
      cases h5 : tb cl (w * Y + X)
      · refine ⟨-1, 5, sc, wa, wb, rc, MQw mq ce fg ow ou sk bp, MAw ma F Q CF TN RW OR BE, by decide, KeepMa.rf _, ?_, ?_⟩
        · rw [eX10_caught_s_1, qX10_caught_0_1, qX10_caught_2_1 (h := c_isWalker WK.2.1 _), hx, if_b2i, if_pos rfl, qX10_caught_11_1 (h := c_isCell G _ _), hb2, if_b2i, if_pos rfl, qX10_caught_26_1 (h := c_isMown G H hX hY), h5, if_b2i, if_neg (by decide)]
        · rw [eX12_caught_s_w, qX12_caught_0_w, qX12_caught_7_w (h := m_isWalker WK.2.2.1 _), hx, if_b2i, if_pos rfl, qX12_caught_16_w (h := m_isCell H N.1.1 N.1.2 _ _), hb2, if_b2i, if_pos rfl, N.1.1, pk_mul, nI_add, qX12_caught_38_w (h := e_has _ _ (by omega)), h5, if_b2i, if_neg (by decide)]
      · obtain ⟨l, K, od, tr2, W⟩ := walk_two H G N GA NO WK C hs hj
        obtain ⟨w1, w2, w3, w4, w5, w6, w7, w8, w9, w10⟩ := W
        have hbd := WKO_bd w3
        obtain ⟨T1, CF1, SN1, hT1, e1⟩ := w8 (1, cl, nI s, tr, fa, fp) tp tk rd hi sc dr wa wb rc
        obtain ⟨A, hA, eA⟩ := e_measure_r (mz := (1, cl, nI s, tr, fa, fp)) (tp := tp) (tk := tk) (rd := rd) (hi := hi) (sc := sc) (pl := pl) (dr := dr) (wa := wPa T1 CF1 SN1 (24 + j) cl (tr2 (K - 1)) (oM od) (las l K)) (wb := wb) (rc := rc) H G C (w * Y + X)
        obtain ⟨F1, Q1, CF3, TN1, RW1, ce1, fg1, ow1, hR1, e3⟩ := w10 0 tr wh ta fa ac mk mq ma rdv ce fg ow ou sk bp F Q CF TN RW OR BE
        obtain ⟨F2, Q2, hF2, eF⟩ := e_laysFar (mp := (0, tr, wh, ta, fa, cl, nI s, ac, mk)) (mq := MQw mq ce1 fg1 ow1 (oM od) sk bp) (ma := MAw ma F1 Q1 CF3 TN1 RW1 OR BE) (rdv := rdv) H G N.1.1 N.1.2 C hc
        have hp1 : ∀ {z c}, posn l K tr2 z = some c → c < w * h := fun e => posn_lt w4 e
        have hdl : ∀ {d a}, dst pl.1 cl (bitL (nI (w * Y + X)) &&& cl) d = some a → a < 48 := fun e => dst_lt H G C bit_in e
        have go : ∀ (t : Nat) (v : Int32), t ≤ du + 1 → (∀ z, z < t → ¬ (match (posn l K tr2 z).bind (dst pl.1 cl (bitL (nI (w * Y + X)) &&& cl)) with | none => False | some a => a ≤ z)) → ((t = du + 1 ∧ v = -2) ∨ (t < du + 1 ∧ (match (posn l K tr2 t).bind (dst pl.1 cl (bitL (nI (w * Y + X)) &&& cl)) with | none => False | some a => a ≤ t) ∧ v = nI t)) → ∃ v t sc2 wa2 wb2 rc2 mq2 ma2, t ≠ 4 ∧ KeepMa (MAw ma F Q CF TN RW OR BE) ma2 ∧ EX10_caught [.ref 0, .int (nI j), .int (nI X), .int (nI Y)] (CH (1, cl, nI s, tr, fa, fp) tp tk rd hi sc pl dr wa wb rc) = some (v, CH (1, cl, nI s, t, fa, fp) tp tk rd hi sc2 pl dr wa2 wb2 rc2) ∧ EX12_caught [.ref 0, .int (nI j), .int (nI X), .int (nI Y)] (M1 (th, tr, wh, ta, fa, cl, nI s, ac, mk) (MQw mq ce fg ow ou sk bp) (MAw ma F Q CF TN RW OR BE) me rdv) = some (v, M1 (0, t, -1, ta, fa, cl, nI s, ac, mk) mq2 ma2 me rdv) := by
          intro t v ht hno hv
          refine ⟨v, 0, sc, wPa T1 CF1 SN1 (24 + j) cl (tr2 (K - 1)) (oM od) (las l K), wb, A, MQw mq ce1 fg1 ow1 (oM od) sk bp, MAw ma F2 Q2 CF3 TN1 RW1 OR BE, by decide, ⟨rfl, rfl, rfl, rfl, rfl⟩, ?_, ?_⟩
          · rw [eX10_caught_s_1, qX10_caught_0_1, qX10_caught_2_1 (h := c_isWalker WK.2.1 _), hx, if_b2i, if_pos rfl, qX10_caught_11_1 (h := c_isCell G _ _), hb2, if_b2i, if_pos rfl, qX10_caught_26_1 (h := c_isMown G H hX hY), h5, if_b2i, if_pos rfl, qX10_caught_55_1 (h := e1), G.1, pk_mul, nI_add, qX10_caught_85_1 (h := eA)]
            have ca : ∀ z, z ≤ 200 → EX8_cellIn [.ref 44, .int (nI z)] (CH (1, cl, nI s, tr, fa, fp) tp tk rd hi sc pl dr (wPa T1 CF1 SN1 (24 + j) cl (tr2 (K - 1)) (oM od) (las l K)) wb A) = some (oM (posn l K tr2 z)) := fun z hz => c_cellIna w1 w2 w6 hT1 (by omega) hz
            refine lp_run (fun z => [(0, .ref 0), (4, .int (nI z))]) (fun _ => (CH (1, cl, nI s, tr, fa, fp) tp tk rd hi sc pl dr (wPa T1 CF1 SN1 (24 + j) cl (tr2 (K - 1)) (oM od) (las l K)) wb A)) (t := t) (by have := FU_ge; omega) (fun z hz k => ?_) (fun k => ?_)
            · have hz2 := hno z hz
              rw [qX10_caught_91_1, N.2.1.2.2.1, if_lt (by omega) (by omega), if_neg (by omega), qX10_caught_109_1 (h := ca z (by omega)), nI_1]
              cases hp : posn l K tr2 z with
              | none => rw [show oM none = -2 from rfl, if_pos (by decide)]
              | some c =>
                have hcn := hp1 hp
                have hin := nI_in (by omega : c < 48) (by omega)
                rw [show oM (some c) = nI c from rfl, if_neg (nI_pos (by omega)), l48, if_le (by omega) (by omega), if_neg (by omega : ¬ 48 ≤ c), if_neg hin, if_neg hin, nI_clamp (by omega), hA c (by omega)]
                rw [hp, Option.bind_some] at hz2
                cases hd : dst pl.1 cl (bitL (nI (w * Y + X)) &&& cl) c with
                | none => rw [show oM none = -2 from rfl, if_pos (by decide)]
                | some a =>
                  have ha := hdl hd
                  rw [hd] at hz2
                  rw [show oM (some a) = nI a from rfl, if_neg (nI_pos (by omega)), if_lt (by omega) (by omega), if_pos (Nat.lt_of_not_le hz2)]
            · rcases hv with ⟨rfl, rfl⟩ | ⟨h6, h7, rfl⟩
              · rw [qX10_caught_91_1, N.2.1.2.2.1, if_lt (by omega) (by omega), if_pos (by omega)]
              · rw [qX10_caught_91_1, N.2.1.2.2.1, if_lt (by omega) (by omega), if_neg (by omega), qX10_caught_109_1 (h := ca t (by omega))]
                cases hp : posn l K tr2 t with
                | none => rw [hp] at h7; exact h7.elim
                | some c =>
                  have hcn := hp1 hp
                  have hin := nI_in (by omega : c < 48) (by omega)
                  rw [show oM (some c) = nI c from rfl, if_neg (nI_pos (by omega)), l48, if_le (by omega) (by omega), if_neg (by omega : ¬ 48 ≤ c), if_neg hin, if_neg hin, nI_clamp (by omega), hA c (by omega)]
                  rw [hp, Option.bind_some] at h7
                  cases hd : dst pl.1 cl (bitL (nI (w * Y + X)) &&& cl) c with
                  | none => rw [hd] at h7; exact h7.elim
                  | some a =>
                    have ha := hdl hd
                    rw [hd] at h7
                    have h7 : a ≤ t := h7
                    rw [show oM (some a) = nI a from rfl, if_neg (nI_pos (by omega)), if_lt (by omega) (by omega), if_neg (by omega)]
          · rw [eX12_caught_s_w, qX12_caught_0_w, qX12_caught_7_w (h := m_isWalker WK.2.2.1 _), hx, if_b2i, if_pos rfl, qX12_caught_16_w (h := m_isCell H N.1.1 N.1.2 _ _), hb2, if_b2i, if_pos rfl, N.1.1, pk_mul, nI_add, qX12_caught_38_w (h := e_has _ _ (by omega)), h5, if_b2i, if_pos rfl, qX12_caught_52_w (h := e3), N.1.1, pk_mul, nI_add, qX12_caught_66_w (h := eF)]
            refine lp_run (fun z => [(0, .ref 0), (4, .int (nI z))]) (fun _ => (M1 (0, tr, wh, ta, fa, cl, nI s, ac, mk) (MQw mq ce1 fg1 ow1 (oM od) sk bp) (MAw ma F2 Q2 CF3 TN1 RW1 OR BE) me rdv)) (t := t) (by have := FU_ge; omega) (fun z hz k => ?_) (fun k => ?_)
            · have hz2 := hno z hz
              have hin2 := nI_in (by omega : z < 201) (by omega)
              rw [qX12_caught_72_w, N.2.1.2.2.2, if_lt (by omega) (by omega), if_neg (by omega), if_neg hin2, if_neg hin2, if_neg hin2, nI_clamp (by omega), hR1 z (by omega), nI_1]
              cases hp : posn l K tr2 z with
              | none => rw [show oM none = -2 from rfl, if_pos rfl]
              | some c =>
                have hcn := hp1 hp
                have hin := nI_in (by omega : c < 48) (by omega)
                rw [show oM (some c) = nI c from rfl, if_neg (nI_m2 (by omega)), if_neg hin, if_neg hin, nI_clamp (by omega), hF2 c (by omega)]
                rw [hp, Option.bind_some] at hz2
                cases hd : dst pl.1 cl (bitL (nI (w * Y + X)) &&& cl) c with
                | none => rw [show oM none = -2 from rfl, if_pos rfl]
                | some a =>
                  have ha := hdl hd
                  rw [hd] at hz2
                  rw [show oM (some a) = nI a from rfl, if_neg (nI_m2 (by omega)), if_lt (by omega) (by omega), if_pos (Nat.lt_of_not_le hz2)]
            · rcases hv with ⟨rfl, rfl⟩ | ⟨h6, h7, rfl⟩
              · rw [qX12_caught_72_w, N.2.1.2.2.2, if_lt (by omega) (by omega), if_pos (by omega)]
              · have hin2 := nI_in (by omega : t < 201) (by omega)
                rw [qX12_caught_72_w, N.2.1.2.2.2, if_lt (by omega) (by omega), if_neg (by omega), if_neg hin2, if_neg hin2, if_neg hin2, nI_clamp (by omega), hR1 t (by omega)]
                cases hp : posn l K tr2 t with
                | none => rw [hp] at h7; exact h7.elim
                | some c =>
                  have hcn := hp1 hp
                  have hin := nI_in (by omega : c < 48) (by omega)
                  rw [show oM (some c) = nI c from rfl, if_neg (nI_m2 (by omega)), if_neg hin, if_neg hin, nI_clamp (by omega), hF2 c (by omega)]
                  rw [hp, Option.bind_some] at h7
                  cases hd : dst pl.1 cl (bitL (nI (w * Y + X)) &&& cl) c with
                  | none => rw [hd] at h7; exact h7.elim
                  | some a =>
                    have ha := hdl hd
                    rw [hd] at h7
                    have h7 : a ≤ t := h7
                    rw [show oM (some a) = nI a from rfl, if_neg (nI_m2 (by omega)), if_lt (by omega) (by omega), if_neg (by omega)]
        have hdec : DecidablePred (fun z => (match (posn l K tr2 z).bind (dst pl.1 cl (bitL (nI (w * Y + X)) &&& cl)) with | none => False | some a => a ≤ z)) := fun z => Classical.propDecidable _
        rcases first_or (P := fun z => (match (posn l K tr2 z).bind (dst pl.1 cl (bitL (nI (w * Y + X)) &&& cl)) with | none => False | some a => a ≤ z)) (du + 1) with ⟨t, h1, h2, h3⟩ | h3
        · exact go t (nI t) (by omega) h3 (Or.inr ⟨h1, h2, rfl⟩)
        · exact go (du + 1) (-2) (Nat.le_refl _) h3 (Or.inl ⟨rfl, rfl⟩)
