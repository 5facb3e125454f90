/-! crowd, paid, stuck: all walkers. -/
theorem walks_all {pl : PlS} {me : MeS} {w h du pa sh gc wc s : Nat} {m : Int64} (H : WH w h) (G : GrOK pl.1 w h) (N : PlNu pl me w h du pa sh) (GA : PlGa pl me (w * h) gc) (NO : PlNo pl me (w * h)) (WK : PlWk pl me (w * h) wc) (hm : Sub m (w * h)) (hs : s < 65537) : ∃ (l K : Nat → Nat) (od : Nat → Option Nat) (tr : Nat → Nat → PS), ∀ j, j < wc → WTwo pl me w h du j s m (l j) (K j) (od j) (tr j) := by
  have e : ∀ j, ∃ y : Nat × Nat × Option Nat × (Nat → PS), j < wc → WTwo pl me w h du j s m y.1 y.2.1 y.2.2.1 y.2.2.2 := fun j => by
    by_cases hj : j < wc
    · obtain ⟨l, K, od, tr, W⟩ := walk_two H G N GA NO WK hm hs hj
      exact ⟨(l, K, od, tr), fun _ => W⟩
    · exact ⟨(0, 0, none, fun _ => (0, 0, 0, 0, fun _ => 0)), fun h => absurd h hj⟩
  obtain ⟨f, hf⟩ := Classical.axiomOfChoice e
  exact ⟨fun j => (f j).1, fun j => (f j).2.1, fun j => (f j).2.2.1, fun j => (f j).2.2.2, hf⟩
def skv (od : Nat → Option Nat) : Nat → Int32
  | 0 => 0
  | j + 1 => match od j with
    | none => skv od j ||| ((1 : Int32) <<< (nI j &&& 31))
    | some _ => skv od j
def shs (du : Nat) (l : Nat → Nat) (od : Nat → Option Nat) (j : Nat) : Nat := lsm du (od j) - l j
theorem shs_le {pl : PlS} {me : MeS} {w h du s wc : Nat} {m : Int64} {l K : Nat → Nat} {od : Nat → Option Nat} {tr : Nat → Nat → PS} (hdu : du ≤ 200) (W : ∀ j, j < wc → WTwo pl me w h du j s m (l j) (K j) (od j) (tr j)) {t : Nat} (ht : t ≤ wc) : fb_sm (shs du l od) t ≤ t * 200 := by
  refine fb_sm_bound (fun j hj => ?_)
  unfold shs
  have hod := WKO_od (W j (by omega)).2.2.1
  cases e : od j with
  | none => show du - l j ≤ 200; omega
  | some x => have := hod x e; show x - l j ≤ 200; omega
theorem op_crowd (y : Int32) : Step Inv EX10_crowd fIH EX12_crowd fIH [.int y] := by
  refine step_qw (fun cl se tr fa fp tp tk rd hi sc pl dr wa wb rc th wh ta mo sd mq ma rdv _ _ => ⟨1, by decide, rfl, rfl⟩) (fun cl s tr fa fp tp tk rd hi sc pl dr wa wb rc th wh ta ac mk mq ma me rdv ce fg ow ou sk bp F Q CF TN RW OR BE w h du pa sh gc hq wc hs H G N GA NO WK HE C => ?_)
  have hdu := N.2.1.2.1
  have hn := H.n
  have hwc := WK.1
  cases hy : inr (du + 1) y
  · refine ⟨-1, 2, sc, wa, wb, rc, MQw mq ce fg ow ou sk bp, MAw ma F Q CF TN RW OR BE, by decide, KeepMa.rf _, ?_, ?_⟩
    · rw [eX10_crowd_s_1, qX10_crowd_0_1, qX10_crowd_15_1 (h := c_isMinute hdu N.2.1.2.2.1 _), hy, if_b2i, if_neg (by decide)]
    · rw [eX12_crowd_s_w, qX12_crowd_0_w, N.2.1.2.2.2, qX12_crowd_27_w (h := e_in _ _ _ _), if_b2i, inr_dec2 (by omega), hy, if_neg (by decide)]
  · obtain ⟨z, hz, rfl⟩ := inr_true (by omega) hy
    obtain ⟨l, K, od, tr2, W⟩ := walks_all H G N GA NO WK C hs
    have hle := fb_ct_le (fun j => (posn (l j) (K j) (tr2 j) z).isSome)
    have e1 : ∃ wa2, EX10_crowd [.ref 0, .int (nI z)] (CH (1, cl, nI s, tr, fa, fp) tp tk rd hi sc pl dr wa wb rc) = some (nI (fb_ct (fun j => (posn (l j) (K j) (tr2 j) z).isSome) wc), CH (1, cl, nI s, 0, fa, fp) tp tk rd hi sc pl dr wa2 wb rc) := by
      rw [eX10_crowd_s_1, qX10_crowd_0_1, qX10_crowd_15_1 (h := c_isMinute hdu N.2.1.2.2.1 _), hy, if_b2i, if_pos rfl]
      have L := lp_inv (B := BX10_crowd_31) (fun i lv hp => ∃ wa2, i ≤ wc ∧ lv = [(0, .ref 0), (1, .int (nI z)), (2, .int (nI (fb_ct (fun j => (posn (l j) (K j) (tr2 j) z).isSome) i))), (3, .int (nI i))] ∧ hp = CH (1, cl, nI s, tr, fa, fp) tp tk rd hi sc pl dr wa2 wb rc) (Q := fun r => ∃ wa2, r = some (nI (fb_ct (fun j => (posn (l j) (K j) (tr2 j) z).isSome) wc), CH (1, cl, nI s, 0, fa, fp) tp tk rd hi sc pl dr wa2 wb rc)) (t := wc) (N := FU) (by have := FU_ge; omega) (fun i lv hp hi5 hI => ?_) (fun lv hp hI => ?_) (lv := [(0, .ref 0), (1, .int (nI z)), (2, .int 0), (3, .int 0)]) (hp := CH (1, cl, nI s, tr, fa, fp) tp tk rd hi sc pl dr wa wb rc) ⟨wa, Nat.zero_le _, rfl, rfl⟩
      · obtain ⟨r, ⟨wa2, hr⟩, e⟩ := L
        exact ⟨wa2, e.trans hr⟩
      · obtain ⟨wa2, _, rfl, rfl⟩ := hI
        obtain ⟨w1, w2, w3, w4, w5, w6, w7, w8, w9, w10⟩ := W i hi5
        have hbd := WKO_bd w3
        obtain ⟨T1, CF1, SN1, hT1, e1⟩ := w8 (1, cl, nI s, tr, fa, fp) tp tk rd hi sc dr wa2 wb rc
        refine Or.inl ⟨_, _, ⟨wPa T1 CF1 SN1 (24 + i) cl (tr2 i (K i - 1)) (oM (od i)) (las (l i) (K i)), by omega, rfl, rfl⟩, fun k => ?_⟩
        rw [qX10_crowd_31_1, WK.2.1, if_le (by omega) (by omega), if_neg (by omega), qX10_crowd_59_1 (h := e1), qX10_crowd_67_1 (h := c_cellIna w1 w2 w6 hT1 (by omega) (by omega)), nI_1, nI_1, fb_ct_succ]
        cases hp : posn (l i) (K i) (tr2 i) z with
        | none => rw [show oM none = -2 from rfl, if_pos (by decide)]; rfl
        | some c =>
          have hcn : c < w * h := by
            unfold posn at hp
            by_cases h5 : l i ≤ z ∧ z < l i + K i
            · rw [if_pos h5] at hp; cases hp; exact w4 _
            · rw [if_neg h5] at hp; cases hp
          rw [show oM (some c) = nI c from rfl, if_neg (nI_pos (by omega))]
          rfl
      · obtain ⟨wa2, _, rfl, rfl⟩ := hI
        refine ⟨_, ⟨wa2, rfl⟩, fun k => ?_⟩
        rw [qX10_crowd_31_1, WK.2.1, if_le (by omega) (by omega), if_pos (by omega)]
    have e2 : ∃ ce2 fg2 ow2 ou2 F2 Q2 CF2 TN2 RW2, EX12_crowd [.ref 0, .int (nI z)] (M1 (th, tr, wh, ta, fa, cl, nI s, ac, mk) (MQw mq ce fg ow ou sk bp) (MAw ma F Q CF TN RW OR BE) me rdv) = some (nI (fb_ct (fun j => (posn (l j) (K j) (tr2 j) z).isSome) wc), M1 (0, 0, -1, ta, fa, cl, nI s, ac, mk) (MQw mq ce2 fg2 ow2 ou2 sk bp) (MAw ma F2 Q2 CF2 TN2 RW2 OR BE) me rdv) := by
      rw [eX12_crowd_s_w, qX12_crowd_0_w, N.2.1.2.2.2, qX12_crowd_27_w (h := e_in _ _ _ _), if_b2i, inr_dec2 (by omega), hy, if_pos rfl]
      have L := lp_inv (B := BX12_crowd_43) (fun i lv hp => ∃ ce2 fg2 ow2 ou2 F2 Q2 CF2 TN2 RW2, i ≤ wc ∧ lv = [(0, .ref 0), (1, .int (nI z)), (2, .int (nI (fb_ct (fun j => (posn (l j) (K j) (tr2 j) z).isSome) i))), (3, .int (nI i))] ∧ hp = M1 (0, tr, wh, ta, fa, cl, nI s, ac, mk) (MQw mq ce2 fg2 ow2 ou2 sk bp) (MAw ma F2 Q2 CF2 TN2 RW2 OR BE) me rdv) (Q := fun r => ∃ ce2 fg2 ow2 ou2 F2 Q2 CF2 TN2 RW2, r = some (nI (fb_ct (fun j => (posn (l j) (K j) (tr2 j) z).isSome) wc), M1 (0, 0, -1, ta, fa, cl, nI s, ac, mk) (MQw mq ce2 fg2 ow2 ou2 sk bp) (MAw ma F2 Q2 CF2 TN2 RW2 OR BE) me rdv)) (t := wc) (N := FU) (by have := FU_ge; omega) (fun i lv hp hi5 hI => ?_) (fun lv hp hI => ?_) (lv := [(0, .ref 0), (1, .int (nI z)), (2, .int 0), (3, .int 0)]) (hp := M1 (0, tr, wh, ta, fa, cl, nI s, ac, mk) (MQw mq ce fg ow ou sk bp) (MAw ma F Q CF TN RW OR BE) me rdv) ⟨_, _, _, _, _, _, _, _, _, Nat.zero_le _, rfl, rfl⟩
      · obtain ⟨r, ⟨a1, a2, a3, a4, a5, a6, a7, a8, a9, hr⟩, e⟩ := L
        exact ⟨a1, a2, a3, a4, a5, a6, a7, a8, a9, e.trans hr⟩
      · obtain ⟨a1, a2, a3, a4, a5, a6, a7, a8, a9, _, rfl, rfl⟩ := hI
        obtain ⟨w1, w2, w3, w4, w5, w6, w7, w8, w9, w10⟩ := W i hi5
        obtain ⟨F1, Q1, CF2, TN1, RW1, ce1, fg1, ow1, hR1, e2⟩ := w10 0 tr wh ta fa ac mk mq ma rdv a1 a2 a3 a4 sk bp a5 a6 a7 a8 a9 OR BE
        refine Or.inl ⟨_, _, ⟨ce1, fg1, ow1, oM (od i), F1, Q1, CF2, TN1, RW1, by omega, rfl, rfl⟩, fun k => ?_⟩
        rw [qX12_crowd_43_w, WK.2.2.1, if_le (by omega) (by omega), if_neg (by omega), qX12_crowd_56_w (h := e2), if_neg (nI_in (by omega : z < 201) (by omega)), nI_clamp (by omega), hR1 z (by omega), s_add0, nI_1, nI_1, fb_ct_succ]
        cases hp : posn (l i) (K i) (tr2 i) z with
        | none => rw [show oM none = -2 from rfl, if_pos rfl]; rfl
        | some c =>
          have hcn : c < w * h := by
            unfold posn at hp
            by_cases h5 : l i ≤ z ∧ z < l i + K i
            · rw [if_pos h5] at hp; cases hp; exact w4 _
            · rw [if_neg h5] at hp; cases hp
          rw [show oM (some c) = nI c from rfl, if_neg (nI_m2 (by omega))]
          rfl
      · obtain ⟨a1, a2, a3, a4, a5, a6, a7, a8, a9, _, rfl, rfl⟩ := hI
        refine ⟨_, ⟨a1, a2, a3, a4, a5, a6, a7, a8, a9, rfl⟩, fun k => ?_⟩
        rw [qX12_crowd_43_w, WK.2.2.1, if_le (by omega) (by omega), if_pos (by omega)]
    obtain ⟨wa2, e1⟩ := e1
    obtain ⟨a1, a2, a3, a4, a5, a6, a7, a8, a9, e2⟩ := e2
    exact ⟨_, 0, sc, wa2, wb, rc, _, MAw ma a5 a6 a7 a8 a9 OR BE, by decide, ⟨rfl, rfl, rfl, rfl, rfl⟩, e1, e2⟩
theorem m_paidNow {pl : PlS} {me : MeS} {w h du pa sh wc s : Nat} {m : Int64} {l K : Nat → Nat} {od : Nat → Option Nat} {tr : Nat → Nat → PS} (N : PlNu pl me w h du pa sh) (WK : PlWk pl me (w * h) wc) (W : ∀ j, j < wc → WTwo pl me w h du j s m (l j) (K j) (od j) (tr j)) {th mtr wh ta mfa ac mk : Int32} {mq : MsS} {ma : MaS} {rdv : Value} {ce fg ow ou sk bp : Int32} {F Q CF TN RW OR BE : Nat → Int32} : ∃ ce2 fg2 ow2 ou2 F2 Q2 CF2 TN2 RW2, EX12_paidNow [.ref 0] (M1 (th, mtr, wh, ta, mfa, m, nI s, ac, mk) (MQw mq ce fg ow ou sk bp) (MAw ma F Q CF TN RW OR BE) me rdv) = some (nI (pa * fb_sm (shs du l od) wc), M1 (th, mtr, wh, ta, mfa, m, nI s, ac, mk) (MQw mq ce2 fg2 ow2 ou2 (skv od wc) bp) (MAw ma F2 Q2 CF2 TN2 RW2 OR BE) me rdv) := by
  have hdu := N.2.1.2.1
  have hwc := WK.1
  rw [eX12_paidNow_s_w, qX12_paidNow_0_w]
  have L := lp_inv (B := BX12_paidNow_9) (fun i lv hp => ∃ ce2 fg2 ow2 ou2 F2 Q2 CF2 TN2 RW2, i ≤ wc ∧ lv = [(0, .ref 0), (1, .int (nI (pa * fb_sm (shs du l od) i))), (2, .int (nI i))] ∧ hp = M1 (th, mtr, wh, ta, mfa, m, nI s, ac, mk) (MQw mq ce2 fg2 ow2 ou2 (skv od i) bp) (MAw ma F2 Q2 CF2 TN2 RW2 OR BE) me rdv) (Q := fun r => ∃ ce2 fg2 ow2 ou2 F2 Q2 CF2 TN2 RW2, r = some (nI (pa * fb_sm (shs du l od) wc), M1 (th, mtr, wh, ta, mfa, m, nI s, ac, mk) (MQw mq ce2 fg2 ow2 ou2 (skv od wc) bp) (MAw ma F2 Q2 CF2 TN2 RW2 OR BE) me rdv)) (t := wc) (N := FU) (by have := FU_ge; omega) (fun i lv hp hi5 hI => ?_) (fun lv hp hI => ?_) (lv := [(0, .ref 0), (1, .int 0), (2, .int 0)]) (hp := M1 (th, mtr, wh, ta, mfa, m, nI s, ac, mk) (MQw mq ce fg ow ou 0 bp) (MAw ma F Q CF TN RW OR BE) me rdv) ⟨_, _, _, _, _, _, _, _, _, Nat.zero_le _, by rw [show fb_sm (shs du l od) 0 = 0 from rfl, Nat.mul_zero]; rfl, rfl⟩
  · obtain ⟨r, ⟨a1, a2, a3, a4, a5, a6, a7, a8, a9, hr⟩, e⟩ := L
    exact ⟨a1, a2, a3, a4, a5, a6, a7, a8, a9, e.trans hr⟩
  · obtain ⟨a1, a2, a3, a4, a5, a6, a7, a8, a9, _, rfl, rfl⟩ := hI
    obtain ⟨w1, w2, w3, w4, w5, w6, w7, w8, w9, w10⟩ := W i hi5
    have hod := WKO_od w3
    obtain ⟨F1, Q1, CF2, TN1, RW1, ce1, fg1, ow1, hR1, e2⟩ := w10 th mtr wh ta mfa ac mk mq ma rdv a1 a2 a3 a4 (skv od i) bp a5 a6 a7 a8 a9 OR BE
    refine Or.inl ⟨_, _, ⟨ce1, fg1, ow1, oM (od i), F1, Q1, CF2, TN1, RW1, by omega, rfl, rfl⟩, fun k => ?_⟩
    have et : EX12_there [.ref 0, .int (nI i)] (M1 (th, mtr, wh, ta, mfa, m, nI s, ac, mk) (MQw mq ce1 fg1 ow1 (oM (od i)) (skv od i) bp) (MAw ma F1 Q1 CF2 TN1 RW1 OR BE) me rdv) = some (nI (shs du l od i)) := (m_there (th := th) (mtr := mtr) (wh := wh) (ta := ta) (mfa := mfa) (mo := m) (sd := nI s) (ac := ac) (mk := mk) (mq := mq) (ma := ma) (rdv := rdv) (ce := ce1) (fg := fg1) (ow := ow1) (sk := skv od i) (bp := bp) (F := F1) (Q := Q1) (CF := CF2) (TN := TN1) (RW := RW1) (OR := OR) (BE := BE) w1 w2 w7 hdu N.2.1.2.2.2 (fun x e => Nat.le_trans (hod x e) hdu))
    rw [qX12_paidNow_9_w, WK.2.2.1, if_le (by omega) (by omega), if_neg (by omega), qX12_paidNow_22_w (h := e2), N.2.2.1.2.2, qX12_paidNow_35_w (h := et), pk_mul, nI_add, ← Nat.mul_add, nI_1, or_0]
    have e5 : skv od (i + 1) = match od i with
      | none => skv od i ||| ((1 : Int32) <<< (nI i &&& 31))
      | some _ => skv od i := rfl
    have e6 : fb_sm (shs du l od) (i + 1) = fb_sm (shs du l od) i + shs du l od i := rfl
    rw [e5, e6]
    cases he : od i with
    | none => rw [show oM none = -2 from rfl, if_pos rfl]
    | some x =>
      have hx := hod x he
      rw [show oM (some x) = nI x from rfl, if_neg (nI_m2 (by omega))]
  · obtain ⟨a1, a2, a3, a4, a5, a6, a7, a8, a9, _, rfl, rfl⟩ := hI
    refine ⟨_, ⟨a1, a2, a3, a4, a5, a6, a7, a8, a9, rfl⟩, fun k => ?_⟩
    rw [qX12_paidNow_9_w, WK.2.2.1, if_le (by omega) (by omega), if_pos (by omega)]
theorem op_paid : Step Inv EX10_paid fIH EX12_paid fIH [] := by
  refine step_qw (fun cl se tr fa fp tp tk rd hi sc pl dr wa wb rc th wh ta mo sd mq ma rdv _ _ => ⟨1, by decide, rfl, rfl⟩) (fun cl s tr fa fp tp tk rd hi sc pl dr wa wb rc th wh ta ac mk mq ma me rdv ce fg ow ou sk bp F Q CF TN RW OR BE w h du pa sh gc hq wc hs H G N GA NO WK HE C => ?_)
  have hdu := N.2.1.2.1
  have hn := H.n
  have hwc := WK.1
  obtain ⟨l, K, od, tr2, W⟩ := walks_all H G N GA NO WK C hs
  have e1 : ∃ wa2, EX10_paid [.ref 0] (CH (1, cl, nI s, tr, fa, fp) tp tk rd hi sc pl dr wa wb rc) = some (nI (pa * fb_sm (shs du l od) wc), CH (1, cl, nI s, 0, fa, fp) tp tk rd hi sc pl dr wa2 wb rc) := by
    rw [eX10_paid_s_1, qX10_paid_0_1]
    have L := lp_inv (B := BX10_paid_17) (fun i lv hp => ∃ wa2, i ≤ wc ∧ lv = [(0, .ref 0), (1, .int (nI (fb_sm (shs du l od) i))), (2, .int (nI i))] ∧ hp = CH (1, cl, nI s, tr, fa, fp) tp tk rd hi sc pl dr wa2 wb rc) (Q := fun r => ∃ wa2, r = some (nI (pa * fb_sm (shs du l od) wc), CH (1, cl, nI s, 0, fa, fp) tp tk rd hi sc pl dr wa2 wb rc)) (t := wc) (N := FU) (by have := FU_ge; omega) (fun i lv hp hi5 hI => ?_) (fun lv hp hI => ?_) (lv := [(0, .ref 0), (1, .int 0), (2, .int 0)]) (hp := CH (1, cl, nI s, tr, fa, fp) tp tk rd hi sc pl dr wa wb rc) ⟨wa, Nat.zero_le _, rfl, rfl⟩
    · obtain ⟨r, ⟨wa2, hr⟩, e⟩ := L
      exact ⟨wa2, e.trans hr⟩
    · obtain ⟨wa2, _, rfl, rfl⟩ := hI
      obtain ⟨w1, w2, w3, w4, w5, w6, w7, w8, w9, w10⟩ := W i hi5
      have hod := WKO_od w3
      obtain ⟨T1, CF1, SN1, hT1, e1⟩ := w8 (1, cl, nI s, tr, fa, fp) tp tk rd hi sc dr wa2 wb rc
      refine Or.inl ⟨_, _, ⟨wPa T1 CF1 SN1 (24 + i) cl (tr2 i (K i - 1)) (oM (od i)) (las (l i) (K i)), by omega, rfl, rfl⟩, fun k => ?_⟩
      rw [qX10_paid_17_1, WK.2.1, if_le (by omega) (by omega), if_neg (by omega), qX10_paid_45_1 (h := e1), qX10_paid_53_1 (h := c_shoutsa w1 w2 w6 hdu N.2.1.2.2.1 hod), nI_add, nI_1]
      rfl
    · obtain ⟨wa2, _, rfl, rfl⟩ := hI
      refine ⟨_, ⟨wa2, rfl⟩, fun k => ?_⟩
      rw [qX10_paid_17_1, WK.2.1, if_le (by omega) (by omega), if_pos (by omega), N.2.2.1.2.1, pk_mul]
  obtain ⟨wa2, e1⟩ := e1
  obtain ⟨a1, a2, a3, a4, a5, a6, a7, a8, a9, e2⟩ := m_paidNow (th := 0) (mtr := tr) (wh := wh) (ta := ta) (mfa := fa) (ac := ac) (mk := mk) (mq := mq) (ma := ma) (rdv := rdv) (ce := ce) (fg := fg) (ow := ow) (ou := ou) (sk := sk) (bp := bp) (F := F) (Q := Q) (CF := CF) (TN := TN) (RW := RW) (OR := OR) (BE := BE) N WK W
  refine ⟨_, 0, sc, wa2, wb, rc, MQw mq a1 a2 a3 a4 (skv od wc) bp, MAw ma a5 a6 a7 a8 a9 OR BE, by decide, ⟨rfl, rfl, rfl, rfl, rfl⟩, e1, ?_⟩
  rw [eX12_paid_s_w, qX12_paid_0_w, qX12_paid_22_w (h := e2)]
theorem op_stuck : Step Inv EX10_stuck fIH EX12_stuck fIH [] := by
  refine step_qw (fun cl se tr fa fp tp tk rd hi sc pl dr wa wb rc th wh ta mo sd mq ma rdv _ _ => ⟨1, by decide, rfl, rfl⟩) (fun cl s tr fa fp tp tk rd hi sc pl dr wa wb rc th wh ta ac mk mq ma me rdv ce fg ow ou sk bp F Q CF TN RW OR BE w h du pa sh gc hq wc hs H G N GA NO WK HE C => ?_)
  have hdu := N.2.1.2.1
  have hn := H.n
  have hwc := WK.1
  obtain ⟨l, K, od, tr2, W⟩ := walks_all H G N GA NO WK C hs
  have e1 : ∃ wa2, EX10_stuck [.ref 0] (CH (1, cl, nI s, tr, fa, fp) tp tk rd hi sc pl dr wa wb rc) = some (skv od wc, CH (1, cl, nI s, 0, fa, fp) tp tk rd hi sc pl dr wa2 wb rc) := by
    rw [eX10_stuck_s_1, qX10_stuck_0_1]
    have L := lp_inv (B := BX10_stuck_17) (fun i lv hp => ∃ wa2, i ≤ wc ∧ lv = [(0, .ref 0), (1, .int (skv od i)), (2, .int (nI i))] ∧ hp = CH (1, cl, nI s, tr, fa, fp) tp tk rd hi sc pl dr wa2 wb rc) (Q := fun r => ∃ wa2, r = some (skv od wc, CH (1, cl, nI s, 0, fa, fp) tp tk rd hi sc pl dr wa2 wb rc)) (t := wc) (N := FU) (by have := FU_ge; omega) (fun i lv hp hi5 hI => ?_) (fun lv hp hI => ?_) (lv := [(0, .ref 0), (1, .int 0), (2, .int 0)]) (hp := CH (1, cl, nI s, tr, fa, fp) tp tk rd hi sc pl dr wa wb rc) ⟨wa, Nat.zero_le _, rfl, rfl⟩
    · obtain ⟨r, ⟨wa2, hr⟩, e⟩ := L
      exact ⟨wa2, e.trans hr⟩
    · obtain ⟨wa2, _, rfl, rfl⟩ := hI
      obtain ⟨w1, w2, w3, w4, w5, w6, w7, w8, w9, w10⟩ := W i hi5
      have hod := WKO_od w3
      obtain ⟨T1, CF1, SN1, hT1, e1⟩ := w8 (1, cl, nI s, tr, fa, fp) tp tk rd hi sc dr wa2 wb rc
      refine Or.inl ⟨_, _, ⟨wPa T1 CF1 SN1 (24 + i) cl (tr2 i (K i - 1)) (oM (od i)) (las (l i) (K i)), by omega, rfl, rfl⟩, fun k => ?_⟩
      rw [qX10_stuck_17_1, WK.2.1, if_le (by omega) (by omega), if_neg (by omega), qX10_stuck_45_1 (h := e1), nI_1]
      have e5 : skv od (i + 1) = match od i with
        | none => skv od i ||| ((1 : Int32) <<< (nI i &&& 31))
        | some _ => skv od i := rfl
      rw [e5]
      show (if oM (od i) = -2 then _ else _) = _
      cases he : od i with
      | none => rw [show oM none = -2 from rfl, if_pos rfl]
      | some x =>
        have hx := hod x he
        rw [show oM (some x) = nI x from rfl, if_neg (nI_m2 (by omega))]
    · obtain ⟨wa2, _, rfl, rfl⟩ := hI
      refine ⟨_, ⟨wa2, rfl⟩, fun k => ?_⟩
      rw [qX10_stuck_17_1, WK.2.1, if_le (by omega) (by omega), if_pos (by omega)]
  obtain ⟨wa2, e1⟩ := e1
  obtain ⟨a1, a2, a3, a4, a5, a6, a7, a8, a9, e2⟩ := m_paidNow (th := 0) (mtr := tr) (wh := wh) (ta := ta) (mfa := fa) (ac := ac) (mk := mk) (mq := mq) (ma := ma) (rdv := rdv) (ce := ce) (fg := fg) (ow := ow) (ou := ou) (sk := sk) (bp := bp) (F := F) (Q := Q) (CF := CF) (TN := TN) (RW := RW) (OR := OR) (BE := BE) N WK W
  refine ⟨_, 0, sc, wa2, wb, rc, MQw mq a1 a2 a3 a4 (skv od wc) bp, MAw ma a5 a6 a7 a8 a9 OR BE, by decide, ⟨rfl, rfl, rfl, rfl, rfl⟩, e1, ?_⟩
  rw [eX12_stuck_s_w, qX12_stuck_0_w, qX12_stuck_19_w (h := e2)]
