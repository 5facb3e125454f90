/-! best, bestPaid. -/
theorem sh_ne0 : ∀ j, j < 5 → (1 : Int32) <<< (nI j &&& 31) ≠ 0 := by decide +kernel
theorem skv_0 {od : Nat → Option Nat} {t : Nat} (ht : t ≤ 5) : skv od t = 0 ↔ ∀ j, j < t → od j ≠ none := by
  induction t with
  | zero => exact ⟨fun _ j hj => absurd hj (Nat.not_lt_zero j), fun _ => rfl⟩
  | succ t ih =>
    have ih := ih (by omega)
    have e : skv od (t + 1) = match od t with
      | none => skv od t ||| ((1 : Int32) <<< (nI t &&& 31))
      | some _ => skv od t := rfl
    cases ho : od t with
    | none =>
      rw [ho] at e
      rw [e]
      constructor
      · intro h
        exact absurd (Int32.or_eq_zero_iff.mp h).2 (sh_ne0 t (by omega))
      · intro h; exact absurd ho (h t (by omega))
    | some x =>
      rw [ho] at e
      rw [e]
      refine ih.trans ⟨fun h j hj => ?_, fun h j hj => h j (by omega)⟩
      by_cases e5 : j = t
      · rw [e5, ho]; exact fun h => by cases h
      · exact h j (by omega)
/-- what is paid over m, if all get out -/
theorem pay_two {pl : PlS} {me : MeS} {w h du pa sh gc wc s : Nat} {m : Int64} (H : WH w h) (G : GrOK pl.1 w h) (N : PlNu pl me w h du pa sh) (GA : PlGa pl me (w * h) gc) (NO : PlNo pl me (w * h)) (WK : PlWk pl me (w * h) wc) (hm : Sub m (w * h)) (hs : s < 65537) : ∃ py : Option Nat, (∀ v, py = some v → v < 2 ^ 30) ∧
    (∀ cl tr fa fp tp tk rd hi sc dr wa wb rc, ∃ wa2, EX10_paidIfAllGetOut [.ref 0, .long m] (CH (1, cl, nI s, tr, fa, fp) tp tk rd hi sc pl dr wa wb rc) = some (oM py, CH (1, cl, nI s, tr, fa, fp) tp tk rd hi sc pl dr wa2 wb rc)) ∧
    (∀ th mtr wh ta mfa ac mk mq ma rdv ce fg ow ou sk bp F Q CF TN RW OR BE, ∃ r sk2 ce2 fg2 ow2 ou2 F2 Q2 CF2 TN2 RW2, (match py with | none => sk2 ≠ 0 | some v => sk2 = 0 ∧ r = nI v) ∧ EX12_paidNow [.ref 0] (M1 (th, mtr, wh, ta, mfa, m, nI s, ac, mk) (MQw mq ce fg ow ou sk bp) (MAw ma F Q CF TN RW OR BE) me rdv) = some (r, M1 (th, mtr, wh, ta, mfa, m, nI s, ac, mk) (MQw mq ce2 fg2 ow2 ou2 sk2 bp) (MAw ma F2 Q2 CF2 TN2 RW2 OR BE) me rdv)) := by
  have hdu := N.2.1.2.1
  have hwc := WK.1
  have hpa := N.2.2.1.1
  obtain ⟨l, K, od, tr2, W⟩ := walks_all H G N GA NO WK hm hs
  have hsum := shs_le hdu W (Nat.le_refl wc)
  have hmul : pa * fb_sm (shs du l od) wc ≤ 99 * 1000 := Nat.mul_le_mul hpa (by omega)
  have cls : ∀ t, t ≤ wc → (∀ j, j < t → od j ≠ none) → (t < wc → od t = none) → ∀ cl tr fa fp tp tk rd hi sc dr wa wb rc, ∃ wa2, EX10_paidIfAllGetOut [.ref 0, .long m] (CH (1, cl, nI s, tr, fa, fp) tp tk rd hi sc pl dr wa wb rc) = some (if t < wc then -2 else nI (pa * fb_sm (shs du l od) wc), CH (1, cl, nI s, tr, fa, fp) tp tk rd hi sc pl dr wa2 wb rc) := by
    intro t ht hout hend cl tr fa fp tp tk rd hi sc dr wa wb rc
    rw [eX10_paidIfAllGetOut_s_1, qX10_paidIfAllGetOut_0_1]
    have L := lp_inv (B := BX10_paidIfAllGetOut_5) (fun i lv hp => ∃ wa2, i ≤ t ∧ lv = [(0, .ref 0), (1, .long m), (3, .int (nI (fb_sm (shs du l od) i))), (4, .int (nI i))] ∧ hp = CH (1, cl, nI s, tr, fa, fp) tp tk rd hi sc pl dr wa2 wb rc) (Q := fun r => ∃ wa2, r = some (if t < wc then -2 else nI (pa * fb_sm (shs du l od) wc), CH (1, cl, nI s, tr, fa, fp) tp tk rd hi sc pl dr wa2 wb rc)) (t := t) (N := FU) (by have := FU_ge; omega) (fun i lv hp hi5 hI => ?_) (fun lv hp hI => ?_) (lv := [(0, .ref 0), (1, .long m), (3, .int 0), (4, .int 0)]) (hp := CH (1, cl, nI s, tr, fa, fp) tp tk rd hi sc pl dr wa wb rc) ⟨wa, Nat.zero_le _, rfl, rfl⟩
    · obtain ⟨r, ⟨wa2, hr⟩, e⟩ := L
      exact ⟨wa2, e.trans hr⟩
    · obtain ⟨wa2, _, rfl, rfl⟩ := hI
      obtain ⟨w1, w2, w3, w4, w5, w6, w7, w8, w9, w10⟩ := W i (by omega)
      have hod := WKO_od w3
      obtain ⟨T1, CF1, SN1, hT1, e1⟩ := w8 (1, cl, nI s, tr, fa, fp) tp tk rd hi sc dr wa2 wb rc
      refine Or.inl ⟨_, _, ⟨wPa T1 CF1 SN1 (24 + i) m (tr2 i (K i - 1)) (oM (od i)) (las (l i) (K i)), by omega, rfl, rfl⟩, fun k => ?_⟩
      rw [qX10_paidIfAllGetOut_5_1, WK.2.1, if_le (by omega) (by omega), if_neg (by omega), qX10_paidIfAllGetOut_32_1 (h := e1)]
      show (if oM (od i) = -2 then _ else _) = _
      have hne : ¬ oM (od i) = -2 := by
        cases he : od i with
        | none => exact absurd he (hout i hi5)
        | some x => have hx := hod x he; exact nI_m2 (by omega)
      rw [if_neg hne, qX10_paidIfAllGetOut_55_1 (h := c_shoutsa w1 w2 w6 hdu N.2.1.2.2.1 hod), nI_add, nI_1]
      rfl
    · obtain ⟨wa2, _, rfl, rfl⟩ := hI
      by_cases hlt : t < wc
      · obtain ⟨w1, w2, w3, w4, w5, w6, w7, w8, w9, w10⟩ := W t hlt
        obtain ⟨T1, CF1, SN1, hT1, e1⟩ := w8 (1, cl, nI s, tr, fa, fp) tp tk rd hi sc dr wa2 wb rc
        rw [if_pos hlt]
        refine ⟨_, ⟨wPa T1 CF1 SN1 (24 + t) m (tr2 t (K t - 1)) (oM (od t)) (las (l t) (K t)), rfl⟩, fun k => ?_⟩
        rw [qX10_paidIfAllGetOut_5_1, WK.2.1, if_le (by omega) (by omega), if_neg (by omega), qX10_paidIfAllGetOut_32_1 (h := e1)]
        show (if oM (od t) = -2 then _ else _) = _
        rw [if_pos (show oM (od t) = -2 by rw [hend hlt]; rfl)]
      · rw [if_neg hlt]
        refine ⟨_, ⟨wa2, rfl⟩, fun k => ?_⟩
        rw [qX10_paidIfAllGetOut_5_1, WK.2.1, if_le (by omega) (by omega), if_pos (by omega), N.2.2.1.2.1, pk_mul, show t = wc by omega]
  rcases first_or (P := fun j => od j = none) wc with ⟨t, h1, h2, h3⟩ | h3
  · refine ⟨none, (fun v e => by cases e), fun cl tr fa fp tp tk rd hi sc dr wa wb rc => ?_, fun th mtr wh ta mfa ac mk mq ma rdv ce fg ow ou sk bp F Q CF TN RW OR BE => ?_⟩
    · obtain ⟨wa2, e⟩ := cls t (by omega) h3 (fun _ => h2) cl tr fa fp tp tk rd hi sc dr wa wb rc
      rw [if_pos h1] at e
      exact ⟨wa2, e⟩
    · obtain ⟨a1, a2, a3, a4, a5, a6, a7, a8, a9, e2⟩ := m_paidNow (th := th) (mtr := mtr) (wh := wh) (ta := ta) (mfa := mfa) (ac := ac) (mk := mk) (mq := mq) (ma := ma) (rdv := rdv) (ce := ce) (fg := fg) (ow := ow) (ou := ou) (sk := sk) (bp := bp) (F := F) (Q := Q) (CF := CF) (TN := TN) (RW := RW) (OR := OR) (BE := BE) N WK W
      exact ⟨_, _, a1, a2, a3, a4, a5, a6, a7, a8, a9, fun e => (skv_0 hwc).mp e t h1 h2, e2⟩
  · refine ⟨some (pa * fb_sm (shs du l od) wc), (fun v e => by cases e; omega), fun cl tr fa fp tp tk rd hi sc dr wa wb rc => ?_, fun th mtr wh ta mfa ac mk mq ma rdv ce fg ow ou sk bp F Q CF TN RW OR BE => ?_⟩
    · obtain ⟨wa2, e⟩ := cls wc (Nat.le_refl _) h3 (fun h => absurd h (Nat.lt_irrefl _)) cl tr fa fp tp tk rd hi sc dr wa wb rc
      rw [if_neg (Nat.lt_irrefl _)] at e
      exact ⟨wa2, e⟩
    · obtain ⟨a1, a2, a3, a4, a5, a6, a7, a8, a9, e2⟩ := m_paidNow (th := th) (mtr := mtr) (wh := wh) (ta := ta) (mfa := mfa) (ac := ac) (mk := mk) (mq := mq) (ma := ma) (rdv := rdv) (ce := ce) (fg := fg) (ow := ow) (ou := ou) (sk := sk) (bp := bp) (F := F) (Q := Q) (CF := CF) (TN := TN) (RW := RW) (OR := OR) (BE := BE) N WK W
      exact ⟨_, _, a1, a2, a3, a4, a5, a6, a7, a8, a9, ⟨(skv_0 hwc).mpr h3, rfl⟩, e2⟩
def bsp (op : Nat → Bool) (py : Nat → Option Nat) : Nat → Option (Nat × Nat)
  | 0 => none
  | c + 1 => match (if op c = true then py c else none) with
    | none => bsp op py c
    | some v => match bsp op py c with
      | none => some (c, v)
      | some x => if x.2 < v then some (c, v) else some x
theorem bsp_some {op : Nat → Bool} {py : Nat → Option Nat} {t c v : Nat} (e : bsp op py t = some (c, v)) : c < t ∧ py c = some v := by
  induction t with
  | zero => cases e
  | succ t ih =>
    have e0 : bsp op py (t + 1) = match (if op t = true then py t else none) with
      | none => bsp op py t
      | some v => match bsp op py t with
        | none => some (t, v)
        | some x => if x.2 < v then some (t, v) else some x := rfl
    rw [e0] at e
    have up : bsp op py t = some (c, v) → c < t + 1 ∧ py c = some v := fun e => by
      have := ih e
      exact ⟨by omega, this.2⟩
    cases hp : (if op t = true then py t else none) with
    | none => rw [hp] at e; exact up e
    | some v2 =>
      have hv2 : py t = some v2 := by
        by_cases h5 : op t = true
        · rw [if_pos h5] at hp; exact hp
        · rw [if_neg h5] at hp; cases hp
      rw [hp] at e
      dsimp only at e
      cases hb : bsp op py t with
      | none =>
        rw [hb] at e
        cases e
        exact ⟨by omega, hv2⟩
      | some x =>
        rw [hb] at e
        dsimp only at e
        by_cases h6 : x.2 < v2
        · rw [if_pos h6] at e
          cases e
          exact ⟨by omega, hv2⟩
        · rw [if_neg h6] at e
          exact up (hb.trans e)
theorem xor_self2 (a b : Int64) : (a ^^^ b) ^^^ b = a := tb_ext (fun k _ => by
  rw [tb_xor, tb_xor]
  cases tb a k <;> cases tb b k <;> rfl)
def opn (pl : PlS) (wc n c : Nat) : Bool := decide (c < n) && !tb pl.2.2.2.2.2.2.2.2.1 c && !tb (wcs pl wc) c
theorem best_two {pl : PlS} {me : MeS} {w h du pa sh gc wc s : Nat} {cl : Int64} (H : WH w h) (G : GrOK pl.1 w h) (N : PlNu pl me w h du pa sh) (GA : PlGa pl me (w * h) gc) (NO : PlNo pl me (w * h)) (WK : PlWk pl me (w * h) wc) (hm : Sub cl (w * h)) (hs : s < 65537) : ∃ bs : Option (Nat × Nat), (∀ c v, bs = some (c, v) → c < w * h ∧ v < 2 ^ 30 ∧ ∀ tr fa fp tp tk rd hi sc dr wa wb rc, ∃ wa2, EX10_paidIfAllGetOut [.ref 0, .long (cl ^^^ bitL (nI c))] (CH (1, cl, nI s, tr, fa, fp) tp tk rd hi sc pl dr wa wb rc) = some (nI v, CH (1, cl, nI s, tr, fa, fp) tp tk rd hi sc pl dr wa2 wb rc)) ∧
    (∀ tr fa fp tp tk rd hi sc dr wa wb rc, ∃ wa2, EX10_bestCell [.ref 0] (CH (1, cl, nI s, tr, fa, fp) tp tk rd hi sc pl dr wa wb rc) = some (oM (bs.map (·.1)), CH (1, cl, nI s, tr, fa, fp) tp tk rd hi sc pl dr wa2 wb rc)) ∧
    (∀ th mtr wh ta mfa ac mk mq ma rdv ce fg ow ou sk bp F Q CF TN RW OR BE, ∃ ce2 fg2 ow2 ou2 sk2 bp2 F2 Q2 CF2 TN2 RW2, (∀ c v, bs = some (c, v) → bp2 = nI v) ∧ EX12_bestNow [.ref 0] (M1 (th, mtr, wh, ta, mfa, cl, nI s, ac, mk) (MQw mq ce fg ow ou sk bp) (MAw ma F Q CF TN RW OR BE) me rdv) = some (oM (bs.map (·.1)), M1 (th, mtr, wh, ta, mfa, cl, nI s, ac, mk) (MQw mq ce2 fg2 ow2 ou2 sk2 bp2) (MAw ma F2 Q2 CF2 TN2 RW2 OR BE) me rdv)) := by
  have hn := H.n
  have hX : ∀ c, c < w * h → Sub (cl ^^^ bitL (nI c)) (w * h) := fun c hc => Sub_xor hm (Sub_bit hc (by omega))
  have ex : ∀ c, ∃ py : Option Nat, c < w * h → (∀ v, py = some v → v < 2 ^ 30) ∧
    (∀ cl2 tr fa fp tp tk rd hi sc dr wa wb rc, ∃ wa2, EX10_paidIfAllGetOut [.ref 0, .long (cl ^^^ bitL (nI c))] (CH (1, cl2, nI s, tr, fa, fp) tp tk rd hi sc pl dr wa wb rc) = some (oM py, CH (1, cl2, nI s, tr, fa, fp) tp tk rd hi sc pl dr wa2 wb rc)) ∧
    (∀ th mtr wh ta mfa ac mk mq ma rdv ce fg ow ou sk bp F Q CF TN RW OR BE, ∃ r sk2 ce2 fg2 ow2 ou2 F2 Q2 CF2 TN2 RW2, (match py with | none => sk2 ≠ 0 | some v => sk2 = 0 ∧ r = nI v) ∧ EX12_paidNow [.ref 0] (M1 (th, mtr, wh, ta, mfa, cl ^^^ bitL (nI c), nI s, ac, mk) (MQw mq ce fg ow ou sk bp) (MAw ma F Q CF TN RW OR BE) me rdv) = some (r, M1 (th, mtr, wh, ta, mfa, cl ^^^ bitL (nI c), nI s, ac, mk) (MQw mq ce2 fg2 ow2 ou2 sk2 bp) (MAw ma F2 Q2 CF2 TN2 RW2 OR BE) me rdv)) := fun c => by
    by_cases hc : c < w * h
    · obtain ⟨py, h1⟩ := pay_two H G N GA NO WK (hX c hc) hs
      exact ⟨py, fun _ => h1⟩
    · exact ⟨none, fun h => absurd h hc⟩
  obtain ⟨py, hpy⟩ := Classical.axiomOfChoice ex
  have hbs : ∀ t c v, t ≤ w * h → bsp (opn pl wc (w * h)) py t = some (c, v) → v < 2 ^ 30 := fun t c v ht e => by
    have := bsp_some e
    exact (hpy c (by omega)).1 v this.2
  have hs0 : ∀ t, bsp (opn pl wc (w * h)) py (t + 1) = match (if opn pl wc (w * h) t = true then py t else none) with
      | none => bsp (opn pl wc (w * h)) py t
      | some v => match bsp (opn pl wc (w * h)) py t with
        | none => some (t, v)
        | some x => if x.2 < v then some (t, v) else some x := fun t => rfl
  refine ⟨bsp (opn pl wc (w * h)) py (w * h), fun c v e => ?_, fun tr fa fp tp tk rd hi sc dr wa wb rc => ?_, fun th mtr wh ta mfa ac mk mq ma rdv ce fg ow ou sk bp F Q CF TN RW OR BE => ?_⟩
  · have e2 := bsp_some e
    refine ⟨e2.1, hbs _ _ _ (Nat.le_refl _) e, fun tr fa fp tp tk rd hi sc dr wa wb rc => ?_⟩
    have := (hpy c e2.1).2.1 cl tr fa fp tp tk rd hi sc dr wa wb rc
    rw [e2.2] at this
    exact this
  · have hopn : ∀ c, c < w * h → tb ((pl.1.2.2.2.2.1 &&& (pl.2.2.2.2.2.2.2.2.1 ^^^ (-1))) &&& (wcs pl wc ^^^ (-1))) c = opn pl wc (w * h) c := fun c hc => by
      rw [tb_andnot, tb_andnot, G.2.2.2.1]
      rfl
    rw [eX10_bestCell_s_1, qX10_bestCell_0_1, qX10_bestCell_26_1 (h := c_wcells WK hn.1)]
    have L := lp_inv (B := BX10_bestCell_45) (fun i lv hp => ∃ wa2, i ≤ w * h ∧ lv = [(0, .ref 0), (1, .long ((pl.1.2.2.2.2.1 &&& (pl.2.2.2.2.2.2.2.2.1 ^^^ (-1))) &&& (wcs pl wc ^^^ (-1)))), (3, .int (oM ((bsp (opn pl wc (w * h)) py i).map (·.1)))), (4, .int (oM ((bsp (opn pl wc (w * h)) py i).map (·.2)))), (5, .int (nI i))] ∧ hp = CH (1, cl, nI s, tr, fa, fp) tp tk rd hi sc pl dr wa2 wb rc) (Q := fun r => ∃ wa2, r = some (oM ((bsp (opn pl wc (w * h)) py (w * h)).map (·.1)), CH (1, cl, nI s, tr, fa, fp) tp tk rd hi sc pl dr wa2 wb rc)) (t := w * h) (N := FU) (by have := FU_ge; omega) (fun i lv hp hi5 hI => ?_) (fun lv hp hI => ?_) (lv := [(0, .ref 0), (1, .long ((pl.1.2.2.2.2.1 &&& (pl.2.2.2.2.2.2.2.2.1 ^^^ (-1))) &&& (wcs pl wc ^^^ (-1)))), (3, .int (-2)), (4, .int (-2)), (5, .int 0)]) (hp := CH (1, cl, nI s, tr, fa, fp) tp tk rd hi sc pl dr wa wb rc) ⟨wa, Nat.zero_le _, rfl, rfl⟩
    · obtain ⟨r, ⟨wa2, hr⟩, e⟩ := L
      exact ⟨wa2, e.trans hr⟩
    · obtain ⟨wa2, _, rfl, rfl⟩ := hI
      obtain ⟨wa3, e3⟩ := (hpy i hi5).2.1 cl tr fa fp tp tk rd hi sc dr wa2 wb rc
      have h88 : ∀ wa4 k, BX10_bestCell_88 k [(0, .ref 0), (1, .long ((pl.1.2.2.2.2.1 &&& (pl.2.2.2.2.2.2.2.2.1 ^^^ (-1))) &&& (wcs pl wc ^^^ (-1)))), (3, .int (oM ((bsp (opn pl wc (w * h)) py i).map (·.1)))), (4, .int (oM ((bsp (opn pl wc (w * h)) py i).map (·.2)))), (5, .int (nI i))] [.int (oM (if opn pl wc (w * h) i = true then py i else none))] (CH (1, cl, nI s, tr, fa, fp) tp tk rd hi sc pl dr wa4 wb rc) = k [(0, .ref 0), (1, .long ((pl.1.2.2.2.2.1 &&& (pl.2.2.2.2.2.2.2.2.1 ^^^ (-1))) &&& (wcs pl wc ^^^ (-1)))), (3, .int (oM ((bsp (opn pl wc (w * h)) py (i + 1)).map (·.1)))), (4, .int (oM ((bsp (opn pl wc (w * h)) py (i + 1)).map (·.2)))), (5, .int (nI (i + 1)))] [] (CH (1, cl, nI s, tr, fa, fp) tp tk rd hi sc pl dr wa4 wb rc) := fun wa4 k => by
        rw [qX10_bestCell_88_1, hs0, nI_1]
        cases hp : (if opn pl wc (w * h) i = true then py i else none) with
        | none =>
          rw [show oM none = -2 from rfl, if_pos]
          cases hb : bsp (opn pl wc (w * h)) py i with
          | none => decide
          | some x =>
            have hx := hbs i x.1 x.2 (by omega) hb
            show (-2 : Int32) ≤ nI x.2
            exact Int32.le_trans (by decide : (-2 : Int32) ≤ 0) (nI_pos' (by omega))
        | some v =>
          have hv : v < 2 ^ 30 := by
            by_cases h5 : opn pl wc (w * h) i = true
            · rw [if_pos h5] at hp; exact (hpy i hi5).1 v hp
            · rw [if_neg h5] at hp; cases hp
          cases hb : bsp (opn pl wc (w * h)) py i with
          | none =>
            rw [if_neg]
            · rfl
            · show ¬ nI v ≤ -2
              intro h6
              exact absurd (Int32.le_trans (nI_pos' (n := v) (by omega)) h6) (by decide)
          | some x =>
            have hx := hbs i x.1 x.2 (by omega) hb
            show (if nI v ≤ nI x.2 then _ else _) = _
            rw [if_le (by omega) (by omega)]
            dsimp only
            by_cases h6 : x.2 < v
            · rw [if_neg (by omega), if_pos h6]; rfl
            · rw [if_pos (by omega), if_neg h6]
      by_cases h5 : opn pl wc (w * h) i = true
      · refine Or.inl ⟨_, _, ⟨wa3, by omega, rfl, rfl⟩, fun k => ?_⟩
        rw [qX10_bestCell_45_1, G.2.2.1, if_le (by omega) (by omega), if_neg (by omega), qX10_bestCell_63_1 (h := e_isIn _ _ (by omega)), hopn i hi5, h5, if_b2i, if_pos rfl, qX10_bestCell_80_1 (h := e3)]
        have := h88 wa3 k
        rw [if_pos h5] at this
        exact this
      · refine Or.inl ⟨_, _, ⟨wa2, by omega, rfl, rfl⟩, fun k => ?_⟩
        rw [qX10_bestCell_45_1, G.2.2.1, if_le (by omega) (by omega), if_neg (by omega), qX10_bestCell_63_1 (h := e_isIn _ _ (by omega)), hopn i hi5, if_b2i, if_neg h5]
        have := h88 wa2 k
        rw [if_neg h5] at this
        exact this
    · obtain ⟨wa2, _, rfl, rfl⟩ := hI
      refine ⟨_, ⟨wa2, rfl⟩, fun k => ?_⟩
      rw [qX10_bestCell_45_1, G.2.2.1, if_le (by omega) (by omega), if_pos (by omega)]
  · rw [eX12_bestNow_s_w, qX12_bestNow_0_w]
    have L := lp_inv (B := BX12_bestNow_5) (fun i lv hp => ∃ ce2 fg2 ow2 ou2 sk2 bp2 F2 Q2 CF2 TN2 RW2, i ≤ w * h ∧ (∀ c v, bsp (opn pl wc (w * h)) py i = some (c, v) → bp2 = nI v) ∧ lv = [(0, .ref 0), (1, .int (oM ((bsp (opn pl wc (w * h)) py i).map (·.1)))), (2, .int (nI i))] ∧ hp = M1 (th, mtr, wh, ta, mfa, cl, nI s, ac, mk) (MQw mq ce2 fg2 ow2 ou2 sk2 bp2) (MAw ma F2 Q2 CF2 TN2 RW2 OR BE) me rdv) (Q := fun r => ∃ ce2 fg2 ow2 ou2 sk2 bp2 F2 Q2 CF2 TN2 RW2, (∀ c v, bsp (opn pl wc (w * h)) py (w * h) = some (c, v) → bp2 = nI v) ∧ r = some (oM ((bsp (opn pl wc (w * h)) py (w * h)).map (·.1)), M1 (th, mtr, wh, ta, mfa, cl, nI s, ac, mk) (MQw mq ce2 fg2 ow2 ou2 sk2 bp2) (MAw ma F2 Q2 CF2 TN2 RW2 OR BE) me rdv)) (t := w * h) (N := FU) (by have := FU_ge; omega) (fun i lv hp hi5 hI => ?_) (fun lv hp hI => ?_) (lv := [(0, .ref 0), (1, .int (-2)), (2, .int 0)]) (hp := M1 (th, mtr, wh, ta, mfa, cl, nI s, ac, mk) (MQw mq ce fg ow ou sk bp) (MAw ma F Q CF TN RW OR BE) me rdv) ⟨_, _, _, _, _, _, _, _, _, _, _, Nat.zero_le _, (fun c v e => by cases e), rfl, rfl⟩
    · obtain ⟨r, ⟨a1, a2, a3, a4, a5, a6, a7, a8, a9, a10, a11, hb, hr⟩, e⟩ := L
      exact ⟨a1, a2, a3, a4, a5, a6, a7, a8, a9, a10, a11, hb, e.trans hr⟩
    · obtain ⟨a1, a2, a3, a4, a5, a6, a7, a8, a9, a10, a11, _, hbp, rfl, rfl⟩ := hI
      have hg : ∀ k, BX12_bestNow_5 k [(0, .ref 0), (1, .int (oM ((bsp (opn pl wc (w * h)) py i).map (·.1)))), (2, .int (nI i))] [] (M1 (th, mtr, wh, ta, mfa, cl, nI s, ac, mk) (MQw mq a1 a2 a3 a4 a5 a6) (MAw ma a7 a8 a9 a10 a11 OR BE) me rdv) = (if opn pl wc (w * h) i = true then BX12_bestNow_51 k [(0, .ref 0), (1, .int (oM ((bsp (opn pl wc (w * h)) py i).map (·.1)))), (2, .int (nI i))] [.ref 0] (M1 (th, mtr, wh, ta, mfa, cl ^^^ bitL (nI i), nI s, ac, mk) (MQw mq a1 a2 a3 a4 a5 a6) (MAw ma a7 a8 a9 a10 a11 OR BE) me rdv) else k [(0, .ref 0), (1, .int (oM ((bsp (opn pl wc (w * h)) py i).map (·.1)))), (2, .int (nI (i + 1)))] [] (M1 (th, mtr, wh, ta, mfa, cl, nI s, ac, mk) (MQw mq a1 a2 a3 a4 a5 a6) (MAw ma a7 a8 a9 a10 a11 OR BE) me rdv)) := fun k => by
        rw [qX12_bestNow_5_w, N.1.1, N.1.2, pk_mul, if_le (by omega) (by omega), if_neg (by omega), qX12_bestNow_18_w (h := e_isGate (by omega)), if_b2i, nI_1, ← GA.2.2.2.1]
        unfold opn
        rw [decide_eq_true hi5]
        cases h5 : tb pl.2.2.2.2.2.2.2.2.1 i
        · rw [if_neg (by decide), qX12_bestNow_29_w (h := m_isStart WK hn.1 hi5), if_b2i, nI_1]
          cases h6 : tb (wcs pl wc) i
          · rw [if_neg (by decide), if_pos (by decide)]
          · rw [if_pos rfl, if_neg (by decide)]
        · rw [if_pos rfl, if_neg (by simp)]
      by_cases h5 : opn pl wc (w * h) i = true
      · obtain ⟨r, sk2, b1, b2, b3, b4, b5, b6, b7, b8, b9, hpr, e3⟩ := (hpy i hi5).2.2 th mtr wh ta mfa ac mk mq ma rdv a1 a2 a3 a4 a5 a6 a7 a8 a9 a10 a11 OR BE
        have hv := (hpy i hi5).1
        have e51 : ∀ k, BX12_bestNow_51 k [(0, .ref 0), (1, .int (oM ((bsp (opn pl wc (w * h)) py i).map (·.1)))), (2, .int (nI i))] [.ref 0] (M1 (th, mtr, wh, ta, mfa, cl ^^^ bitL (nI i), nI s, ac, mk) (MQw mq a1 a2 a3 a4 a5 a6) (MAw ma a7 a8 a9 a10 a11 OR BE) me rdv) = (if sk2 = 0 then (if oM ((bsp (opn pl wc (w * h)) py i).map (·.1)) = (-2) then k [(0, .ref 0), (1, .int (nI i)), (2, .int (nI (i + 1)))] [] (M1 (th, mtr, wh, ta, mfa, cl, nI s, ac, mk) (MQw mq b1 b2 b3 b4 sk2 r) (MAw ma b5 b6 b7 b8 b9 OR BE) me rdv) else (if a6 < r then k [(0, .ref 0), (1, .int (nI i)), (2, .int (nI (i + 1)))] [] (M1 (th, mtr, wh, ta, mfa, cl, nI s, ac, mk) (MQw mq b1 b2 b3 b4 sk2 r) (MAw ma b5 b6 b7 b8 b9 OR BE) me rdv) else k [(0, .ref 0), (1, .int (oM ((bsp (opn pl wc (w * h)) py i).map (·.1)))), (2, .int (nI (i + 1)))] [] (M1 (th, mtr, wh, ta, mfa, cl, nI s, ac, mk) (MQw mq b1 b2 b3 b4 sk2 a6) (MAw ma b5 b6 b7 b8 b9 OR BE) me rdv))) else k [(0, .ref 0), (1, .int (oM ((bsp (opn pl wc (w * h)) py i).map (·.1)))), (2, .int (nI (i + 1)))] [] (M1 (th, mtr, wh, ta, mfa, cl, nI s, ac, mk) (MQw mq b1 b2 b3 b4 sk2 a6) (MAw ma b5 b6 b7 b8 b9 OR BE) me rdv)) := fun k => by
          rw [qX12_bestNow_51_w (h := e3), nI_1, xor_self2]
        have hstep := hs0 i
        rw [if_pos h5] at hstep
        cases hp : py i with
        | none =>
          rw [hp] at hpr hstep
          refine Or.inl ⟨_, _, ⟨b1, b2, b3, b4, sk2, a6, b5, b6, b7, b8, b9, by omega, fun c v e => hbp c v (hstep.symm.trans e), rfl, rfl⟩, fun k => ?_⟩
          rw [hg, if_pos h5, e51, if_neg hpr, hstep]
        | some v =>
          rw [hp] at hpr hstep
          obtain ⟨hsk, hr⟩ := hpr
          have hv2 := hv v hp
          dsimp only at hstep
          cases hb : bsp (opn pl wc (w * h)) py i with
          | none =>
            rw [hb] at hstep
            refine Or.inl ⟨_, _, ⟨b1, b2, b3, b4, sk2, r, b5, b6, b7, b8, b9, by omega, fun c v2 e => ?_, rfl, rfl⟩, fun k => ?_⟩
            · rw [hstep] at e
              cases e
              exact hr
            · rw [← hb, hg, if_pos h5, e51, if_pos hsk, hb, if_pos (show oM (Option.map (fun x : Nat × Nat => x.1) none) = -2 from rfl), hstep]
              rfl
          | some x =>
            rw [hb] at hstep
            dsimp only at hstep
            have hx := bsp_some (show bsp (opn pl wc (w * h)) py i = some (x.1, x.2) from hb)
            have hx2 := hbs i x.1 x.2 (by omega) hb
            have ha6 := hbp x.1 x.2 hb
            by_cases h6 : x.2 < v
            · rw [if_pos h6] at hstep
              refine Or.inl ⟨_, _, ⟨b1, b2, b3, b4, sk2, r, b5, b6, b7, b8, b9, by omega, fun c v2 e => ?_, rfl, rfl⟩, fun k => ?_⟩
              · rw [hstep] at e
                cases e
                exact hr
              · rw [← hb, hg, if_pos h5, e51, if_pos hsk, hb, if_neg (show ¬ oM (Option.map (·.1) (some x)) = -2 from nI_m2 (c := x.1) (by omega)), ha6, hr, if_lt (by omega) (by omega), if_pos h6, hstep]
                rfl
            · rw [if_neg h6] at hstep
              refine Or.inl ⟨_, _, ⟨b1, b2, b3, b4, sk2, a6, b5, b6, b7, b8, b9, by omega, fun c v2 e => hbp c v2 (hb.trans (hstep.symm.trans e)), rfl, rfl⟩, fun k => ?_⟩
              rw [← hb, hg, if_pos h5, e51, if_pos hsk, hb, if_neg (show ¬ oM (Option.map (·.1) (some x)) = -2 from nI_m2 (c := x.1) (by omega)), hr, show (if a6 < nI v then _ else _) = _ from if_neg (show ¬ a6 < nI v by rw [ha6, nI_ltI (by omega) (by omega)]; omega), hstep]
      · refine Or.inl ⟨_, _, ⟨a1, a2, a3, a4, a5, a6, a7, a8, a9, a10, a11, by omega, ?_, rfl, rfl⟩, fun k => ?_⟩
        · intro c v e
          rw [hs0, if_neg h5] at e
          exact hbp c v e
        · rw [hg, if_neg h5, hs0, if_neg h5]
    · obtain ⟨a1, a2, a3, a4, a5, a6, a7, a8, a9, a10, a11, _, hbp, rfl, rfl⟩ := hI
      refine ⟨_, ⟨a1, a2, a3, a4, a5, a6, a7, a8, a9, a10, a11, hbp, rfl⟩, fun k => ?_⟩
      rw [qX12_bestNow_5_w, N.1.1, N.1.2, pk_mul, if_le (by omega) (by omega), if_pos (by omega)]
theorem op_best : Step Inv EX10_best fIH EX12_best fIH [] := by
  refine step_qw (fun cl se tr fa fp tp tk rd hi sc pl dr wa wb rc th wh ta mo sd mq ma rdv _ _ => ⟨1, by decide, rfl, rfl⟩) (fun cl s tr fa fp tp tk rd hi sc pl dr wa wb rc th wh ta ac mk mq ma me rdv ce fg ow ou sk bp F Q CF TN RW OR BE w h du pa sh gc hq wc hs H G N GA NO WK HE C => ?_)
  obtain ⟨bs, h1, h2, h3⟩ := best_two H G N GA NO WK C hs
  obtain ⟨wa2, e1⟩ := h2 tr fa fp tp tk rd hi sc dr wa wb rc
  obtain ⟨a1, a2, a3, a4, a5, a6, a7, a8, a9, a10, a11, hb, e2⟩ := h3 0 tr wh ta fa ac mk mq ma rdv ce fg ow ou sk bp F Q CF TN RW OR BE
  refine ⟨oM (bs.map (·.1)), 0, sc, wa2, wb, rc, MQw mq a1 a2 a3 a4 a5 a6, MAw ma a7 a8 a9 a10 a11 OR BE, by decide, ⟨rfl, rfl, rfl, rfl, rfl⟩, ?_, ?_⟩
  · rw [eX10_best_s_1, qX10_best_0_1, qX10_best_9_1 (h := e1)]
  · rw [eX12_best_s_w, qX12_best_0_w, qX12_best_22_w (h := e2)]
theorem op_bestPaid : Step Inv EX10_bestPaid fIH EX12_bestPaid fIH [] := by
  refine step_qw (fun cl se tr fa fp tp tk rd hi sc pl dr wa wb rc th wh ta mo sd mq ma rdv _ _ => ⟨1, by decide, rfl, rfl⟩) (fun cl s tr fa fp tp tk rd hi sc pl dr wa wb rc th wh ta ac mk mq ma me rdv ce fg ow ou sk bp F Q CF TN RW OR BE w h du pa sh gc hq wc hs H G N GA NO WK HE C => ?_)
  have hn := H.n
  obtain ⟨bs, h1, h2, h3⟩ := best_two H G N GA NO WK C hs
  obtain ⟨wa2, e1⟩ := h2 tr fa fp tp tk rd hi sc dr wa wb rc
  obtain ⟨a1, a2, a3, a4, a5, a6, a7, a8, a9, a10, a11, hb, e2⟩ := h3 0 tr wh ta fa ac mk mq ma rdv ce fg ow ou sk bp F Q CF TN RW OR BE
  cases bs with
  | none =>
    have e1 : EX10_bestCell [.ref 0] (CH (1, cl, nI s, tr, fa, fp) tp tk rd hi sc pl dr wa wb rc) = some (-2, CH (1, cl, nI s, tr, fa, fp) tp tk rd hi sc pl dr wa2 wb rc) := e1
    have e2 : EX12_bestNow [.ref 0] (M1 (0, tr, wh, ta, fa, cl, nI s, ac, mk) (MQw mq ce fg ow ou sk bp) (MAw ma F Q CF TN RW OR BE) me rdv) = some (-2, M1 (0, tr, wh, ta, fa, cl, nI s, ac, mk) (MQw mq a1 a2 a3 a4 a5 a6) (MAw ma a7 a8 a9 a10 a11 OR BE) me rdv) := e2
    refine ⟨-1, 6, sc, wa2, wb, rc, MQw mq a1 a2 a3 a4 a5 a6, MAw ma a7 a8 a9 a10 a11 OR BE, by decide, ⟨rfl, rfl, rfl, rfl, rfl⟩, ?_, ?_⟩
    · rw [eX10_bestPaid_s_1, qX10_bestPaid_0_1, qX10_bestPaid_14_1 (h := e1), if_pos rfl]
    · rw [eX12_bestPaid_s_w, qX12_bestPaid_0_w, qX12_bestPaid_19_w (h := e2), if_pos rfl]
  | some x =>
    obtain ⟨c, v⟩ := x
    obtain ⟨hc, hv, hp⟩ := h1 c v rfl
    obtain ⟨wa3, e3⟩ := hp tr fa fp tp tk rd hi sc dr wa2 wb rc
    have e1 : EX10_bestCell [.ref 0] (CH (1, cl, nI s, tr, fa, fp) tp tk rd hi sc pl dr wa wb rc) = some (nI c, CH (1, cl, nI s, tr, fa, fp) tp tk rd hi sc pl dr wa2 wb rc) := e1
    have e2 : EX12_bestNow [.ref 0] (M1 (0, tr, wh, ta, fa, cl, nI s, ac, mk) (MQw mq ce fg ow ou sk bp) (MAw ma F Q CF TN RW OR BE) me rdv) = some (nI c, M1 (0, tr, wh, ta, fa, cl, nI s, ac, mk) (MQw mq a1 a2 a3 a4 a5 a6) (MAw ma a7 a8 a9 a10 a11 OR BE) me rdv) := e2
    refine ⟨nI v, 0, sc, wa3, wb, rc, MQw mq a1 a2 a3 a4 a5 a6, MAw ma a7 a8 a9 a10 a11 OR BE, by decide, ⟨rfl, rfl, rfl, rfl, rfl⟩, ?_, ?_⟩
    · rw [eX10_bestPaid_s_1, qX10_bestPaid_0_1, qX10_bestPaid_14_1 (h := e1), if_neg (nI_m2 (by omega)), qX10_bestPaid_42_1 (h := e3)]
    · rw [eX12_bestPaid_s_w, qX12_bestPaid_0_w, qX12_bestPaid_19_w (h := e2), if_neg (nI_m2 (by omega)), hb c v rfl]
