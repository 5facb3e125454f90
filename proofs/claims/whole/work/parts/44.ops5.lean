/-! gatesSeen, places, place, shutWays, thin. -/
abbrev gtf (pl : PlS) (j : Nat) : Nat := (pl.2.2.1.1 j).toNatClampNeg
abbrev stf (pl : PlS) (j : Nat) : Nat := ((pl.2.2.2.1 j).2.2.1).toNatClampNeg
theorem ga_at {pl : PlS} {me : MeS} {n gc j : Nat} (GA : PlGa pl me n gc) (hn : n ≤ 48) (hj : j < gc) : gtf pl j < n ∧ pl.2.2.1.1 j = nI (gtf pl j) ∧ me.2.2.1 j = nI (gtf pl j) := by
  obtain ⟨c, h1, h2, h3⟩ := GA.2.2.2.2.1 j hj
  have e : gtf pl j = c := by unfold gtf; rw [h2, nI_clamp (by omega)]
  rw [e]
  exact ⟨h1, h2, h3⟩
theorem wk_at {pl : PlS} {me : MeS} {n wc j : Nat} (WK : PlWk pl me n wc) (hn : n ≤ 48) (hj : j < wc) : stf pl j < n ∧ (pl.2.2.2.1 j).2.2.1 = nI (stf pl j) ∧ me.2.2.2.2.2.2.1 j = nI (stf pl j) := by
  obtain ⟨kd, c, s, l, h1, h2, h3, h4, h5, h6, h7, h8⟩ := WK.2.2.2 j hj
  have e : stf pl j = c := by unfold stf; rw [h5, nI_clamp (by omega)]
  rw [e, h5]
  exact ⟨h2, rfl, h7⟩
/-- the walkers' cells -/
def wcs (pl : PlS) : Nat → Int64
  | 0 => 0
  | j + 1 => wcs pl j ||| bitL (nI (stf pl j))
theorem tb_wcs {pl : PlS} {me : MeS} {n wc : Nat} (WK : PlWk pl me n wc) (hn : n ≤ 48) {t : Nat} (ht : t ≤ wc) (k : Nat) : tb (wcs pl t) k = true ↔ ∃ j, j < t ∧ stf pl j = k := by
  induction t with
  | zero =>
    constructor
    · intro e; rw [show wcs pl 0 = 0 from rfl, tb_0] at e; cases e
    · rintro ⟨j, h, _⟩; omega
  | succ t ih =>
    have hs := (wk_at WK hn (show t < wc by omega)).1
    have ih : tb (wcs pl t) k = true ↔ ∃ j, j < t ∧ stf pl j = k := ih (by omega)
    rw [show wcs pl (t + 1) = wcs pl t ||| bitL (nI (stf pl t)) from rfl, tb_or, Bool.or_eq_true, ih, tb_bit _ (by omega), decide_eq_true_iff]
    constructor
    · rintro (⟨j, h1, h2⟩ | h1)
      · exact ⟨j, by omega, h2⟩
      · exact ⟨t, by omega, h1.symm⟩
    · rintro ⟨j, h1, h2⟩
      by_cases e : j = t
      · subst e; exact Or.inr h2.symm
      · exact Or.inl ⟨j, by omega, h2⟩
theorem c_wcells {mz : MzS} {tp : TpS} {tk : TkS} {rd : RdS} {hi : HiS} {sc : ScS} {pl dr : PlS} {wa wb : WaS} {rc : Nat → Int32} {me : MeS} {n wc : Nat} (WK : PlWk pl me n wc) (hn : n ≤ 48) : EX3_walkerCells [.ref 14] (CH mz tp tk rd hi sc pl dr wa wb rc) = some (wcs pl wc) := by
  have h5 := WK.1
  have e1 := WK.2.1
  rw [eX3_walkerCells_s, qX3_walkerCells_0]
  refine lp_run (fun j => [(0, .ref 14), (1, .long (wcs pl j)), (3, .int (nI j))]) (fun _ => CH mz tp tk rd hi sc pl dr wa wb rc) (t := wc) (by have := FU_ge; omega) (fun j hj k => ?_) (fun k => ?_)
  · have hs := (wk_at WK hn hj).2.1
    rcases (by omega : j = 0 ∨ j = 1 ∨ j = 2 ∨ j = 3 ∨ j = 4) with rfl | rfl | rfl | rfl | rfl
    · rw [nI_0, qX3_walkerCells_4_0, e1, l0, if_le (by omega) (by omega), if_neg (by omega), hs]; rfl
    · rw [← l1, qX3_walkerCells_4_1, e1, l1, if_le (by omega) (by omega), if_neg (by omega), hs]; rfl
    · rw [← l2, qX3_walkerCells_4_2, e1, l2, if_le (by omega) (by omega), if_neg (by omega), hs]; rfl
    · rw [← l3, qX3_walkerCells_4_3, e1, l3, if_le (by omega) (by omega), if_neg (by omega), hs]; rfl
    · rw [← l4, qX3_walkerCells_4_4, e1, l4, if_le (by omega) (by omega), if_neg (by omega), hs]; rfl
  · rcases (by omega : wc = 0 ∨ wc = 1 ∨ wc = 2 ∨ wc = 3 ∨ wc = 4 ∨ wc = 5) with rfl | rfl | rfl | rfl | rfl | rfl
    · rw [nI_0, qX3_walkerCells_4_0, e1, l0, if_le (by omega) (by omega), if_pos (by omega)]
    · rw [← l1, qX3_walkerCells_4_1, e1, l1, if_le (by omega) (by omega), if_pos (by omega)]
    · rw [← l2, qX3_walkerCells_4_2, e1, l2, if_le (by omega) (by omega), if_pos (by omega)]
    · rw [← l3, qX3_walkerCells_4_3, e1, l3, if_le (by omega) (by omega), if_pos (by omega)]
    · rw [← l4, qX3_walkerCells_4_4, e1, l4, if_le (by omega) (by omega), if_pos (by omega)]
    · rw [← l5, qX3_walkerCells_4_5, ite_self]
theorem m_isStart {mp : MpS} {mq : MsS} {ma : MaS} {me : MeS} {rdv : Value} {pl : PlS} {n wc : Nat} (WK : PlWk pl me n wc) (hn : n ≤ 48) {c : Nat} (hc : c < n) : EX11_isStart [.ref 16, .int (nI c)] (M1 mp mq ma me rdv) = some (tb (wcs pl wc) c) := by
  have h5 := WK.1
  have e1 := WK.2.2.1
  rw [eX11_isStart_s, qX11_isStart_0]
  have go : ∀ t r, t ≤ wc → (∀ j, j < t → stf pl j ≠ c) → ((t = wc ∧ r = false) ∨ (t < wc ∧ stf pl t = c ∧ r = true)) → lp BX11_isStart_2 FU [(0, .ref 16), (1, .int (nI c)), (2, .int 0)] [] (M1 mp mq ma me rdv) = some r := by
    intro t r ht hj hr
    refine lp_run (fun j => [(0, .ref 16), (1, .int (nI c)), (2, .int (nI j))]) (fun _ => M1 mp mq ma me rdv) (t := t) (by have := FU_ge; omega) (fun j hjt k => ?_) (fun k => ?_)
    · have hs := wk_at WK hn (show j < wc by omega)
      rw [qX11_isStart_2, e1, if_le (by omega) (by omega), if_neg (by omega), if_neg (nI_in (by omega : j < 5) (by omega)), nI_clamp (by omega), hs.2.2, if_eq (by omega) (by omega), if_neg (hj j hjt), nI_1]
    · rcases hr with ⟨rfl, rfl⟩ | ⟨h6, h7, rfl⟩
      · rw [qX11_isStart_2, e1, if_le (by omega) (by omega), if_pos (by omega)]
      · have hs := wk_at WK hn h6
        rw [qX11_isStart_2, e1, if_le (by omega) (by omega), if_neg (by omega), if_neg (nI_in (by omega : t < 5) (by omega)), nI_clamp (by omega), hs.2.2, if_eq (by omega) (by omega), if_pos h7]
  by_cases hex : ∃ j, j < wc ∧ stf pl j = c
  · obtain ⟨t, h1, h2, h3⟩ := fb_first hex
    rw [(tb_wcs WK hn (Nat.le_refl wc) c).mpr hex]
    exact go t true (by omega) h3 (Or.inr ⟨h1, h2, rfl⟩)
  · have : tb (wcs pl wc) c = false := by
      cases h1 : tb (wcs pl wc) c
      · rfl
      · exact absurd ((tb_wcs WK hn (Nat.le_refl wc) c).mp h1) hex
    rw [this]
    exact go wc false (Nat.le_refl _) (fun j hj e => hex ⟨j, hj, e⟩) (Or.inl ⟨rfl, rfl⟩)
theorem yx_of {w h c : Nat} (hc : c < w * h) (hw : 0 < w) : w * (c / w) + c % w = c ∧ c % w < w ∧ c / w < h := ⟨Nat.div_add_mod c w, Nat.mod_lt c hw, Nat.div_lt_of_lt_mul hc⟩
def gsv (cl : Int64) (pl : PlS) (w : Nat) : Nat → Int32
  | 0 => 0
  | j + 1 => if sev cl w (gtf pl j / w) (gtf pl j % w) = 0 then gsv cl pl w j else gsv cl pl w j ||| ((1 : Int32) <<< (nI j &&& 31))
theorem c_gateSeen {w h gc : Nat} {me : MeS} {cl : Int64} {se tr fa fp : Int32} {tp : TpS} {tk : TkS} {rd : RdS} {hi : HiS} {sc : ScS} {pl dr : PlS} {wa wb : WaS} {rc : Nat → Int32} (H : WH w h) (G : GrOK pl.1 w h) (GA : PlGa pl me (w * h) gc) {j : Nat} (hj : j < gc) : EX10_isGateSeen [.ref 0, .int (nI j)] (CH (1, cl, se, tr, fa, fp) tp tk rd hi sc pl dr wa wb rc) = some (!decide (sev cl w (gtf pl j / w) (gtf pl j % w) = 0)) := by
  have hn := H.n
  have hg := GA.1
  obtain ⟨g1, g2, g3⟩ := ga_at GA hn.1 hj
  obtain ⟨y1, y2, y3⟩ := yx_of g1 (by have := H.1; omega)
  have c1 : EX3_gateCell [.ref 14, .int (nI j)] (CH (1, cl, se, tr, fa, fp) tp tk rd hi sc pl dr wa wb rc) = some (nI (w * (gtf pl j / w) + gtf pl j % w)) := by
    rw [eX3_gateCell_s, qX3_gateCell_0, if_neg (nI_pos (by omega)), l4, if_le (by omega) (by omega), if_neg (by omega), if_neg (nI_in (by omega : j < 4) (by omega)), nI_clamp (by omega), g2, y1]
  rw [eX10_isGateSeen_s_1, qX10_isGateSeen_0_1, qX10_isGateSeen_16_1 (h := c1), qX10_isGateSeen_19_1 (h := e_seenWall H G y3 y2)]
  by_cases h5 : sev cl w (gtf pl j / w) (gtf pl j % w) = 0
  · rw [if_pos h5, decide_eq_true h5]; rfl
  · rw [if_neg h5, decide_eq_false h5]; rfl
theorem or_0 (x : Int32) : x ||| 0 = x := Int32.or_zero
theorem op_gatesSeen : Step Inv EX10_gatesSeen fIH EX12_gatesSeen fIH [] := by
  refine step_q (fun cl se tr fa fp tp tk rd hi sc pl dr wa wb rc th wh ta mo sd mq ma rdv _ _ => ⟨1, by decide, rfl, rfl⟩) (fun cl se tr fa fp tp tk rd hi sc pl dr wa wb rc th wh ta ac mk mq ma me rdv _ I => ?_)
  obtain ⟨T, S, w, h, du, pa, sh, gc, hq, wc, ⟨H, G, N, P, GA, NO, HE, WK⟩, C, HI⟩ := id I
  have hn := H.n
  have hg := GA.1
  refine ⟨gsv cl pl w gc, 0, sc, wa, wb, rc, mq, ma, by decide, KeepMa.rf _, ?_, ?_⟩
  · rw [eX10_gatesSeen_s_1, qX10_gatesSeen_0_1]
    refine lp_run (fun j => [(0, .ref 0), (1, .int (gsv cl pl w j)), (2, .int (nI j))]) (fun _ => (CH (1, cl, se, tr, fa, fp) tp tk rd hi sc pl dr wa wb rc)) (t := gc) (by have := FU_ge; omega) (fun j hj k => ?_) (fun k => ?_)
    · rw [qX10_gatesSeen_17_1, GA.2.1, if_le (by omega) (by omega), if_neg (by omega), qX10_gatesSeen_30_1 (h := c_gateSeen H G GA hj), if_b2i, nI_1]
      by_cases h5 : sev cl w (gtf pl j / w) (gtf pl j % w) = 0
      · rw [if_neg (by simp [h5]), show gsv cl pl w (j + 1) = gsv cl pl w j from if_pos h5]
      · rw [if_pos (by simp [h5]), show gsv cl pl w (j + 1) = gsv cl pl w j ||| ((1 : Int32) <<< (nI j &&& 31)) from if_neg h5]
    · rw [qX10_gatesSeen_17_1, GA.2.1, if_le (by omega) (by omega), if_pos (by omega)]
  · rw [eX12_gatesSeen_s_1, qX12_gatesSeen_0_1]
    refine lp_run (fun j => [(0, .ref 0), (1, .int (gsv cl pl w j)), (2, .int (nI j))]) (fun _ => M1 (0, tr, wh, ta, fa, cl, se, ac, mk) mq ma me rdv) (t := gc) (by have := FU_ge; omega) (fun j hj k => ?_) (fun k => ?_)
    · obtain ⟨g1, g2, g3⟩ := ga_at GA hn.1 hj
      obtain ⟨y1, y2, y3⟩ := yx_of g1 (by have := H.1; omega)
      have e := e_seenNow (mp := (0, tr, wh, ta, fa, cl, se, ac, mk)) (mq := mq) (ma := ma) (rdv := rdv) H N.1.1 y3 y2
      rw [y1] at e
      rw [qX12_gatesSeen_22_1, GA.2.2.1, if_le (by omega) (by omega), if_neg (by omega), if_neg (nI_in (by omega : j < 4) (by omega)), nI_clamp (by omega), g3, qX12_gatesSeen_44_1 (h := e), or_0, nI_1]
      by_cases h5 : sev cl w (gtf pl j / w) (gtf pl j % w) = 0
      · rw [if_pos h5, show gsv cl pl w (j + 1) = gsv cl pl w j from if_pos h5]
      · rw [if_neg h5, show gsv cl pl w (j + 1) = gsv cl pl w j ||| ((1 : Int32) <<< (nI j &&& 31)) from if_neg h5]
    · rw [qX12_gatesSeen_22_1, GA.2.2.1, if_le (by omega) (by omega), if_pos (by omega)]
/-! places -/
abbrev spf (pl : PlS) (j : Nat) : Nat := (pl.2.2.1.2.1 j).toNatClampNeg
abbrev ssf (pl : PlS) (j : Nat) : Nat := (pl.2.2.1.2.2 j).toNatClampNeg
theorem he_at {pl : PlS} {me : MeS} {n hc j : Nat} (HE : PlHe pl me n hc) (hn : n ≤ 48) (hj : j < hc) : spf pl j < n ∧ ssf pl j ≤ 60 ∧ pl.2.2.1.2.1 j = nI (spf pl j) ∧ me.2.2.2.2.1 j = nI (spf pl j) ∧ pl.2.2.1.2.2 j = nI (ssf pl j) ∧ me.2.2.2.1 j = nI (ssf pl j) := by
  obtain ⟨c, s, h1, h2, h3, h4, h5, h6⟩ := HE.2.2.2 j hj
  have e : spf pl j = c := by unfold spf; rw [h3, nI_clamp (by omega)]
  have e2 : ssf pl j = s := by unfold ssf; rw [h5, nI_clamp (by omega)]
  rw [e, e2]
  exact ⟨h1, h2, h3, h4, h5, h6⟩
def plc (cl : Int64) (pl : PlS) : Nat → Int64
  | 0 => cl
  | j + 1 => plc cl pl j &&& (FR pl.1 cl (bitL (nI (spf pl j)) &&& cl) (ssf pl j)).1
theorem plc_in {cl : Int64} {pl : PlS} {j k : Nat} (h : tb (plc cl pl j) k = true) : tb cl k = true := by
  induction j with
  | zero => exact h
  | succ j ih =>
    rw [show plc cl pl (j + 1) = plc cl pl j &&& (FR pl.1 cl (bitL (nI (spf pl j)) &&& cl) (ssf pl j)).1 from rfl, tb_and, Bool.and_eq_true] at h
    exact ih h.1
theorem c_places {w h hc : Nat} {me : MeS} {cl : Int64} {se tr fa fp : Int32} {tp : TpS} {tk : TkS} {rd : RdS} {hi : HiS} {sc : ScS} {pl dr : PlS} {wa wb : WaS} {rc : Nat → Int32} (H : WH w h) (HE : PlHe pl me (w * h) hc) : EX10_placesByShouts [.ref 0] (CH (1, cl, se, tr, fa, fp) tp tk rd hi sc pl dr wa wb rc) = some (plc cl pl hc) := by
  have hn := H.n
  have hh := HE.1
  rw [eX10_placesByShouts_s_1, qX10_placesByShouts_0_1]
  refine lp_run (fun j => [(0, .ref 0), (1, .long (plc cl pl j)), (3, .int (nI j))]) (fun _ => (CH (1, cl, se, tr, fa, fp) tp tk rd hi sc pl dr wa wb rc)) (t := hc) (by have := FU_ge; omega) (fun j hj k => ?_) (fun k => ?_)
  · obtain ⟨q1, q2, q3, q4, q5, q6⟩ := he_at HE hn.1 hj
    have c1 : EX3_heardCell [.ref 14, .int (nI j)] (CH (1, cl, se, tr, fa, fp) tp tk rd hi sc pl dr wa wb rc) = some (nI (spf pl j)) := by
      rw [eX3_heardCell_s, qX3_heardCell_0, if_neg (nI_pos (by omega)), l5, if_le (by omega) (by omega), if_neg (by omega), if_neg (nI_in (by omega : j < 5) (by omega)), nI_clamp (by omega), q3]
    have c2 : EX3_heardSteps [.ref 14, .int (nI j)] (CH (1, cl, se, tr, fa, fp) tp tk rd hi sc pl dr wa wb rc) = some (nI (ssf pl j)) := by
      rw [eX3_heardSteps_s, qX3_heardSteps_0, if_neg (nI_pos (by omega)), l5, if_le (by omega) (by omega), if_neg (by omega), if_neg (nI_in (by omega : j < 5) (by omega)), nI_clamp (by omega), q5]
    rw [qX10_placesByShouts_7_1, HE.2.1, if_le (by omega) (by omega), if_neg (by omega), qX10_placesByShouts_35_1 (h := c1), qX10_placesByShouts_43_1 (h := c2), qX10_placesByShouts_46_1 (h := e_atSteps _ q2 _), nI_1]
    rfl
  · rw [qX10_placesByShouts_7_1, HE.2.1, if_le (by omega) (by omega), if_pos (by omega)]
theorem m_places {w h hc du pa sh : Nat} {mp : MpS} {mq : MsS} {ma : MaS} {me : MeS} {rdv : Value} {pl : PlS} (H : WH w h) (G : GrOK pl.1 w h) (N : PlNu pl me w h du pa sh) (C : Sub mp.2.2.2.2.2.1 (w * h)) (HE : PlHe pl me (w * h) hc) : ∃ F Q, EX12_placesNow [.ref 0] (M1 mp mq ma me rdv) = some (plc mp.2.2.2.2.2.1 pl hc, M1 mp mq (sFQ ma F Q) me rdv) := by
  have hn := H.n
  have hh := HE.1
  rw [eX12_placesNow_s, qX12_placesNow_0]
  have L2 := lp_inv2 (α := Unit) (B := fun _ => BX12_placesNow_7) (fun j lv hp => ∃ F Q, j ≤ hc ∧ lv = [(0, .ref 0), (1, .long (plc mp.2.2.2.2.2.1 pl j)), (3, .int (nI j))] ∧ hp = M1 mp mq (sFQ ma F Q) me rdv) (Q := fun r => ∃ F Q, r () = some (plc mp.2.2.2.2.2.1 pl hc, M1 mp mq (sFQ ma F Q) me rdv)) (t := hc) (N := FU) (by have := FU_ge; omega) (fun j lv hp hj hP => ?_) (fun lv hp hP => ?_) (lv := [(0, .ref 0), (1, .long mp.2.2.2.2.2.1), (3, .int 0)]) (hp := M1 mp mq ma me rdv) ⟨_, _, Nat.zero_le _, rfl, rfl⟩
  · obtain ⟨r, ⟨F, Q, hr⟩, e⟩ := L2
    exact ⟨F, Q, (e ()).trans hr⟩
  · obtain ⟨F, Q, _, rfl, rfl⟩ := hP
    obtain ⟨q1, q2, q3, q4, q5, q6⟩ := he_at HE hn.1 hj
    obtain ⟨F2, Q2, hF2, eF⟩ := e_laysFar (mp := mp) (mq := mq) (ma := sFQ ma F Q) (rdv := rdv) H G N.1.1 N.1.2 C q1
    refine Or.inl ⟨_, _, ⟨F2, Q2, by omega, rfl, rfl⟩, fun _ k => ?_⟩
    rw [qX12_placesNow_7, HE.2.2.1, if_le (by omega) (by omega), if_neg (by omega), if_neg (nI_in (by omega : j < 5) (by omega)), nI_clamp (by omega), q4, qX12_placesNow_32 (h := eF)]
    have ee : clr (plc mp.2.2.2.2.2.1 pl j) (fun c => decide (F2 c ≠ nI (ssf pl j))) (w * h) = plc mp.2.2.2.2.2.1 pl (j + 1) := tb_ext (fun d _ => by
      rw [tb_clr _ _ (by omega), show tb (plc mp.2.2.2.2.2.1 pl (j + 1)) d = (tb (plc mp.2.2.2.2.2.1 pl j) d && tb (FR pl.1 mp.2.2.2.2.2.1 (bitL (nI (spf pl j)) &&& mp.2.2.2.2.2.1) (ssf pl j)).1 d) from tb_and _ _ _]
      cases h5 : tb (plc mp.2.2.2.2.2.1 pl j) d
      · rfl
      · have hdn := C d (plc_in h5)
        rw [decide_eq_true hdn, hF2 d (by omega)]
        cases h6 : tb (FR pl.1 mp.2.2.2.2.2.1 (bitL (nI (spf pl j)) &&& mp.2.2.2.2.2.1) (ssf pl j)).1 d
        · have : oM (dst pl.1 mp.2.2.2.2.2.1 (bitL (nI (spf pl j)) &&& mp.2.2.2.2.2.1) d) ≠ nI (ssf pl j) := fun e => by
            cases hd : dst pl.1 mp.2.2.2.2.2.1 (bitL (nI (spf pl j)) &&& mp.2.2.2.2.2.1) d with
            | none => rw [hd] at e; exact nI_m2 (by omega) e.symm
            | some q =>
              rw [hd] at e
              have hq := dst_lt H G C bit_in hd
              have e : nI q = nI (ssf pl j) := e
              rw [nI_eq (by omega) (by omega)] at e
              have := (dst_some H G C bit_in).mp hd
              rw [e, h6] at this
              cases this
          simp [this]
        · rw [(dst_some H G C bit_in).mpr h6]
          simp [oM])
    rw [← ee]
    refine lp_run (B := BX12_placesNow_38 k) (fun c => [(0, .ref 0), (1, .long (clr (plc mp.2.2.2.2.2.1 pl j) (fun c => decide (F2 c ≠ nI (ssf pl j))) c)), (3, .int (nI j)), (4, .int (nI c))]) (fun _ => M1 mp mq (sFQ ma F2 Q2) me rdv) (t := w * h) (N := FU) (by have := FU_ge; omega) (fun c hc k2 => ?_) (fun k2 => ?_)
    · rw [qX12_placesNow_38, N.1.1, N.1.2, pk_mul, if_le (by omega) (by omega), if_neg (by omega), if_neg (nI_in (by omega : c < 48) (by omega)), if_neg (nI_in (by omega : j < 5) (by omega)), nI_clamp (by omega), nI_clamp (by omega), q6, nI_1]
      by_cases h5 : F2 c = nI (ssf pl j)
      · rw [if_pos h5, show clr (plc mp.2.2.2.2.2.1 pl j) (fun c => decide (F2 c ≠ nI (ssf pl j))) (c + 1) = clr (plc mp.2.2.2.2.2.1 pl j) (fun c => decide (F2 c ≠ nI (ssf pl j))) c from if_neg (by simp [h5])]
      · rw [if_neg h5, show clr (plc mp.2.2.2.2.2.1 pl j) (fun c => decide (F2 c ≠ nI (ssf pl j))) (c + 1) = clr (plc mp.2.2.2.2.2.1 pl j) (fun c => decide (F2 c ≠ nI (ssf pl j))) c &&& (bitL (nI c) ^^^ (-1)) from if_pos (by simp [h5])]
    · rw [qX12_placesNow_38, N.1.1, N.1.2, pk_mul, if_le (by omega) (by omega), if_pos (by omega), nI_1]
  · obtain ⟨F, Q, _, rfl, rfl⟩ := hP
    refine ⟨fun _ => _, ⟨F, Q, rfl⟩, fun _ k => ?_⟩
    rw [qX12_placesNow_7, HE.2.2.1, if_le (by omega) (by omega), if_pos (by omega)]
theorem op_places : Step Inv EX10_places fIH EX12_places fIH [] := by
  refine step_q (fun cl se tr fa fp tp tk rd hi sc pl dr wa wb rc th wh ta mo sd mq ma rdv _ _ => ⟨1, by decide, rfl, rfl⟩) (fun cl se tr fa fp tp tk rd hi sc pl dr wa wb rc th wh ta ac mk mq ma me rdv _ I => ?_)
  obtain ⟨T, S, w, h, du, pa, sh, gc, hq, wc, ⟨H, G, N, P, GA, NO, HE, WK⟩, C, HI⟩ := id I
  have hn := H.n
  obtain ⟨F, Q, e⟩ := m_places (mp := (0, tr, wh, ta, fa, cl, se, ac, mk)) (mq := mq) (ma := ma) (rdv := rdv) H G N C HE
  refine ⟨nI (pcn (plc cl pl hq)), 0, sc, wa, wb, rc, mq, sFQ ma F Q, by decide, ⟨rfl, rfl, rfl, rfl, rfl⟩, ?_, ?_⟩
  · rw [eX10_places_s_1, qX10_places_0_1, qX10_places_9_1 (h := c_places H HE), bcnt_eq]
  · rw [eX12_places_s_1, qX12_places_0_1, qX12_places_22_1 (h := e), qX12_places_25_1 (h := e_bits _ _)]
theorem op_place (z : Int32) : Step Inv EX10_place fIH EX12_place fIH [.int z] := by
  refine step_q (fun cl se tr fa fp tp tk rd hi sc pl dr wa wb rc th wh ta mo sd mq ma rdv _ _ => ⟨1, by decide, rfl, rfl⟩) (fun cl se tr fa fp tp tk rd hi sc pl dr wa wb rc th wh ta ac mk mq ma me rdv _ I => ?_)
  obtain ⟨T, S, w, h, du, pa, sh, gc, hq, wc, ⟨H, G, N, P, GA, NO, HE, WK⟩, C, HI⟩ := id I
  have hn := H.n
  obtain ⟨F, Q, e⟩ := m_places (mp := (0, tr, wh, ta, fa, cl, se, ac, mk)) (mq := mq) (ma := ma) (rdv := rdv) H G N C HE
  have hU : Sub (plc cl pl hq) 48 := fun k hk => by have := C k (plc_in hk); omega
  have hp := pcn_le (plc cl pl hq)
  have c1 := c_places (cl := cl) (se := se) (tr := tr) (fa := fa) (fp := fp) (tp := tp) (tk := tk) (rd := rd) (hi := hi) (sc := sc) (dr := dr) (wa := wa) (wb := wb) (rc := rc) H HE
  have e0 : EX12_placesNow [.ref 0] (M1 (0, tr, wh, ta, fa, cl, se, ac, mk) mq ma me rdv) = some (plc cl pl hq, M1 (0, tr, wh, ta, fa, cl, se, ac, mk) mq (sFQ ma F Q) me rdv) := e
  generalize plc cl pl hq = u at *
  cases hz : inr (pcn u) z
  · refine ⟨-1, 1, sc, wa, wb, rc, mq, sFQ ma F Q, by decide, ⟨rfl, rfl, rfl, rfl, rfl⟩, ?_, ?_⟩
    · rw [eX10_place_s_1, qX10_place_0_1, qX10_place_8_1 (h := c1), qX10_place_12_1 (h := e_nth_no _ hU hz), qX10_place_20_1, if_pos rfl]
    · rw [eX12_place_s_1, qX12_place_0_1, qX12_place_19_1 (h := e0), qX12_place_29_1 (h := e_bits _ _)]
      unfold inr at hz
      by_cases h1 : z < 0
      · rw [if_pos h1]
      · rw [if_neg h1, if_neg]
        intro h2
        rw [decide_eq_false h1, decide_eq_false (fun h3 => absurd h2 (Int32.not_lt.mpr h3))] at hz
        cases hz
  · obtain ⟨j, hj, rfl⟩ := inr_true (by omega) hz
    obtain ⟨c, hc, h1, h2⟩ := nth_ex hj
    have hc48 := hU c h1
    have cn := e_nth (CH (1, cl, se, tr, fa, fp) tp tk rd hi sc pl dr wa wb rc) hc48 h1
    rw [h2] at cn
    obtain ⟨d1, d2⟩ := drop_first h1 hc
    rw [h2] at d1 d2
    refine ⟨nI c, 0, sc, wa, wb, rc, mq, sFQ ma F Q, by decide, ⟨rfl, rfl, rfl, rfl, rfl⟩, ?_, ?_⟩
    · rw [eX10_place_s_1, qX10_place_0_1, qX10_place_8_1 (h := c1), qX10_place_12_1 (h := cn), qX10_place_20_1, if_neg (nI_m2 (by omega))]
    · rw [eX12_place_s_1, qX12_place_0_1, qX12_place_19_1 (h := e0), if_neg (nI_pos (by omega)), qX12_place_29_1 (h := e_bits _ _), if_lt (by omega) (by omega), if_pos hj]
      refine lp_run (fun i => [(0, .ref 0), (1, .int (nI j)), (2, .long (dropL u i)), (4, .int (nI i))]) (fun _ => M1 (0, tr, wh, ta, fa, cl, se, ac, mk) mq (sFQ ma F Q) me rdv) (t := j) (by have := FU_ge; omega) (fun i hii k => ?_) (fun k => ?_)
      · rw [qX12_place_44_1, if_le (by omega) (by omega), if_neg (by omega), nI_1]
        rfl
      · rw [qX12_place_44_1, if_le (by omega) (by omega), if_pos (by omega), qX12_place_64_1 (h := e_first _ hc d1 d2)]
