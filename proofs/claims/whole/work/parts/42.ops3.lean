/-! size, ends, gatesSeen, shut. -/
theorem op_size (z : Int32) : Step Inv EX10_size fI EX12_size fIH [.int z] := by
  refine step_of (fun cl se tr fa fp tp tk rd hi sc pl dr wa wb rc th wh ta mo sd mq ma rdv a1 a2 a3 a4 => ?_) (fun cl se tr fa fp tp tk rd hi sc pl dr wa wb rc th wh ta ac mk mq ma me rdv a1 I => ?_)
  · obtain ⟨n, t1, t2, t3, t4⟩ := id a1
    have hout : ∀ v, EX10_size [.ref 0, .int z] (CH (0, cl, se, tr, fa, fp) tp tk rd hi sc pl dr wa wb rc) = some v → EX12_size [.ref 0, .int z] (M0 (th, tr, wh, ta, fa, mo, sd, 0, 0) mq ma rdv) = some (v, M0 (0, tr, wh, ta, fa, mo, sd, 0, 0) mq ma rdv) → ∃ oc om v hc2 hm2, EX10_size (.ref 0 :: [.int z]) (CH (0, cl, se, tr, fa, fp) tp tk rd hi sc pl dr wa wb rc) = some oc ∧ EX12_size (.ref 0 :: [.int z]) (M0 (th, tr, wh, ta, fa, mo, sd, 0, 0) mq ma rdv) = some om ∧ fI oc (CH (0, cl, se, tr, fa, fp) tp tk rd hi sc pl dr wa wb rc) = (some (.int v), hc2) ∧ fIH om (M0 (th, tr, wh, ta, fa, mo, sd, 0, 0) mq ma rdv) = (some (.int v), hm2) ∧ Inv hc2 hm2 := fun v e1 e2 =>
      ⟨_, _, v, _, _, e1, e2, rfl, rfl, Or.inl ⟨cl, se, tr, fa, fp, tp, tk, rd, hi, sc, pl, dr, wa, wb, rc, 0, wh, ta, mo, sd, mq, ma, rdv, rfl, rfl, a1, a2, a3, a4⟩⟩
    by_cases h12 : z = 12
    · subst h12
      exact hout ta (by rw [t3, ← t2]; rfl) rfl
    · cases hz : inr 12 z
      · refine hout (-1) ?_ ?_
        · rw [eX10_size_s_0, qX10_size_0_0]
          unfold inr at hz
          by_cases h1 : z < 0
          · rw [if_pos h1]
          · rw [if_neg h1]
            have h2 : nI 12 ≤ z := by
              cases h3 : decide (nI 12 ≤ z)
              · rw [h3, decide_eq_false h1] at hz; cases hz
              · exact of_decide_eq_true h3
            have h3 : ¬ z ≤ 12 := fun h4 => h12 (Int32.le_antisymm h4 h2)
            rw [if_neg h3]
        · rw [eX12_size_s_0, qX12_size_0_0, if_neg h12, qX12_size_20_0 (h := e_in _ _ _ _), if_b2i]
          have : decide ((0 : Int32) ≤ z ∧ z ≤ 11) = inr 12 z := inr_dec2 (n := 11) (x := z) (by omega)
          rw [this, hz, if_neg (by decide)]
      · obtain ⟨j, hj, rfl⟩ := inr_true (by omega) hz
        refine hout 0 ?_ ?_
        · rw [eX10_size_s_0, qX10_size_0_0, if_neg (nI_pos (by omega)), if_pos (show nI j ≤ 12 from (nI_leI (by omega) (by omega : 12 < 2 ^ 31)).mpr (by omega)), if_neg h12]
        · rw [eX12_size_s_0, qX12_size_0_0, if_neg h12, qX12_size_20_0 (h := e_in _ _ _ _), if_b2i]
          have : decide ((0 : Int32) ≤ nI j ∧ nI j ≤ 11) = inr 12 (nI j) := inr_dec2 (n := 11) (x := nI j) (by omega)
          rw [this, hz, if_pos rfl]
  · obtain ⟨T, S, w, h, du, pa, sh, gc, hq, wc, ⟨H, G, N, P, GA, NO, HE, WK⟩, C, HI⟩ := id I
    have hn := H.n
    obtain ⟨n, t1, t2, t3, t4⟩ := id T
    obtain ⟨a, k, ha, hk, i1, i2, i3, i4, i5, i6⟩ := id HI
    have hout : ∀ v, EX10_size [.ref 0, .int z] (CH (1, cl, se, tr, fa, fp) tp tk rd hi sc pl dr wa wb rc) = some v → EX12_size [.ref 0, .int z] (M1 (th, tr, wh, ta, fa, cl, se, ac, mk) mq ma me rdv) = some (v, M1 (0, tr, wh, ta, fa, cl, se, ac, mk) mq ma me rdv) → ∃ oc om v hc2 hm2, EX10_size (.ref 0 :: [.int z]) (CH (1, cl, se, tr, fa, fp) tp tk rd hi sc pl dr wa wb rc) = some oc ∧ EX12_size (.ref 0 :: [.int z]) (M1 (th, tr, wh, ta, fa, cl, se, ac, mk) mq ma me rdv) = some om ∧ fI oc (CH (1, cl, se, tr, fa, fp) tp tk rd hi sc pl dr wa wb rc) = (some (.int v), hc2) ∧ fIH om (M1 (th, tr, wh, ta, fa, cl, se, ac, mk) mq ma me rdv) = (some (.int v), hm2) ∧ Inv hc2 hm2 := fun v e1 e2 =>
      ⟨_, _, v, _, _, e1, e2, rfl, rfl, Or.inr ⟨cl, se, tr, fa, fp, tp, tk, rd, hi, sc, pl, dr, wa, wb, rc, 0, wh, ta, ac, mk, mq, ma, me, rdv, rfl, rfl, a1, I⟩⟩
    by_cases h12 : z = 12
    · subst h12
      exact hout ta (by rw [t3, ← t2]; rfl) rfl
    · cases hz : inr 12 z
      · refine hout (-1) ?_ ?_
        · rw [eX10_size_s_1, qX10_size_0_1]
          unfold inr at hz
          by_cases h1 : z < 0
          · rw [if_pos h1]
          · rw [if_neg h1]
            have h2 : nI 12 ≤ z := by
              cases h3 : decide (nI 12 ≤ z)
              · rw [h3, decide_eq_false h1] at hz; cases hz
              · exact of_decide_eq_true h3
            have h3 : ¬ z ≤ 12 := fun h4 => h12 (Int32.le_antisymm h4 h2)
            rw [if_neg h3]
        · rw [eX12_size_s_1, qX12_size_0_1, if_neg h12, qX12_size_20_1 (h := e_in _ _ _ _), if_b2i]
          have : decide ((0 : Int32) ≤ z ∧ z ≤ 11) = inr 12 z := inr_dec2 (n := 11) (x := z) (by omega)
          rw [this, hz, if_neg (by decide)]
      · obtain ⟨j, hj, rfl⟩ := inr_true (by omega) hz
        rcases (by omega : j = 0 ∨ j = 1 ∨ j = 2 ∨ j = 3 ∨ j = 4 ∨ j = 5 ∨ j = 6 ∨ j = 7 ∨ j = 8 ∨ j = 9 ∨ j = 10 ∨ j = 11) with rfl | rfl | rfl | rfl | rfl | rfl | rfl | rfl | rfl | rfl | rfl | rfl
        · exact hout pl.1.2.1 rfl (by rw [G.1, ← N.1.1]; rfl)
        · exact hout pl.1.2.2.1 rfl (by rw [G.2.1, ← N.1.2]; rfl)
        · exact hout pl.2.2.2.2.1 rfl (by rw [N.2.1.2.2.1, ← N.2.1.2.2.2]; rfl)
        · exact hout pl.2.2.2.2.2.1 rfl (by rw [N.2.2.1.2.1, ← N.2.2.1.2.2]; rfl)
        · exact hout pl.2.2.2.2.2.2.2.1 rfl (by rw [GA.2.1, ← GA.2.2.1]; rfl)
        · exact hout pl.2.2.2.2.2.2.2.2.2.2.2 rfl (by rw [WK.2.1, ← WK.2.2.1]; rfl)
        · exact hout pl.2.2.2.2.2.2.2.2.2.2.1 rfl (by rw [HE.2.1, ← HE.2.2.1]; rfl)
        · exact hout pl.2.2.2.2.2.2.2.2.2.1 rfl (by rw [NO.1]; rfl)
        · refine hout (bcnt cl) rfl ?_
          have hm : EX12_size [.ref 0, .int (nI 8)] (M1 (th, tr, wh, ta, fa, cl, se, ac, mk) mq ma me rdv) = BX12_size_164 [] [.long cl] (M1 (0, tr, wh, ta, fa, cl, se, ac, mk) mq ma me rdv) := rfl
          rw [hm, qX12_size_164_1 (h := e_bits _ _), bcnt_eq]
        · exact hout se rfl rfl
        · exact hout hi.2.2.2.2.1 rfl (by rw [i1, ← i2]; rfl)
        · exact hout hi.2.2.2.2.2 rfl (by rw [i3, ← i4]; rfl)
theorem s_add0 (x : Int32) : x + 0 = x := Int32.add_zero x
theorem op_ends : Step Inv EX10_ends fIH EX12_ends fIH [] := by
  refine step_q (fun cl se tr fa fp tp tk rd hi sc pl dr wa wb rc th wh ta mo sd mq ma rdv _ _ => ⟨1, by decide, rfl, rfl⟩) (fun cl se tr fa fp tp tk rd hi sc pl dr wa wb rc th wh ta ac mk mq ma me rdv _ I => ?_)
  obtain ⟨T, S, w, h, du, pa, sh, gc, hq, wc, ⟨H, G, N, P, GA, NO, HE, WK⟩, C, HI⟩ := id I
  have hn := H.n
  have hl : ∀ c, fb_ct (fun c => tb cl c && decide (pcn (besd pl.1 (bitL (nI c)) &&& cl) = 1)) c ≤ c := fun c => fb_ct_le _ c
  have c1 : EX0_countEnds [.ref 15, .long cl] (CH (1, cl, se, tr, fa, fp) tp tk rd hi sc pl dr wa wb rc) = some (nI (fb_ct (fun c => tb cl c && decide (pcn (besd pl.1 (bitL (nI c)) &&& cl) = 1)) (w * h))) := by
    rw [eX0_countEnds_s, qX0_countEnds_0]
    refine lp_run (fun c => [(0, .ref 15), (1, .long cl), (3, .int (nI (fb_ct (fun c => tb cl c && decide (pcn (besd pl.1 (bitL (nI c)) &&& cl) = 1)) c))), (4, .int (nI c))]) (fun _ => (CH (1, cl, se, tr, fa, fp) tp tk rd hi sc pl dr wa wb rc)) (t := w * h) (by have := FU_ge; omega) (fun c hc k => ?_) (fun k => ?_)
    · have hp := pcn_le (besd pl.1 (bitL (nI c)) &&& cl)
      rw [qX0_countEnds_5, G.2.2.1, if_le (by omega) (by omega), if_neg (by omega), qX0_countEnds_17 (h := e_isIn _ _ (by omega)), if_b2i, nI_1, nI_1, bcnt_eq, l1, if_eq (by omega) (by omega), fb_ct_succ]
      by_cases h1 : tb cl c = true
      · by_cases h2 : pcn (besd pl.1 (bitL (nI c)) &&& cl) = 1
        · rw [if_pos h1, if_pos h2, if_pos (by simp [h1, h2])]
        · rw [if_pos h1, if_neg h2, if_neg (by simp [h2])]
          rfl
      · rw [if_neg h1, if_neg (by simp [h1])]
        rfl
    · rw [qX0_countEnds_5, G.2.2.1, if_le (by omega) (by omega), if_pos (by omega)]
  refine ⟨nI (fb_ct (fun c => tb cl c && decide (pcn (besd pl.1 (bitL (nI c)) &&& cl) = 1)) (w * h)), 0, sc, wa, wb, rc, mq, ma, by decide, KeepMa.rf _, ?_, ?_⟩
  · rw [eX10_ends_s_1, qX10_ends_0_1, qX10_ends_19_1 (h := c1)]
  · rw [eX12_ends_s_1, qX12_ends_0_1]
    refine lp_run (fun c => [(0, .ref 0), (1, .int (nI (fb_ct (fun c => tb cl c && decide (pcn (besd pl.1 (bitL (nI c)) &&& cl) = 1)) c))), (2, .int (nI c))]) (fun _ => M1 (0, tr, wh, ta, fa, cl, se, ac, mk) mq ma me rdv) (t := w * h) (by have := FU_ge; omega) (fun c hc k => ?_) (fun k => ?_)
    · have hp := pcn_le (besd pl.1 (bitL (nI c)) &&& cl)
      rw [qX12_ends_22_1, N.1.1, N.1.2, pk_mul, if_le (by omega) (by omega), if_neg (by omega), qX12_ends_39_1 (h := e_has _ _ (by omega)), if_b2i, qX12_ends_51_1 (h := e_besideOf H G N.1.1 N.1.2 hc), qX12_ends_54_1 (h := e_bits _ _), s_add0, nI_1, nI_1, l1, if_eq (by omega) (by omega), fb_ct_succ]
      by_cases h1 : tb cl c = true
      · by_cases h2 : pcn (besd pl.1 (bitL (nI c)) &&& cl) = 1
        · rw [if_pos h1, if_pos h2, if_pos (by simp [h1, h2])]
        · rw [if_pos h1, if_neg h2, if_neg (by simp [h2])]
          rfl
      · rw [if_neg h1, if_neg (by simp [h1])]
        rfl
    · rw [qX12_ends_22_1, N.1.1, N.1.2, pk_mul, if_le (by omega) (by omega), if_pos (by omega)]
/-- weeks on end -/
def wki (g : GrS) (m gt : Int64) (sh : Int32) (n : Nat) : Nat → Int64
  | 0 => m
  | i + 1 => wkl g (wki g m gt sh n i) gt sh n
theorem wki_s (g : GrS) (m gt : Int64) (sh : Int32) (n i : Nat) : wkl g (wki g m gt sh n i) gt sh n = wki g m gt sh n (i + 1) := rfl
theorem wki_in {g : GrS} {m gt : Int64} {sh : Int32} {n : Nat} (hn : n ≤ 64) (i : Nat) {k : Nat} (hk : tb (wki g m gt sh n i) k = true) : tb m k = true := by
  induction i with
  | zero => exact hk
  | succ i ih => exact ih (wkl_in hn hk)
theorem c_week {w h : Nat} {cl : Int64} {se tr fa fp : Int32} {tp : TpS} {tk : TkS} {rd : RdS} {hi : HiS} {sc : ScS} {pl dr : PlS} {wa wb : WaS} {rc : Nat → Int32} (H : WH w h) (G : GrOK pl.1 w h) (m : Int64) : EX10_weekLater [.ref 0, .long m] (CH (1, cl, se, tr, fa, fp) tp tk rd hi sc pl dr wa wb rc) = some (wkl pl.1 m pl.2.2.2.2.2.2.2.2.1 pl.2.2.2.2.2.2.1 (w * h)) := by
  rw [eX10_weekLater_s_1, qX10_weekLater_0_1, qX10_weekLater_22_1 (h := e_weekLater H G _ _)]
theorem m_week {w h du pa sh : Nat} {mp : MpS} {mq : MsS} {ma : MaS} {me : MeS} {rdv : Value} {pl : PlS} {gc : Nat} (H : WH w h) (G : GrOK pl.1 w h) (N : PlNu pl me w h du pa sh) (GA : PlGa pl me (w * h) gc) (m : Int64) : EX12_weekOf [.ref 0, .long m] (M1 mp mq ma me rdv) = some (wkl pl.1 m pl.2.2.2.2.2.2.2.2.1 pl.2.2.2.2.2.2.1 (w * h)) := by
  rw [e_weekOf H G N.1.1 N.1.2, ← GA.2.2.2.1, N.2.2.2.2.2.2, ← N.2.2.2.2.2.1]
theorem op_shut (x y : Int32) : Step Inv EX10_shut fIH EX12_shut fIH [.int x, .int y] := by
  refine step_q (fun cl se tr fa fp tp tk rd hi sc pl dr wa wb rc th wh ta mo sd mq ma rdv _ _ => ⟨1, by decide, rfl, rfl⟩) (fun cl se tr fa fp tp tk rd hi sc pl dr wa wb rc th wh ta ac mk mq ma me rdv _ I => ?_)
  obtain ⟨T, S, w, h, du, pa, sh, gc, hq, wc, ⟨H, G, N, P, GA, NO, HE, WK⟩, C, HI⟩ := id I
  have hn := H.n
  cases hb : (inr w x && inr h y)
  · refine ⟨-1, 1, sc, wa, wb, rc, mq, ma, by decide, KeepMa.rf _, ?_, ?_⟩
    · rw [eX10_shut_s_1, qX10_shut_0_1, qX10_shut_3_1 (h := c_isCell G _ _), hb, if_b2i, if_neg (by decide)]
    · rw [eX12_shut_s_1, qX12_shut_0_1, qX12_shut_8_1 (h := m_isCell H N.1.1 N.1.2 _ _), hb, if_b2i, if_neg (by decide)]
  · rw [Bool.and_eq_true] at hb
    obtain ⟨X, hX, rfl⟩ := inr_true (by have := H.2.1; omega) hb.1
    obtain ⟨Y, hY, rfl⟩ := inr_true (by have := H.2.2.2; omega) hb.2
    have hc := yx_lt hX hY
    have hb2 : (inr w (nI X) && inr h (nI Y)) = true := by rw [hb.1, hb.2]; rfl
    by_cases h5 : tb cl (w * Y + X) = true
    · have z0 : ∀ m : Int64, (m &&& bitL (nI (w * Y + X)) = 0) ↔ tb m (w * Y + X) = false := fun m => by
        constructor
        · intro e
          have := congrArg (fun q => tb q (w * Y + X)) e
          simp only [tb_and, tb_0, tb_bit (w * Y + X) (by omega)] at this
          simpa using this
        · intro e
          refine tb_ext (fun d _ => ?_)
          rw [tb_and, tb_0, tb_bit (w * Y + X) (by omega)]
          by_cases e2 : d = w * Y + X
          · rw [e2, e]; rfl
          · simp [e2]
      have two : ∀ (t : Nat) (v : Int32), t < 61 → (∀ j, j < t → tb (wki pl.1 cl pl.2.2.2.2.2.2.2.2.1 pl.2.2.2.2.2.2.1 (w * h) (j + 1)) (w * Y + X) = true) → ((t = 60 ∧ v = -2) ∨ (t < 60 ∧ tb (wki pl.1 cl pl.2.2.2.2.2.2.2.2.1 pl.2.2.2.2.2.2.1 (w * h) (t + 1)) (w * Y + X) = false ∧ v = nI (t + 1))) → ∃ v t sc2 wa2 wb2 rc2 mq2 ma2, t ≠ 4 ∧ KeepMa ma ma2 ∧ EX10_shut [.ref 0, .int (nI X), .int (nI Y)] (CH (1, cl, se, tr, fa, fp) tp tk rd hi sc pl dr wa wb rc) = some (v, CH (1, cl, se, t, fa, fp) tp tk rd hi sc2 pl dr wa2 wb2 rc2) ∧ EX12_shut [.ref 0, .int (nI X), .int (nI Y)] (M1 (th, tr, wh, ta, fa, cl, se, ac, mk) mq ma me rdv) = some (v, M1 (0, t, -1, ta, fa, cl, se, ac, mk) mq2 ma2 me rdv) := by
        intro t v ht hj hv
        refine ⟨v, 0, sc, wa, wb, rc, mq, ma, by decide, KeepMa.rf _, ?_, ?_⟩
        · rw [eX10_shut_s_1, qX10_shut_0_1, qX10_shut_3_1 (h := c_isCell G _ _), hb2, if_b2i, if_pos rfl, qX10_shut_18_1 (h := c_isMown G H hX hY), h5, if_b2i, if_pos rfl, G.1, pk_mul, nI_add]
          refine lp_run (fun j => [(0, .ref 0), (3, .long (bitL (nI (w * Y + X)))), (5, .long (wki pl.1 cl pl.2.2.2.2.2.2.2.2.1 pl.2.2.2.2.2.2.1 (w * h) j)), (7, .int (nI (j + 1)))]) (fun _ => (CH (1, cl, se, tr, fa, fp) tp tk rd hi sc pl dr wa wb rc)) (t := t) (by have := FU_ge; omega) (fun j hjt k => ?_) (fun k => ?_)
          · rw [qX10_shut_55_1, l60, if_lt (by omega) (by omega), if_neg (by omega), qX10_shut_65_1 (h := c_week H G _), wki_s, lg0, if_neg (by rw [z0, hj j hjt]; decide), nI_1]
          · rcases hv with ⟨rfl, rfl⟩ | ⟨h6, h7, rfl⟩
            · rw [qX10_shut_55_1, l60, if_lt (by omega) (by omega), if_pos (by omega)]
            · rw [qX10_shut_55_1, l60, if_lt (by omega) (by omega), if_neg (by omega), qX10_shut_65_1 (h := c_week H G _), wki_s, lg0, if_pos ((z0 _).mpr h7)]
        · rw [eX12_shut_s_1, qX12_shut_0_1, qX12_shut_8_1 (h := m_isCell H N.1.1 N.1.2 _ _), hb2, if_b2i, if_pos rfl, N.1.1, pk_mul, nI_add, qX12_shut_30_1 (h := e_has _ _ (by omega)), h5, if_b2i, if_pos rfl]
          refine lp_run (fun j => [(0, .ref 0), (1, .int (nI X)), (2, .int (nI Y)), (3, .long (wki pl.1 cl pl.2.2.2.2.2.2.2.2.1 pl.2.2.2.2.2.2.1 (w * h) j)), (5, .int (nI (j + 1)))]) (fun _ => M1 (0, tr, wh, ta, fa, cl, se, ac, mk) mq ma me rdv) (t := t) (by have := FU_ge; omega) (fun j hjt k => ?_) (fun k => ?_)
          · rw [qX12_shut_50_1, l60, if_lt (by omega) (by omega), if_neg (by omega), qX12_shut_59_1 (h := m_week H G N GA _), wki_s, N.1.1, pk_mul, nI_add, qX12_shut_70_1 (h := e_has _ _ (by omega)), if_b2i, if_pos (hj j hjt), nI_1]
          · rcases hv with ⟨rfl, rfl⟩ | ⟨h6, h7, rfl⟩
            · rw [qX12_shut_50_1, l60, if_lt (by omega) (by omega), if_pos (by omega)]
            · rw [qX12_shut_50_1, l60, if_lt (by omega) (by omega), if_neg (by omega), qX12_shut_59_1 (h := m_week H G N GA _), wki_s, N.1.1, pk_mul, nI_add, qX12_shut_70_1 (h := e_has _ _ (by omega)), if_b2i, if_neg (by rw [h7]; decide)]
      by_cases hex : ∃ j, j < 60 ∧ tb (wki pl.1 cl pl.2.2.2.2.2.2.2.2.1 pl.2.2.2.2.2.2.1 (w * h) (j + 1)) (w * Y + X) = false
      · obtain ⟨t, ht, h6, h7⟩ := fb_first (p := fun j => tb (wki pl.1 cl pl.2.2.2.2.2.2.2.2.1 pl.2.2.2.2.2.2.1 (w * h) (j + 1)) (w * Y + X) = false) hex
        exact two t _ (by omega) (fun j hj => by simpa using h7 j hj) (Or.inr ⟨ht, h6, rfl⟩)
      · exact two 60 _ (by omega) (fun j hj => by
          cases h6 : tb (wki pl.1 cl pl.2.2.2.2.2.2.2.2.1 pl.2.2.2.2.2.2.1 (w * h) (j + 1)) (w * Y + X)
          · exact absurd ⟨j, hj, h6⟩ hex
          · rfl) (Or.inl ⟨rfl, rfl⟩)
    · refine ⟨-1, 5, sc, wa, wb, rc, mq, ma, by decide, KeepMa.rf _, ?_, ?_⟩
      · rw [eX10_shut_s_1, qX10_shut_0_1, qX10_shut_3_1 (h := c_isCell G _ _), hb2, if_b2i, if_pos rfl, qX10_shut_18_1 (h := c_isMown G H hX hY), if_b2i, if_neg h5]
      · rw [eX12_shut_s_1, qX12_shut_0_1, qX12_shut_8_1 (h := m_isCell H N.1.1 N.1.2 _ _), hb2, if_b2i, if_pos rfl, N.1.1, pk_mul, nI_add, qX12_shut_30_1 (h := e_has _ _ (by omega)), if_b2i, if_neg h5]
