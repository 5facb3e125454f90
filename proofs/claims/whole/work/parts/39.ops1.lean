/-! Calls that ask for cells. -/
theorem unlike_c (cl : Int64) (se tr fa fp : Int32) (tp : TpS) (tk : TkS) (rd : RdS) (hi : HiS) (sc : ScS) (pl dr : PlS) (wa wb : WaS) (rc : Nat → Int32) (z : Int32) : EX10_unlikeCells [.ref 0, .int z] (CH (1, cl, se, tr, fa, fp) tp tk rd hi sc pl dr wa wb rc) = some (if z = 0 then ((pl.2.1.2.1.1 &&& (cl ^^^ (-1))) ||| (pl.2.1.2.1.2.1 &&& cl)) else ((pl.2.1.2.2.1 &&& (cl ^^^ (-1))) ||| (pl.2.1.2.2.2.1 &&& cl))) := by
  rw [eX10_unlikeCells_s_1, qX10_unlikeCells_0_1]
  by_cases h : z = 0
  · rw [if_pos h, if_pos h]
  · rw [if_neg h, if_neg h]
theorem unlike_m {mp : MpS} {mq : MsS} {ma : MaS} {me : MeS} {rdv : Value} {pl : PlS} {n : Nat} (P : PlPi pl me n) (z : Int32) : EX12_unlikeNow [.ref 0, .int z] (M1 mp mq ma me rdv) = some (if z = 0 then ((pl.2.1.2.1.1 &&& (mp.2.2.2.2.2.1 ^^^ (-1))) ||| (pl.2.1.2.1.2.1 &&& mp.2.2.2.2.2.1)) else ((pl.2.1.2.2.1 &&& (mp.2.2.2.2.2.1 ^^^ (-1))) ||| (pl.2.1.2.2.2.1 &&& mp.2.2.2.2.2.1))) := by
  obtain ⟨p1, p2, p3, p4, _⟩ := P
  rw [eX12_unlikeNow_s, qX12_unlikeNow_0, ← p1, ← p2, ← p3, ← p4]
  by_cases h : z = 0
  · rw [if_pos h, if_pos h]
  · rw [if_neg h, if_neg h]
theorem op_mown (x y : Int32) : Step Inv EX10_mown fIH EX12_mown fIH [.int x, .int y] := by
  refine step_q (fun cl se tr fa fp tp tk rd hi sc pl dr wa wb rc th wh ta mo sd mq ma rdv _ _ => ⟨1, by decide, rfl, rfl⟩) (fun cl se tr fa fp tp tk rd hi sc pl dr wa wb rc th wh ta ac mk mq ma me rdv _ I => ?_)
  obtain ⟨T, S, w, h, du, pa, sh, gc, hq, wc, ⟨H, G, N, P, GA, NO, HE, WK⟩, C, HI⟩ := id I
  have hn := H.n
  cases hb : (inr w x && inr h y)
  · refine ⟨-1, 1, sc, wa, wb, rc, mq, ma, by decide, KeepMa.rf _, ?_, ?_⟩
    · rw [eX10_mown_s_1, qX10_mown_0_1, qX10_mown_3_1 (h := c_isCell G _ _), hb, if_b2i, if_neg (by decide)]
    · rw [eX12_mown_s_1, qX12_mown_0_1, qX12_mown_8_1 (h := m_isCell H N.1.1 N.1.2 _ _), hb, if_b2i, if_neg (by decide)]
  · rw [Bool.and_eq_true] at hb
    obtain ⟨X, hX, rfl⟩ := inr_true (by have := H.2.1; omega) hb.1
    obtain ⟨Y, hY, rfl⟩ := inr_true (by have := H.2.2.2; omega) hb.2
    have hc := yx_lt hX hY
    have hb2 : (inr w (nI X) && inr h (nI Y)) = true := by rw [hb.1, hb.2]; rfl
    refine ⟨if tb cl (w * Y + X) = true then 1 else 0, 0, sc, wa, wb, rc, mq, ma, by decide, KeepMa.rf _, ?_, ?_⟩
    · rw [eX10_mown_s_1, qX10_mown_0_1, qX10_mown_3_1 (h := c_isCell G _ _), hb2, if_b2i, if_pos rfl, qX10_mown_19_1 (h := c_isMown G H hX hY), if_b2i]
      cases tb cl (w * Y + X) <;> rfl
    · rw [eX12_mown_s_1, qX12_mown_0_1, qX12_mown_8_1 (h := m_isCell H N.1.1 N.1.2 _ _), hb2, if_b2i, if_pos rfl, N.1.1, pk_mul, nI_add, qX12_mown_25_1 (h := e_has _ _ (by omega)), if_b2i]
      cases tb cl (w * Y + X) <;> rfl
theorem op_beside (x y : Int32) : Step Inv EX10_beside fIH EX12_beside fIH [.int x, .int y] := by
  refine step_q (fun cl se tr fa fp tp tk rd hi sc pl dr wa wb rc th wh ta mo sd mq ma rdv _ _ => ⟨1, by decide, rfl, rfl⟩) (fun cl se tr fa fp tp tk rd hi sc pl dr wa wb rc th wh ta ac mk mq ma me rdv _ I => ?_)
  obtain ⟨T, S, w, h, du, pa, sh, gc, hq, wc, ⟨H, G, N, P, GA, NO, HE, WK⟩, C, HI⟩ := id I
  have hn := H.n
  cases hb : (inr w x && inr h y)
  · refine ⟨-1, 1, sc, wa, wb, rc, mq, ma, by decide, KeepMa.rf _, ?_, ?_⟩
    · rw [eX10_beside_s_1, qX10_beside_0_1, qX10_beside_3_1 (h := c_isCell G _ _), hb, if_b2i, if_neg (by decide)]
    · rw [eX12_beside_s_1, qX12_beside_0_1, qX12_beside_8_1 (h := m_isCell H N.1.1 N.1.2 _ _), hb, if_b2i, if_neg (by decide)]
  · rw [Bool.and_eq_true] at hb
    obtain ⟨X, hX, rfl⟩ := inr_true (by have := H.2.1; omega) hb.1
    obtain ⟨Y, hY, rfl⟩ := inr_true (by have := H.2.2.2; omega) hb.2
    have hc := yx_lt hX hY
    have hb2 : (inr w (nI X) && inr h (nI Y)) = true := by rw [hb.1, hb.2]; rfl
    refine ⟨nI (pcn (besd pl.1 (bitL (nI (w * Y + X))) &&& cl)), 0, sc, wa, wb, rc, mq, ma, by decide, KeepMa.rf _, ?_, ?_⟩
    · rw [eX10_beside_s_1, qX10_beside_0_1, qX10_beside_3_1 (h := c_isCell G _ _), hb2, if_b2i, if_pos rfl, G.1, pk_mul, nI_add, bcnt_eq]
    · rw [eX12_beside_s_1, qX12_beside_0_1, qX12_beside_8_1 (h := m_isCell H N.1.1 N.1.2 _ _), hb2, if_b2i, if_pos rfl, N.1.1, pk_mul, nI_add, qX12_beside_26_1 (h := e_besideOf H G N.1.1 N.1.2 hc), qX12_beside_29_1 (h := e_bits _ _)]
theorem op_splits (x y : Int32) : Step Inv EX10_splits fIH EX12_splits fIH [.int x, .int y] := by
  refine step_q (fun cl se tr fa fp tp tk rd hi sc pl dr wa wb rc th wh ta mo sd mq ma rdv _ _ => ⟨1, by decide, rfl, rfl⟩) (fun cl se tr fa fp tp tk rd hi sc pl dr wa wb rc th wh ta ac mk mq ma me rdv _ I => ?_)
  obtain ⟨T, S, w, h, du, pa, sh, gc, hq, wc, ⟨H, G, N, P, GA, NO, HE, WK⟩, C, HI⟩ := id I
  have hn := H.n
  cases hb : (inr w x && inr h y)
  · refine ⟨-1, 1, sc, wa, wb, rc, mq, ma, by decide, KeepMa.rf _, ?_, ?_⟩
    · rw [eX10_splits_s_1, qX10_splits_0_1, qX10_splits_3_1 (h := c_isCell G _ _), hb, if_b2i, if_neg (by decide)]
    · rw [eX12_splits_s_1, qX12_splits_0_1, qX12_splits_8_1 (h := m_isCell H N.1.1 N.1.2 _ _), hb, if_b2i, if_neg (by decide)]
  · rw [Bool.and_eq_true] at hb
    obtain ⟨X, hX, rfl⟩ := inr_true (by have := H.2.1; omega) hb.1
    obtain ⟨Y, hY, rfl⟩ := inr_true (by have := H.2.2.2; omega) hb.2
    have hc := yx_lt hX hY
    have hb2 : (inr w (nI X) && inr h (nI Y)) = true := by rw [hb.1, hb.2]; rfl
    obtain ⟨F, Q, e⟩ := e_splitsAt (mp := (0, tr, wh, ta, fa, cl, se, ac, mk)) (mq := mq) (ma := ma) (rdv := rdv) H G N.1.1 N.1.2 C hc
    refine ⟨if (tb cl (w * Y + X) && decide (prt pl.1 cl < prt pl.1 (cl &&& (bitL (nI (w * Y + X)) ^^^ (-1))))) = true then 1 else 0, 0, sc, wa, wb, rc, mq, sFQ ma F Q, by decide, ⟨rfl, rfl, rfl, rfl, rfl⟩, ?_, ?_⟩
    · rw [eX10_splits_s_1, qX10_splits_0_1, qX10_splits_3_1 (h := c_isCell G _ _), hb2, if_b2i, if_pos rfl, G.1, pk_mul, nI_add, qX10_splits_39_1 (h := e_isParting H G C hc), if_b2i]
      cases (tb cl (w * Y + X) && decide (prt pl.1 cl < prt pl.1 (cl &&& (bitL (nI (w * Y + X)) ^^^ (-1))))) <;> rfl
    · rw [eX12_splits_s_1, qX12_splits_0_1, qX12_splits_8_1 (h := m_isCell H N.1.1 N.1.2 _ _), hb2, if_b2i, if_pos rfl, N.1.1, pk_mul, nI_add, qX12_splits_22_1 (h := e), if_b2i]
      cases (tb cl (w * Y + X) && decide (prt pl.1 cl < prt pl.1 (cl &&& (bitL (nI (w * Y + X)) ^^^ (-1))))) <;> rfl
theorem op_steps (x y : Int32) : Step Inv EX10_steps fIH EX12_steps fIH [.int x, .int y] := by
  refine step_q (fun cl se tr fa fp tp tk rd hi sc pl dr wa wb rc th wh ta mo sd mq ma rdv _ _ => ⟨1, by decide, rfl, rfl⟩) (fun cl se tr fa fp tp tk rd hi sc pl dr wa wb rc th wh ta ac mk mq ma me rdv _ I => ?_)
  obtain ⟨T, S, w, h, du, pa, sh, gc, hq, wc, ⟨H, G, N, P, GA, NO, HE, WK⟩, C, HI⟩ := id I
  have hn := H.n
  cases hx : inr (w * h) x
  · refine ⟨-1, 1, sc, wa, wb, rc, mq, ma, by decide, KeepMa.rf _, ?_, ?_⟩
    · rw [eX10_steps_s_1, qX10_steps_0_1, qX10_steps_2_1 (h := c_isNumber G _), hx, if_b2i, if_neg (by decide)]
    · rw [eX12_steps_s_1, qX12_steps_0_1, qX12_steps_7_1 (h := m_isNumber N.1.1 N.1.2 _), hx, if_b2i, if_neg (by decide)]
  · cases hy : inr (w * h) y
    · refine ⟨-1, 1, sc, wa, wb, rc, mq, ma, by decide, KeepMa.rf _, ?_, ?_⟩
      · rw [eX10_steps_s_1, qX10_steps_0_1, qX10_steps_2_1 (h := c_isNumber G _), hx, if_b2i, if_pos rfl, qX10_steps_10_1 (h := c_isNumber G _), hy, if_b2i, if_neg (by decide)]
      · rw [eX12_steps_s_1, qX12_steps_0_1, qX12_steps_7_1 (h := m_isNumber N.1.1 N.1.2 _), hx, if_b2i, if_pos rfl, qX12_steps_15_1 (h := m_isNumber N.1.1 N.1.2 _), hy, if_b2i, if_neg (by decide)]
    · obtain ⟨X, hX, rfl⟩ := inr_true (by omega) hx
      obtain ⟨Y, hY, rfl⟩ := inr_true (by omega) hy
      obtain ⟨F, Q, hF, e⟩ := e_laysFar (mp := (0, tr, wh, ta, fa, cl, se, ac, mk)) (mq := mq) (ma := ma) (rdv := rdv) H G N.1.1 N.1.2 C hX
      refine ⟨oM (dst pl.1 cl (bitL (nI X) &&& cl) Y), 0, sc, wa, wb, rc, mq, sFQ ma F Q, by decide, ⟨rfl, rfl, rfl, rfl, rfl⟩, ?_, ?_⟩
      · rw [eX10_steps_s_1, qX10_steps_0_1, qX10_steps_2_1 (h := c_isNumber G _), hx, if_b2i, if_pos rfl, qX10_steps_10_1 (h := c_isNumber G _), hy, if_b2i, if_pos rfl, qX10_steps_36_1 (h := e_between H G C (by omega))]
      · rw [eX12_steps_s_1, qX12_steps_0_1, qX12_steps_7_1 (h := m_isNumber N.1.1 N.1.2 _), hx, if_b2i, if_pos rfl, qX12_steps_15_1 (h := m_isNumber N.1.1 N.1.2 _), hy, if_b2i, if_pos rfl, qX12_steps_33_1 (h := e), if_neg (nI_in (by omega : Y < 48) (by omega)), nI_clamp (by omega), ← hF Y (by omega)]
theorem op_unlike (z : Int32) : Step Inv EX10_unlike fIH EX12_unlike fIH [.int z] := by
  refine step_q (fun cl se tr fa fp tp tk rd hi sc pl dr wa wb rc th wh ta mo sd mq ma rdv _ _ => ⟨1, by decide, rfl, rfl⟩) (fun cl se tr fa fp tp tk rd hi sc pl dr wa wb rc th wh ta ac mk mq ma me rdv _ I => ?_)
  obtain ⟨T, S, w, h, du, pa, sh, gc, hq, wc, ⟨H, G, N, P, GA, NO, HE, WK⟩, C, HI⟩ := id I
  have hn := H.n
  refine ⟨nI (pcn (if z = 0 then ((pl.2.1.2.1.1 &&& (cl ^^^ (-1))) ||| (pl.2.1.2.1.2.1 &&& cl)) else ((pl.2.1.2.2.1 &&& (cl ^^^ (-1))) ||| (pl.2.1.2.2.2.1 &&& cl)))), 0, sc, wa, wb, rc, mq, ma, by decide, KeepMa.rf _, ?_, ?_⟩
  · rw [eX10_unlike_s_1, qX10_unlike_0_1, qX10_unlike_10_1 (h := unlike_c _ _ _ _ _ _ _ _ _ _ _ _ _ _ _ _), bcnt_eq]
  · rw [eX12_unlike_s_1, qX12_unlike_0_1, qX12_unlike_23_1 (h := unlike_m P _), qX12_unlike_26_1 (h := e_bits _ _)]
theorem op_clash : Step Inv EX10_clash fIH EX12_clash fIH [] := by
  refine step_q (fun cl se tr fa fp tp tk rd hi sc pl dr wa wb rc th wh ta mo sd mq ma rdv _ _ => ⟨1, by decide, rfl, rfl⟩) (fun cl se tr fa fp tp tk rd hi sc pl dr wa wb rc th wh ta ac mk mq ma me rdv _ I => ?_)
  obtain ⟨T, S, w, h, du, pa, sh, gc, hq, wc, ⟨H, G, N, P, GA, NO, HE, WK⟩, C, HI⟩ := id I
  have hn := H.n
  obtain ⟨p1, p2, p3, p4, _⟩ := P
  refine ⟨nI (pcn ((pl.2.1.2.1.1 &&& pl.2.1.2.2.2.1) ||| (pl.2.1.2.1.2.1 &&& pl.2.1.2.2.1))), 0, sc, wa, wb, rc, mq, ma, by decide, KeepMa.rf _, ?_, ?_⟩
  · rw [eX10_clash_s_1, qX10_clash_0_1, bcnt_eq]
  · rw [eX12_clash_s_1, qX12_clash_0_1, ← p1, ← p2, ← p3, ← p4, qX12_clash_25_1 (h := e_bits _ _)]
theorem op_toMow : Step Inv EX10_toMow fIH EX12_toMow fIH [] := by
  refine step_q (fun cl se tr fa fp tp tk rd hi sc pl dr wa wb rc th wh ta mo sd mq ma rdv _ _ => ⟨1, by decide, rfl, rfl⟩) (fun cl se tr fa fp tp tk rd hi sc pl dr wa wb rc th wh ta ac mk mq ma me rdv _ I => ?_)
  obtain ⟨T, S, w, h, du, pa, sh, gc, hq, wc, ⟨H, G, N, P, GA, NO, HE, WK⟩, C, HI⟩ := id I
  have hn := H.n
  obtain ⟨p1, p2, p3, p4, _⟩ := P
  refine ⟨nI (pcn (pl.2.1.2.1.1 &&& (cl ^^^ (-1)))), 0, sc, wa, wb, rc, mq, ma, by decide, KeepMa.rf _, ?_, ?_⟩
  · rw [eX10_toMow_s_1, qX10_toMow_0_1, bcnt_eq]
  · rw [eX12_toMow_s_1, qX12_toMow_0_1, ← p1, qX12_toMow_25_1 (h := e_bits _ _)]
theorem op_changes : Step Inv EX10_changes fIH EX12_changes fIH [] := by
  refine step_q (fun cl se tr fa fp tp tk rd hi sc pl dr wa wb rc th wh ta mo sd mq ma rdv _ _ => ⟨1, by decide, rfl, rfl⟩) (fun cl se tr fa fp tp tk rd hi sc pl dr wa wb rc th wh ta ac mk mq ma me rdv _ I => ?_)
  obtain ⟨T, S, w, h, du, pa, sh, gc, hq, wc, ⟨H, G, N, P, GA, NO, HE, WK⟩, C, HI⟩ := id I
  have hn := H.n
  obtain ⟨p1, p2, p3, p4, _⟩ := id P
  refine ⟨nI (pcn ((((pl.2.1.2.1.1 &&& (cl ^^^ (-1))) ||| (pl.2.1.2.1.2.1 &&& cl)) ||| ((pl.2.1.2.2.1 &&& (cl ^^^ (-1))) ||| (pl.2.1.2.2.2.1 &&& cl))) &&& (((pl.2.1.2.1.1 &&& pl.2.1.2.2.2.1) ||| (pl.2.1.2.1.2.1 &&& pl.2.1.2.2.1)) ^^^ (-1)))), 0, sc, wa, wb, rc, mq, ma, by decide, KeepMa.rf _, ?_, ?_⟩
  · rw [eX10_changes_s_1, qX10_changes_0_1, qX10_changes_15_1 (h := unlike_c _ _ _ _ _ _ _ _ _ _ _ _ _ _ _ _), qX10_changes_20_1 (h := unlike_c _ _ _ _ _ _ _ _ _ _ _ _ _ _ _ _), bcnt_eq]
    rfl
  · rw [eX12_changes_s_1, qX12_changes_0_1, qX12_changes_23_1 (h := unlike_m P _), qX12_changes_28_1 (h := unlike_m P _), qX12_changes_41_1 (h := e_bits _ _), ← p1, ← p2, ← p3, ← p4]
    rfl
theorem op_firstUnlike (z : Int32) : Step Inv EX10_firstUnlike fIH EX12_firstUnlike fIH [.int z] := by
  refine step_q (fun cl se tr fa fp tp tk rd hi sc pl dr wa wb rc th wh ta mo sd mq ma rdv _ _ => ⟨1, by decide, rfl, rfl⟩) (fun cl se tr fa fp tp tk rd hi sc pl dr wa wb rc th wh ta ac mk mq ma me rdv _ I => ?_)
  obtain ⟨T, S, w, h, du, pa, sh, gc, hq, wc, ⟨H, G, N, P, GA, NO, HE, WK⟩, C, HI⟩ := id I
  have hn := H.n
  obtain ⟨p1, p2, p3, p4, p5, p6, p7, p8⟩ := id P
  have hu := unlike_c cl se tr fa fp tp tk rd hi sc pl dr wa wb rc z
  have hu2 := unlike_m (mp := (0, tr, wh, ta, fa, cl, se, ac, mk)) (mq := mq) (ma := ma) (rdv := rdv) P z
  have hU : Sub (if z = 0 then ((pl.2.1.2.1.1 &&& (cl ^^^ (-1))) ||| (pl.2.1.2.1.2.1 &&& cl)) else ((pl.2.1.2.2.1 &&& (cl ^^^ (-1))) ||| (pl.2.1.2.2.2.1 &&& cl))) 48 := by
    have hw : ∀ {a : Int64}, Sub a (w * h) → Sub a 48 := fun ha k hk => by have := ha k hk; omega
    by_cases hz : z = 0
    · rw [if_pos hz]; exact Sub_or (Sub_andl (hw p5)) (Sub_andl (hw p6))
    · rw [if_neg hz]; exact Sub_or (Sub_andl (hw p7)) (Sub_andl (hw p8))
  generalize (if z = 0 then ((pl.2.1.2.1.1 &&& (cl ^^^ (-1))) ||| (pl.2.1.2.1.2.1 &&& cl)) else ((pl.2.1.2.2.1 &&& (cl ^^^ (-1))) ||| (pl.2.1.2.2.2.1 &&& cl))) = u at *
  by_cases h0 : u = 0
  · refine ⟨-2, 0, sc, wa, wb, rc, mq, ma, by decide, KeepMa.rf _, ?_, ?_⟩
    · rw [eX10_firstUnlike_s_1, qX10_firstUnlike_0_1, qX10_firstUnlike_10_1 (h := hu), qX10_firstUnlike_14_1 (h := e_nth_no _ hU (by rw [h0, pcn_0]; decide))]
    · rw [eX12_firstUnlike_s_1, qX12_firstUnlike_0_1, qX12_firstUnlike_21_1 (h := hu2), lg0, if_pos h0]
  · obtain ⟨k, hk, h1, h2⟩ := low_ex h0
    have hz : fb_ct (tb u) k = 0 := fb_ct_zero.mpr h2
    refine ⟨nI k, 0, sc, wa, wb, rc, mq, ma, by decide, KeepMa.rf _, ?_, ?_⟩
    · have := e_nth (CH (1, cl, se, tr, fa, fp) tp tk rd hi sc pl dr wa wb rc) (hU k h1) h1
      rw [hz, nI_0] at this
      rw [eX10_firstUnlike_s_1, qX10_firstUnlike_0_1, qX10_firstUnlike_10_1 (h := hu), qX10_firstUnlike_14_1 (h := this)]
    · rw [eX12_firstUnlike_s_1, qX12_firstUnlike_0_1, qX12_firstUnlike_21_1 (h := hu2), lg0, if_neg h0, qX12_firstUnlike_36_1 (h := hu2), qX12_firstUnlike_39_1 (h := e_first _ hk h1 h2)]
