/-! Calls that change little: seed, undo, mark, back, size, trouble, fault, where; seen. -/
theorem op_trouble : Step Inv EX10_trouble fI EX12_trouble fIH [] := by
  refine step_of (fun cl se tr fa fp tp tk rd hi sc pl dr wa wb rc th wh ta mo sd mq ma rdv a1 a2 a3 a4 => ?_) (fun cl se tr fa fp tp tk rd hi sc pl dr wa wb rc th wh ta ac mk mq ma me rdv a1 I => ?_)
  · exact ⟨tr, (tr, M0 (0, tr, wh, ta, fa, mo, sd, 0, 0) mq ma rdv), tr, _, _, rfl, rfl, rfl, rfl, Or.inl ⟨cl, se, tr, fa, fp, tp, tk, rd, hi, sc, pl, dr, wa, wb, rc, 0, wh, ta, mo, sd, mq, ma, rdv, rfl, rfl, a1, a2, a3, a4⟩⟩
  · exact ⟨tr, (tr, M1 (0, tr, wh, ta, fa, cl, se, ac, mk) mq ma me rdv), tr, _, _, rfl, rfl, rfl, rfl, Or.inr ⟨cl, se, tr, fa, fp, tp, tk, rd, hi, sc, pl, dr, wa, wb, rc, 0, wh, ta, ac, mk, mq, ma, me, rdv, rfl, rfl, a1, I⟩⟩
theorem op_fault : Step Inv EX10_fault fI EX12_fault fIH [] := by
  refine step_of (fun cl se tr fa fp tp tk rd hi sc pl dr wa wb rc th wh ta mo sd mq ma rdv a1 a2 a3 a4 => ?_) (fun cl se tr fa fp tp tk rd hi sc pl dr wa wb rc th wh ta ac mk mq ma me rdv a1 I => ?_)
  · exact ⟨fa, (fa, M0 (0, tr, wh, ta, fa, mo, sd, 0, 0) mq ma rdv), fa, _, _, rfl, rfl, rfl, rfl, Or.inl ⟨cl, se, tr, fa, fp, tp, tk, rd, hi, sc, pl, dr, wa, wb, rc, 0, wh, ta, mo, sd, mq, ma, rdv, rfl, rfl, a1, a2, a3, a4⟩⟩
  · exact ⟨fa, (fa, M1 (0, tr, wh, ta, fa, cl, se, ac, mk) mq ma me rdv), fa, _, _, rfl, rfl, rfl, rfl, Or.inr ⟨cl, se, tr, fa, fp, tp, tk, rd, hi, sc, pl, dr, wa, wb, rc, 0, wh, ta, ac, mk, mq, ma, me, rdv, rfl, rfl, a1, I⟩⟩
theorem op_where : Step Inv EX10_where fI EX12_where fIH [] := by
  refine step_of (fun cl se tr fa fp tp tk rd hi sc pl dr wa wb rc th wh ta mo sd mq ma rdv a1 a2 a3 a4 => ?_) (fun cl se tr fa fp tp tk rd hi sc pl dr wa wb rc th wh ta ac mk mq ma me rdv a1 I => ?_)
  · have e : EX10_where [.ref 0] (CH (0, cl, se, tr, fa, fp) tp tk rd hi sc pl dr wa wb rc) = some wh := by
      rw [eX10_where_s_0, qX10_where_0_0, a2]
      by_cases h : tr = 4
      · rw [if_pos h, if_pos h]
      · rw [if_neg h, if_neg h]
    exact ⟨wh, (wh, M0 (0, tr, wh, ta, fa, mo, sd, 0, 0) mq ma rdv), wh, _, _, e, rfl, rfl, rfl, Or.inl ⟨cl, se, tr, fa, fp, tp, tk, rd, hi, sc, pl, dr, wa, wb, rc, 0, wh, ta, mo, sd, mq, ma, rdv, rfl, rfl, a1, a2, a3, a4⟩⟩
  · have e : EX10_where [.ref 0] (CH (1, cl, se, tr, fa, fp) tp tk rd hi sc pl dr wa wb rc) = some wh := by
      rw [eX10_where_s_1, qX10_where_0_1, a1]
      by_cases h : tr = 4
      · rw [if_pos h, if_pos h]
      · rw [if_neg h, if_neg h]
    exact ⟨wh, (wh, M1 (0, tr, wh, ta, fa, cl, se, ac, mk) mq ma me rdv), wh, _, _, e, rfl, rfl, rfl, Or.inr ⟨cl, se, tr, fa, fp, tp, tk, rd, hi, sc, pl, dr, wa, wb, rc, 0, wh, ta, ac, mk, mq, ma, me, rdv, rfl, rfl, a1, I⟩⟩
theorem op_seed (z : Int32) : Step Inv EX10_seed fZH EX12_seed fZH [.int z] := by
  refine step_of (fun cl se tr fa fp tp tk rd hi sc pl dr wa wb rc th wh ta mo sd mq ma rdv a1 a2 a3 a4 => ?_) (fun cl se tr fa fp tp tk rd hi sc pl dr wa wb rc th wh ta ac mk mq ma me rdv a1 I => ?_)
  · exact ⟨(false, _), (false, _), 0, _, _, rfl, rfl, rfl, rfl, inv0 a1 (by decide : (1 : Int32) ≠ 4) a3 a4⟩
  · have e0 : (if z < 65537 then some (true, CH (1, cl, z, 0, fa, fp) tp tk rd hi sc pl dr wa wb rc) else some (false, CH (1, cl, se, 2, fa, fp) tp tk rd hi sc pl dr wa wb rc)) = (if nI 65537 ≤ z then some (false, CH (1, cl, se, 2, fa, fp) tp tk rd hi sc pl dr wa wb rc) else some (true, CH (1, cl, z, 0, fa, fp) tp tk rd hi sc pl dr wa wb rc)) := by
      by_cases h : z < 65537
      · rw [if_pos h, if_neg (show ¬ nI 65537 ≤ z from fun h2 => absurd h (Int32.not_lt.mpr h2))]
      · rw [if_neg h, if_pos (show nI 65537 ≤ z from Int32.not_lt.mp h)]
    have e1 : EX10_seed [.ref 0, .int z] (CH (1, cl, se, tr, fa, fp) tp tk rd hi sc pl dr wa wb rc) = (if inr 65537 z = true then some (true, CH (1, cl, z, 0, fa, fp) tp tk rd hi sc pl dr wa wb rc) else some (false, CH (1, cl, se, 2, fa, fp) tp tk rd hi sc pl dr wa wb rc)) := by
      rw [eX10_seed_s_1, qX10_seed_0_1, e0, inr_if]
    have e2 : EX12_seed [.ref 0, .int z] (M1 (th, tr, wh, ta, fa, cl, se, ac, mk) mq ma me rdv) = (if inr 65537 z = true then some (true, M1 (0, 0, -1, ta, fa, cl, z, ac, mk) mq ma me rdv) else some (false, M1 (0, 2, -1, ta, fa, cl, se, ac, mk) mq ma me rdv)) := by
      have : decide ((0 : Int32) ≤ z ∧ z ≤ 65536) = inr 65537 z := inr_dec2 (n := 65536) (x := z) (by omega)
      rw [eX12_seed_s_1, qX12_seed_0_1, qX12_seed_23_1 (h := e_in _ _ _ _), if_b2i, this]
    cases hz : inr 65537 z
    · rw [hz] at e1 e2
      exact ⟨_, _, 0, _, _, e1, e2, rfl, rfl, inv1 I (by decide)⟩
    · rw [hz] at e1 e2
      obtain ⟨j, hj, rfl⟩ := inr_true (by omega) hz
      exact ⟨_, _, 1, _, _, e1, e2, rfl, rfl, inv1 ⟨I.1, ⟨j, hj, rfl⟩, I.2.2⟩ (by decide)⟩
theorem op_undo : Step Inv EX10_undo fZH EX12_undo fZH [] := by
  refine step_of (fun cl se tr fa fp tp tk rd hi sc pl dr wa wb rc th wh ta mo sd mq ma rdv a1 a2 a3 a4 => ?_) (fun cl se tr fa fp tp tk rd hi sc pl dr wa wb rc th wh ta ac mk mq ma me rdv a1 I => ?_)
  · have e : EX10_undo [.ref 0] (CH (0, cl, se, tr, fa, fp) tp tk rd hi sc pl dr wa wb rc) = some (false, CH (0, cl, se, 6, fa, fp) tp tk rd hi sc pl dr wa wb rc) := by
      rw [eX10_undo_s_0, qX10_undo_0_0, if_pos a3]
    exact ⟨_, _, 0, _, _, e, rfl, rfl, rfl, inv0 a1 (by decide : (6 : Int32) ≠ 4) a3 a4⟩
  · obtain ⟨T, S, w, h, du, pa, sh, gc, hq, wc, ⟨H, G, N, P, GA, NO, HE, WK⟩, C, HI⟩ := id I
    have hn := H.n
    obtain ⟨a, k, ha, hk, i1, i2, i3, i4, i5, i6⟩ := HI
    subst i2 i4
    rcases Nat.eq_zero_or_pos a with rfl | h0
    · have e : EX10_undo [.ref 0] (CH (1, cl, se, tr, fa, fp) tp tk rd hi sc pl dr wa wb rc) = some (false, CH (1, cl, se, 6, fa, fp) tp tk rd hi sc pl dr wa wb rc) := by
        rw [eX10_undo_s_1, qX10_undo_0_1, if_pos (i1.trans nI_0)]
      have e2 : EX12_undo [.ref 0] (M1 (th, tr, wh, ta, fa, cl, se, nI 0, nI k) mq ma me rdv) = some (false, M1 (0, 6, -1, ta, fa, cl, se, nI 0, nI k) mq ma me rdv) := by
        rw [eX12_undo_s_1, qX12_undo_0_1, if_pos nI_0]
      exact ⟨_, _, 0, _, _, e, e2, rfl, rfl, inv1 I (by decide)⟩
    · have em : nI a - 1 = nI (a - 1) := pk_sub (b := 1) h0
      have hin : ¬ (nI (a - 1) < 0 ∨ 20 ≤ (nI (a - 1)).toNatClampNeg) := nI_in (by omega) (by omega)
      have c1 : EX1_latestCells [.ref 5] (CH (1, cl, se, tr, fa, fp) tp tk rd hi sc pl dr wa wb rc) = some (hi.1 (a - 1)) := by
        rw [eX1_latestCells_s, qX1_latestCells_0, i1, if_neg (nI_nle h0 (by omega)), l20, if_lt (by omega) (by omega), if_neg (by omega), em, if_neg hin, nI_clamp (by omega)]
      have c2 : ∀ cl, EX1_latestSeed [.ref 5] (CH (1, cl, se, tr, fa, fp) tp tk rd hi sc pl dr wa wb rc) = some (hi.2.1 (a - 1)) := fun cl => by
        rw [eX1_latestSeed_s, qX1_latestSeed_0, i1, if_neg (nI_nle h0 (by omega)), l20, if_lt (by omega) (by omega), if_neg (by omega), em, if_neg hin, nI_clamp (by omega)]
      have c3 : ∀ cl se, EX1_dropLatest [.ref 5] (CH (1, cl, se, tr, fa, fp) tp tk rd hi sc pl dr wa wb rc) = some (CH (1, cl, se, tr, fa, fp) tp tk rd (hi.1, hi.2.1, hi.2.2.1, hi.2.2.2.1, nI (a - 1), hi.2.2.2.2.2) sc pl dr wa wb rc) := fun cl se => by
        rw [eX1_dropLatest_s, qX1_dropLatest_0, i1, if_neg (nI_nle h0 (by omega)), em]
      have e : EX10_undo [.ref 0] (CH (1, cl, se, tr, fa, fp) tp tk rd hi sc pl dr wa wb rc) = some (true, CH (1, hi.1 (a - 1), hi.2.1 (a - 1), 0, fa, fp) tp tk rd (hi.1, hi.2.1, hi.2.2.1, hi.2.2.2.1, nI (a - 1), hi.2.2.2.2.2) sc pl dr wa wb rc) := by
        rw [eX10_undo_s_1, qX10_undo_0_1, if_neg (by rw [i1]; exact nI_ne0 h0 (by omega)), qX10_undo_22_1 (h := c1), qX10_undo_33_1 (h := c2 _), qX10_undo_43_1 (h := c3 _ _)]
      have e2 : EX12_undo [.ref 0] (M1 (th, tr, wh, ta, fa, cl, se, nI a, nI k) mq ma me rdv) = some (true, M1 (0, 0, -1, ta, fa, hi.1 (a - 1), hi.2.1 (a - 1), nI (a - 1), nI k) mq ma me rdv) := by
        rw [eX12_undo_s_1, qX12_undo_0_1, if_neg (nI_ne0 h0 (by omega)), em, if_neg hin, if_neg hin, nI_clamp (by omega), (i5 (a - 1) (by omega)).1, (i5 (a - 1) (by omega)).2.1]
      refine ⟨_, _, 1, _, _, e, e2, rfl, rfl, inv1 ⟨T, (i5 (a - 1) (by omega)).2.2.2, w, h, du, pa, sh, gc, hq, wc, ⟨H, G, N, P, GA, NO, HE, WK⟩, (i5 (a - 1) (by omega)).2.2.1, a - 1, k, by omega, hk, rfl, rfl, i3, rfl, fun i hii => i5 i (by omega), i6⟩ (by decide)⟩
theorem op_mark : Step Inv EX10_mark fIH EX12_mark fIH [] := by
  refine step_of (fun cl se tr fa fp tp tk rd hi sc pl dr wa wb rc th wh ta mo sd mq ma rdv a1 a2 a3 a4 => ?_) (fun cl se tr fa fp tp tk rd hi sc pl dr wa wb rc th wh ta ac mk mq ma me rdv a1 I => ?_)
  · exact ⟨(-1, _), (-1, _), -1, _, _, rfl, rfl, rfl, rfl, inv0 a1 (by decide : (1 : Int32) ≠ 4) a3 a4⟩
  · obtain ⟨T, S, w, h, du, pa, sh, gc, hq, wc, ⟨H, G, N, P, GA, NO, HE, WK⟩, C, HI⟩ := id I
    have hn := H.n
    obtain ⟨a, k, ha, hk, i1, i2, i3, i4, i5, i6⟩ := HI
    subst i2 i4
    by_cases h3 : k = 3
    · have c1 : EX1_addMark [.ref 5, .long cl, .int se] (CH (1, cl, se, tr, fa, fp) tp tk rd hi sc pl dr wa wb rc) = some (-1, (CH (1, cl, se, tr, fa, fp) tp tk rd hi sc pl dr wa wb rc)) := by
        rw [eX1_addMark_s, qX1_addMark_0, i3, if_neg (nI_pos (by omega)), l3, if_le (by omega) (by omega), if_pos (by omega)]
      have e : EX10_mark [.ref 0] (CH (1, cl, se, tr, fa, fp) tp tk rd hi sc pl dr wa wb rc) = some (-1, CH (1, cl, se, 3, fa, fp) tp tk rd hi sc pl dr wa wb rc) := by
        rw [eX10_mark_s_1, qX10_mark_0_1, qX10_mark_25_1 (h := c1), if_pos rfl]
      have e2 : EX12_mark [.ref 0] (M1 (th, tr, wh, ta, fa, cl, se, nI a, nI k) mq ma me rdv) = some (-1, M1 (0, 3, -1, ta, fa, cl, se, nI a, nI k) mq ma me rdv) := by
        rw [eX12_mark_s_1, qX12_mark_0_1, if_pos (by rw [h3]; rfl)]
      exact ⟨_, _, -1, _, _, e, e2, rfl, rfl, inv1 I (by decide)⟩
    · have hin : ¬ (nI k < 0 ∨ 3 ≤ (nI k).toNatClampNeg) := nI_in (by omega) (by omega)
      have c1 : EX1_addMark [.ref 5, .long cl, .int se] (CH (1, cl, se, tr, fa, fp) tp tk rd hi sc pl dr wa wb rc) = some (nI k, CH (1, cl, se, tr, fa, fp) tp tk rd (hi.1, hi.2.1, vp_updL hi.2.2.1 k cl, upd hi.2.2.2.1 k se, hi.2.2.2.2.1, nI (k + 1)) sc pl dr wa wb rc) := by
        rw [eX1_addMark_s, qX1_addMark_0, i3, if_neg (nI_pos (by omega)), l3, if_le (by omega) (by omega), if_neg (by omega), if_lt (by omega) (by omega), if_pos (by omega), if_neg hin, if_neg hin, nI_clamp (by omega), nI_1, nI_pred]
      have e : EX10_mark [.ref 0] (CH (1, cl, se, tr, fa, fp) tp tk rd hi sc pl dr wa wb rc) = some (nI k, CH (1, cl, se, 0, fa, fp) tp tk rd (hi.1, hi.2.1, vp_updL hi.2.2.1 k cl, upd hi.2.2.2.1 k se, hi.2.2.2.2.1, nI (k + 1)) sc pl dr wa wb rc) := by
        rw [eX10_mark_s_1, qX10_mark_0_1, qX10_mark_25_1 (h := c1), if_neg (nI_m1 (by omega))]
      have e2 : EX12_mark [.ref 0] (M1 (th, tr, wh, ta, fa, cl, se, nI a, nI k) mq ma me rdv) = some (nI k, M1 (0, 0, -1, ta, fa, cl, se, nI a, nI (k + 1)) mq (ma.1, ma.2.1, ma.2.2.1, ma.2.2.2.1, ma.2.2.2.2.1, ma.2.2.2.2.2.1, ma.2.2.2.2.2.2.1, ma.2.2.2.2.2.2.2.1, ma.2.2.2.2.2.2.2.2.1, ma.2.2.2.2.2.2.2.2.2.1, ma.2.2.2.2.2.2.2.2.2.2.1, ma.2.2.2.2.2.2.2.2.2.2.2.1, (vp_updL ma.2.2.2.2.2.2.2.2.2.2.2.2.1 k cl), ma.2.2.2.2.2.2.2.2.2.2.2.2.2.1, (upd ma.2.2.2.2.2.2.2.2.2.2.2.2.2.2 k se)) me rdv) := by
        rw [eX12_mark_s_1, qX12_mark_0_1, l3, if_eq (by omega) (by omega), if_neg h3, if_neg hin, if_neg hin, nI_clamp (by omega), nI_1, nI_pred]
      refine ⟨_, _, nI k, _, _, e, e2, rfl, rfl, inv1 ⟨T, S, w, h, du, pa, sh, gc, hq, wc, ⟨H, G, N, P, GA, NO, HE, WK⟩, C, a, k + 1, ha, by omega, i1, rfl, rfl, rfl, i5, fun i hii => ?_⟩ (by decide)⟩
      by_cases e3 : i = k
      · subst e3
        refine ⟨?_, ?_, ?_, ?_⟩
        · show vp_updL _ _ _ _ = vp_updL _ _ _ _
          rw [pk_uLs, pk_uLs]
        · show upd _ _ _ _ = upd _ _ _ _
          rw [pk_us, pk_us]
        · show Sub (vp_updL _ _ _ _) _
          rw [pk_uLs]; exact C
        · show SdOK (upd _ _ _ _)
          rw [pk_us]; exact S
      · have q := i6 i (by omega)
        refine ⟨?_, ?_, ?_, ?_⟩
        · show vp_updL _ _ _ _ = vp_updL _ _ _ _
          rw [pk_uLn e3, pk_uLn e3]; exact q.1
        · show upd _ _ _ _ = upd _ _ _ _
          rw [pk_un e3, pk_un e3]; exact q.2.1
        · show Sub (vp_updL _ _ _ _) _
          rw [pk_uLn e3]; exact q.2.2.1
        · show SdOK (upd _ _ _ _)
          rw [pk_un e3]; exact q.2.2.2
theorem op_back (z : Int32) : Step Inv EX10_back fZH EX12_back fZH [.int z] := by
  refine step_of (fun cl se tr fa fp tp tk rd hi sc pl dr wa wb rc th wh ta mo sd mq ma rdv a1 a2 a3 a4 => ?_) (fun cl se tr fa fp tp tk rd hi sc pl dr wa wb rc th wh ta ac mk mq ma me rdv a1 I => ?_)
  · have c1 : EX1_hasMark [.ref 5, .int z] (CH (0, cl, se, tr, fa, fp) tp tk rd hi sc pl dr wa wb rc) = some false := by
      rw [eX1_hasMark_s, qX1_hasMark_0, a4]
      by_cases hz : z < 0
      · rw [if_pos hz]
      · rw [if_neg hz, if_pos (Int32.not_lt.mp hz)]
    have e : EX10_back [.ref 0, .int z] (CH (0, cl, se, tr, fa, fp) tp tk rd hi sc pl dr wa wb rc) = some (false, CH (0, cl, se, 1, fa, fp) tp tk rd hi sc pl dr wa wb rc) := by
      rw [eX10_back_s_0, qX10_back_0_0, qX10_back_5_0 (h := c1), if_b2i, if_neg (by decide)]
    exact ⟨_, _, 0, _, _, e, rfl, rfl, rfl, inv0 a1 (by decide : (1 : Int32) ≠ 4) a3 a4⟩
  · obtain ⟨T, S, w, h, du, pa, sh, gc, hq, wc, ⟨H, G, N, P, GA, NO, HE, WK⟩, C, HI⟩ := id I
    have hn := H.n
    obtain ⟨a, k, ha, hk, i1, i2, i3, i4, i5, i6⟩ := HI
    subst i2 i4
    have c1 : EX1_hasMark [.ref 5, .int z] (CH (1, cl, se, tr, fa, fp) tp tk rd hi sc pl dr wa wb rc) = some (inr k z) := by
      rw [eX1_hasMark_s, qX1_hasMark_0, i3, inr_if]
      cases inr k z <;> rfl
    have e0 : ∀ {α : Type} (x y : α), (if z < 0 then x else if z < nI k then y else x) = (if inr k z = true then y else x) := fun x y => by
      rw [← inr_if]
      by_cases h1 : z < 0
      · rw [if_pos h1, if_pos h1]
      · rw [if_neg h1, if_neg h1]
        by_cases h2 : z < nI k
        · rw [if_pos h2, if_neg (fun h3 => absurd h2 (Int32.not_lt.mpr h3))]
        · rw [if_neg h2, if_pos (Int32.not_lt.mp h2)]
    cases hz : inr k z
    · have e : EX10_back [.ref 0, .int z] (CH (1, cl, se, tr, fa, fp) tp tk rd hi sc pl dr wa wb rc) = some (false, CH (1, cl, se, 1, fa, fp) tp tk rd hi sc pl dr wa wb rc) := by
        rw [eX10_back_s_1, qX10_back_0_1, qX10_back_5_1 (h := c1), hz, if_b2i, if_neg (by decide)]
      have e2 : EX12_back [.ref 0, .int z] (M1 (th, tr, wh, ta, fa, cl, se, nI a, nI k) mq ma me rdv) = some (false, M1 (0, 1, -1, ta, fa, cl, se, nI a, nI k) mq ma me rdv) := by
        rw [eX12_back_s_1, qX12_back_0_1, e0, hz, if_neg (by decide)]
      exact ⟨_, _, 0, _, _, e, e2, rfl, rfl, inv1 I (by decide)⟩
    · obtain ⟨j, hj, rfl⟩ := inr_true (by omega) hz
      have hin : ¬ (nI j < 0 ∨ 3 ≤ (nI j).toNatClampNeg) := nI_in (by omega) (by omega)
      have c2 : EX1_markedCells [.ref 5, .int (nI j)] (CH (1, cl, se, tr, fa, fp) tp tk rd hi sc pl dr wa wb rc) = some (hi.2.2.1 j) := by
        rw [eX1_markedCells_s, qX1_markedCells_0, if_neg (nI_pos (by omega)), l3, if_le (by omega) (by omega), if_neg (by omega), if_neg hin, nI_clamp (by omega)]
      have c3 : ∀ cl, EX1_markedSeed [.ref 5, .int (nI j)] (CH (1, cl, se, tr, fa, fp) tp tk rd hi sc pl dr wa wb rc) = some (hi.2.2.2.1 j) := fun cl => by
        rw [eX1_markedSeed_s, qX1_markedSeed_0, if_neg (nI_pos (by omega)), l3, if_le (by omega) (by omega), if_neg (by omega), if_neg hin, nI_clamp (by omega)]
      have e : EX10_back [.ref 0, .int (nI j)] (CH (1, cl, se, tr, fa, fp) tp tk rd hi sc pl dr wa wb rc) = some (true, CH (1, hi.2.2.1 j, hi.2.2.2.1 j, 0, fa, fp) tp tk rd (hi.1, hi.2.1, hi.2.2.1, hi.2.2.2.1, 0, hi.2.2.2.2.2) sc pl dr wa wb rc) := by
        rw [eX10_back_s_1, qX10_back_0_1, qX10_back_5_1 (h := c1), hz, if_b2i, if_pos rfl, qX10_back_23_1 (h := c2), qX10_back_35_1 (h := c3 _)]
      have e2 : EX12_back [.ref 0, .int (nI j)] (M1 (th, tr, wh, ta, fa, cl, se, nI a, nI k) mq ma me rdv) = some (true, M1 (0, 0, -1, ta, fa, hi.2.2.1 j, hi.2.2.2.1 j, 0, nI k) mq ma me rdv) := by
        rw [eX12_back_s_1, qX12_back_0_1, e0, hz, if_pos rfl, if_neg hin, if_neg hin, nI_clamp (by omega), (i6 j hj).1, (i6 j hj).2.1]
      exact ⟨_, _, 1, _, _, e, e2, rfl, rfl, inv1 ⟨T, (i6 j hj).2.2.2, w, h, du, pa, sh, gc, hq, wc, ⟨H, G, N, P, GA, NO, HE, WK⟩, (i6 j hj).2.2.1, 0, k, by omega, hk, rfl, rfl, i3, rfl, fun i hii => absurd hii (Nat.not_lt_zero i), i6⟩ (by decide)⟩
theorem op_seen (x y : Int32) : Step Inv EX10_seen fIH EX12_seen fIH [.int x, .int y] := by
  refine step_q (fun cl se tr fa fp tp tk rd hi sc pl dr wa wb rc th wh ta mo sd mq ma rdv _ _ => ⟨1, by decide, rfl, rfl⟩) (fun cl se tr fa fp tp tk rd hi sc pl dr wa wb rc th wh ta ac mk mq ma me rdv _ I => ?_)
  obtain ⟨T, S, w, h, du, pa, sh, gc, hq, wc, ⟨H, G, N, P, GA, NO, HE, WK⟩, C, HI⟩ := id I
  have hn := H.n
  cases hb : (inr w x && inr h y)
  · refine ⟨-1, 1, sc, wa, wb, rc, mq, ma, by decide, KeepMa.rf _, ?_, ?_⟩
    · rw [eX10_seen_s_1, qX10_seen_0_1, qX10_seen_3_1 (h := c_isCell G _ _), hb, if_b2i, if_neg (by decide)]
    · rw [eX12_seen_s_1, qX12_seen_0_1, qX12_seen_8_1 (h := m_isCell H N.1.1 N.1.2 _ _), hb, if_b2i, if_neg (by decide)]
  · rw [Bool.and_eq_true] at hb
    obtain ⟨X, hX, rfl⟩ := inr_true (by have := H.2.1; omega) hb.1
    obtain ⟨Y, hY, rfl⟩ := inr_true (by have := H.2.2.2; omega) hb.2
    have hb2 : (inr w (nI X) && inr h (nI Y)) = true := by rw [hb.1, hb.2]; rfl
    refine ⟨sev cl w Y X, 0, sc, wa, wb, rc, mq, ma, by decide, KeepMa.rf _, ?_, ?_⟩
    · rw [eX10_seen_s_1, qX10_seen_0_1, qX10_seen_3_1 (h := c_isCell G _ _), hb2, if_b2i, if_pos rfl, G.1, pk_mul, nI_add, qX10_seen_39_1 (h := e_seenWall H G hY hX)]
    · rw [eX12_seen_s_1, qX12_seen_0_1, qX12_seen_8_1 (h := m_isCell H N.1.1 N.1.2 _ _), hb2, if_b2i, if_pos rfl, N.1.1, pk_mul, nI_add, qX12_seen_22_1 (h := e_seenNow H N.1.1 hY hX)]
