/-! Weeks, the wall, splits: what both sides answer. -/
def nxX (w bb X : Nat) : Option Nat := if bb = 0 then some X else if bb = 1 then (if X = 0 then none else some (X - 1)) else (if X + 1 < w then some (X + 1) else none)
def fre (x : Int64) (w bb : Nat) : Nat → Nat → Bool
  | 0, _ => true
  | Y + 1, X => match nxX w bb X with
    | none => true
    | some X2 => tb x (w * Y + X2) && fre x w bb Y X2
def slt (bb : Nat) : Int32 := if bb = 0 then 0 else if bb = 1 then -1 else 1
theorem slt_ok : ∀ bb, bb < 3 → ∀ w, w < 9 → ∀ X, X < w → (match nxX w bb X with | none => true | some X2 => decide (nI X + slt bb = nI X2 ∧ X2 < w)) = true ∧ decide ((0 : Int32) ≤ nI X + slt bb ∧ nI X + slt bb ≤ nI w - 1) = (nxX w bb X).isSome := by decide +kernel
theorem slt_some {bb w X X2 : Nat} (hb : bb < 3) (hw : w < 9) (hX : X < w) (e : nxX w bb X = some X2) : nI X + slt bb = nI X2 ∧ X2 < w := by
  have := (slt_ok bb hb w hw X hX).1
  rw [e] at this
  exact of_decide_eq_true this
def sv (a b c : Bool) : Int32 := (((if a = true then 1 else 0) ||| (if b = true then 2 else 0)) ||| (if c = true then 4 else 0))
def sev (x : Int64) (w Y X : Nat) : Int32 := sv (fre x w 0 Y X) (fre x w 1 Y X) (fre x w 2 Y X)
theorem yx_lt {w h Y X : Nat} (hX : X < w) (hY : Y < h) : w * Y + X < w * h := by
  have : w * (Y + 1) ≤ w * h := Nat.mul_le_mul_left w hY
  rw [Nat.mul_succ] at this
  omega
theorem yx_mod {w Y X : Nat} (hX : X < w) : (w * Y + X) % w = X ∧ (w * Y + X) / w = Y := by
  constructor
  · rw [Nat.mul_add_mod, Nat.mod_eq_of_lt hX]
  · rw [Nat.mul_add_div (by omega), Nat.div_eq_of_lt hX, Nat.add_zero]
def wkl (g : GrS) (m gt : Int64) (sh : Int32) (n : Nat) : Int64 := clr m (fun c => (tb m c && !tb gt c) && !decide ((4 - nI (pcn (besd g (bitL (nI c)) &&& m))) < sh)) n
theorem wkl_in {g : GrS} {m gt : Int64} {sh : Int32} {n : Nat} (hn : n ≤ 64) {k : Nat} (hk : tb (wkl g m gt sh n) k = true) : tb m k = true := by
  unfold wkl at hk
  rw [tb_clr _ _ hn, Bool.and_eq_true] at hk
  exact hk.1
section
variable {mz : MzS} {tp : TpS} {tk : TkS} {rd : RdS} {hi : HiS} {sc : ScS} {pl : PlS} {dr : PlS} {wa : WaS} {wb : WaS} {rc : Nat → Int32} {w h : Nat} {m : Int64}
theorem e_along (H : WH w h) (G : GrOK pl.1 w h) {bb : Nat} (hb : bb < 3) {ed : Int64} (hed : ∀ X Y, X < w → Y < h → (tb ed (w * Y + X) = true ↔ nxX w bb X = none)) {Y X : Nat} (hY : Y < h) (hX : X < w) : EX0_isSeenAlong [.ref 15, .long m, .int (nI (w * Y + X)), .int (slt bb), .long ed] (CH mz tp tk rd hi sc pl dr wa wb rc) = some (fre m w bb Y X) := by
  have hn := H.n
  have g1 := G.1
  obtain ⟨k1, k2, k3, k4⟩ := id H
  rw [eX0_isSeenAlong_s, qX0_isSeenAlong_0]
  have key : ∀ Y X n i, Y < n → Y < h → X < w → i + Y ≤ 5 → lp BX0_isSeenAlong_6 n [(0, .ref 15), (1, .long m), (4, .int (slt bb)), (5, .long ed), (7, .int (nI (w * Y + X))), (8, .int (nI i))] [] (CH mz tp tk rd hi sc pl dr wa wb rc) = some (fre m w bb Y X) := by
    intro Y
    induction Y with
    | zero =>
      intro X n i hn2 hY hX hii
      obtain ⟨n, rfl⟩ : ∃ q, n = q + 1 := ⟨n - 1, by omega⟩
      show BX0_isSeenAlong_6 (lp BX0_isSeenAlong_6 n) _ _ _ = _
      rw [qX0_isSeenAlong_6, l6, if_le (by omega) (by omega), if_neg (by omega), g1, Nat.mul_zero, Nat.zero_add, if_lt (by omega) (by omega), if_pos hX]
      rfl
    | succ Y ih =>
      intro X n i hn2 hY hX hii
      obtain ⟨n, rfl⟩ : ∃ q, n = q + 1 := ⟨n - 1, by omega⟩
      have hc := yx_lt hX hY
      have hge : w ≤ w * (Y + 1) + X := by rw [Nat.mul_succ]; omega
      show BX0_isSeenAlong_6 (lp BX0_isSeenAlong_6 n) _ _ _ = _
      rw [qX0_isSeenAlong_6, l6, if_le (by omega) (by omega), if_neg (by omega), g1, if_lt (by omega) (by omega), if_neg (by omega), qX0_isSeenAlong_26 (h := e_isIn _ _ (by omega)), if_b2i, g1]
      cases hx : nxX w bb X with
      | none =>
        rw [if_pos ((hed X (Y + 1) hX hY).mpr hx)]
        show _ = some (match nxX w bb X with | none => true | some X2 => _)
        rw [hx]
      | some X2 =>
        obtain ⟨e1, e2⟩ := slt_some hb (by omega) hX hx
        have e3 : ¬ tb ed (w * (Y + 1) + X) = true := fun h5 => by
          rw [(hed X (Y + 1) hX hY).mp h5] at hx
          cases hx
        have e4 : nI (w * (Y + 1) + X) - nI w + slt bb = nI (w * Y + X2) := by
          rw [pk_sub hge, show w * (Y + 1) + X - w = w * Y + X by rw [Nat.mul_succ]; omega, ← nI_add, Int32.add_assoc, e1, nI_add]
        have hc2 := yx_lt e2 (show Y < h by omega)
        have e5 : fre m w bb (Y + 1) X = (tb m (w * Y + X2) && fre m w bb Y X2) := by
          show (match nxX w bb X with | none => true | some X2 => _) = _
          rw [hx]
        rw [if_neg e3, e4, qX0_isSeenAlong_49 (h := e_isIn _ _ (by omega)), if_b2i, e5]
        cases h5 : tb m (w * Y + X2)
        · rw [if_neg (by decide)]; rfl
        · rw [if_pos rfl, nI_1, ih X2 n (i + 1) (by omega) (by omega) e2 (by omega), Bool.true_and]
  exact key Y X FU 0 (by have := FU_ge; omega) hY hX (by omega)
theorem e_seenWall (H : WH w h) (G : GrOK pl.1 w h) {Y X : Nat} (hY : Y < h) (hX : X < w) : EX0_seenFromWall [.ref 15, .long m, .int (nI (w * Y + X))] (CH mz tp tk rd hi sc pl dr wa wb rc) = some (sev m w Y X) := by
  have a0 : EX0_isSeenAlong [.ref 15, .long m, .int (nI (w * Y + X)), .int 0, .long 0] (CH mz tp tk rd hi sc pl dr wa wb rc) = some (fre m w 0 Y X) := e_along (bb := 0) H G (by omega) (fun X Y hX _ => by rw [tb_0]; simp [nxX]) hY hX
  have a1 : EX0_isSeenAlong [.ref 15, .long m, .int (nI (w * Y + X)), .int (-1), .long pl.1.2.2.2.2.2.1] (CH mz tp tk rd hi sc pl dr wa wb rc) = some (fre m w 1 Y X) := e_along (bb := 1) H G (by omega) (fun X Y hX hY => by
    rw [G.2.2.2.2.1, (yx_mod hX).1]
    have := yx_lt hX hY
    simp [nxX, this]) hY hX
  have a2 : EX0_isSeenAlong [.ref 15, .long m, .int (nI (w * Y + X)), .int 1, .long pl.1.2.2.2.2.2.2] (CH mz tp tk rd hi sc pl dr wa wb rc) = some (fre m w 2 Y X) := e_along (bb := 2) H G (by omega) (fun X Y hX hY => by
    rw [G.2.2.2.2.2.1, (yx_mod hX).1]
    have := yx_lt hX hY
    simp [nxX, this]
    omega) hY hX
  rw [eX0_seenFromWall_s, qX0_seenFromWall_0, qX0_seenFromWall_5 (h := a0), if_b2i, qX0_seenFromWall_16, qX0_seenFromWall_16, qX0_seenFromWall_28 (h := a1), qX0_seenFromWall_28 (h := a1), if_b2i, if_b2i, qX0_seenFromWall_39, qX0_seenFromWall_39, qX0_seenFromWall_39, qX0_seenFromWall_39, qX0_seenFromWall_52 (h := a2), qX0_seenFromWall_52 (h := a2), qX0_seenFromWall_52 (h := a2), qX0_seenFromWall_52 (h := a2), if_b2i, if_b2i, if_b2i, if_b2i]
  unfold sev
  cases fre m w 0 Y X <;> cases fre m w 1 Y X <;> cases fre m w 2 Y X <;> rfl
theorem e_weekLater (H : WH w h) (G : GrOK pl.1 w h) (gt : Int64) (sh : Int32) : EX0_weekLater [.ref 15, .long m, .long gt, .int sh] (CH mz tp tk rd hi sc pl dr wa wb rc) = some (wkl pl.1 m gt sh (w * h)) := by
  have hn := H.n
  have g3 := G.2.2.1
  rw [eX0_weekLater_s, qX0_weekLater_0]
  refine lp_run (fun c => [(0, .ref 15), (1, .long m), (3, .long gt), (5, .int sh), (6, .long (wkl pl.1 m gt sh c)), (8, .int (nI c))]) (fun _ => CH mz tp tk rd hi sc pl dr wa wb rc) (t := w * h) (by have := FU_ge; omega) (fun c hc k => ?_) (fun k => ?_)
  · rw [qX0_weekLater_6, g3, if_le (by omega) (by omega), if_neg (by omega), qX0_weekLater_24 (h := e_isIn _ _ (by omega)), if_b2i, nI_1, tb_andnot, bcnt_eq]
    by_cases h1 : (tb m c && !tb gt c) = true
    · rw [if_pos h1]
      by_cases h2 : (4 - nI (pcn (besd pl.1 (bitL (nI c)) &&& m))) < sh
      · rw [if_pos h2, show wkl pl.1 m gt sh (c + 1) = wkl pl.1 m gt sh c from if_neg (by simp [h2])]
      · rw [if_neg h2, show wkl pl.1 m gt sh (c + 1) = wkl pl.1 m gt sh c &&& (bitL (nI c) ^^^ (-1)) from if_pos (by simp only [h1, decide_eq_false h2]; rfl)]
    · rw [if_neg h1, show wkl pl.1 m gt sh (c + 1) = wkl pl.1 m gt sh c from if_neg (fun h5 => by rw [Bool.and_eq_true] at h5; exact h1 h5.1)]
  · rw [qX0_weekLater_6, g3, if_le (by omega) (by omega), if_pos (by omega)]
end
section
variable {mp : MpS} {mq : MsS} {ma : MaS} {me : MeS} {rdv : Value} {w h : Nat} {x : Int64} {g : GrS}
theorem e_isGate {c : Nat} (hc : c < 64) : EX12_isGate [.ref 0, .int (nI c)] (M1 mp mq ma me rdv) = some (tb me.2.1.2.2.2.2.2 c) := by
  rw [eX12_isGate_s, qX12_isGate_0, qX12_isGate_8 (h := e_has _ _ hc), zb_b2i]
theorem e_weekOf (H : WH w h) (G : GrOK g w h) (h1 : me.1.1 = nI w) (h2 : me.1.2.1 = nI h) : EX12_weekOf [.ref 0, .long x] (M1 mp mq ma me rdv) = some (wkl g x me.2.1.2.2.2.2.2 me.1.2.2.2.2.1 (w * h)) := by
  have hn := H.n
  rw [eX12_weekOf_s, qX12_weekOf_0]
  refine lp_run (fun c => [(0, .ref 0), (1, .long x), (3, .long (wkl g x me.2.1.2.2.2.2.2 me.1.2.2.2.2.1 c)), (5, .int (nI c))]) (fun _ => M1 mp mq ma me rdv) (t := w * h) (by have := FU_ge; omega) (fun c hc k => ?_) (fun k => ?_)
  · rw [qX12_weekOf_5, h1, h2, pk_mul, if_le (by omega) (by omega), if_neg (by omega), qX12_weekOf_20 (h := e_has _ _ (by omega)), if_b2i, nI_1, qX12_weekOf_29 (h := e_isGate (by omega)), if_b2i, qX12_weekOf_40 (h := e_besideOf H G h1 h2 hc), qX12_weekOf_43 (h := e_bits _ _), nI_1]
    by_cases k1 : tb x c = true
    · rw [if_pos k1]
      by_cases k2 : tb me.2.1.2.2.2.2.2 c = true
      · rw [if_pos k2, show wkl g x me.2.1.2.2.2.2.2 me.1.2.2.2.2.1 (c + 1) = wkl g x me.2.1.2.2.2.2.2 me.1.2.2.2.2.1 c from if_neg (by simp [k2])]
      · rw [if_neg k2]
        by_cases k3 : (4 - nI (pcn (besd g (bitL (nI c)) &&& x))) < me.1.2.2.2.2.1
        · rw [if_pos k3, show wkl g x me.2.1.2.2.2.2.2 me.1.2.2.2.2.1 (c + 1) = wkl g x me.2.1.2.2.2.2.2 me.1.2.2.2.2.1 c from if_neg (by simp [k3])]
        · rw [if_neg k3, show wkl g x me.2.1.2.2.2.2.2 me.1.2.2.2.2.1 (c + 1) = wkl g x me.2.1.2.2.2.2.2 me.1.2.2.2.2.1 c &&& (bitL (nI c) ^^^ (-1)) from if_pos (by simp only [decide_eq_false k3, k1]; simp [k2])]
    · rw [if_neg k1, show wkl g x me.2.1.2.2.2.2.2 me.1.2.2.2.2.1 (c + 1) = wkl g x me.2.1.2.2.2.2.2 me.1.2.2.2.2.1 c from if_neg (by simp [k1])]
  · rw [qX12_weekOf_5, h1, h2, pk_mul, if_le (by omega) (by omega), if_pos (by omega)]
theorem e_isFree (H : WH w h) (h1 : me.1.1 = nI w) {bb : Nat} (hb : bb < 3) {Y X : Nat} (hY : Y < h) (hX : X < w) : EX12_isFree [.ref 0, .int (nI (w * Y + X)), .int (slt bb)] (M1 mp mq ma me rdv) = some (fre mp.2.2.2.2.2.1 w bb Y X) := by
  have hn := H.n
  obtain ⟨k1, k2, k3, k4⟩ := id H
  have hc := yx_lt hX hY
  have key : ∀ Y X n, Y < n → Y < h → X < w → lp BX12_isFree_25 n [(0, .ref 0), (2, .int (slt bb)), (3, .int (nI X + slt bb)), (4, .int (nI Y - 1))] [] (M1 mp mq ma me rdv) = some (fre mp.2.2.2.2.2.1 w bb Y X) := by
    intro Y
    induction Y with
    | zero =>
      intro X n hn2 hY hX
      obtain ⟨n, rfl⟩ : ∃ q, n = q + 1 := ⟨n - 1, by omega⟩
      show BX12_isFree_25 (lp BX12_isFree_25 n) _ _ _ = _
      rw [qX12_isFree_25, if_pos (show nI 0 - 1 < 0 by decide)]
      rfl
    | succ Y ih =>
      intro X n hn2 hY hX
      obtain ⟨n, rfl⟩ : ∃ q, n = q + 1 := ⟨n - 1, by omega⟩
      show BX12_isFree_25 (lp BX12_isFree_25 n) _ _ _ = _
      rw [qX12_isFree_25, nI_pred, if_neg (nI_pos (by omega)), qX12_isFree_41 (h := e_in _ _ _ _), if_b2i, h1, (slt_ok bb hb w (by omega) X hX).2]
      cases hx : nxX w bb X with
      | none =>
        rw [if_neg (by decide)]
        show _ = some (match nxX w bb X with | none => true | some X2 => _)
        rw [hx]
      | some X2 =>
        obtain ⟨e1, e2⟩ := slt_some hb (by omega) hX hx
        have hc2 := yx_lt e2 (show Y < h by omega)
        have e5 : fre mp.2.2.2.2.2.1 w bb (Y + 1) X = (tb mp.2.2.2.2.2.1 (w * Y + X2) && fre mp.2.2.2.2.2.1 w bb Y X2) := by
          show (match nxX w bb X with | none => true | some X2 => _) = _
          rw [hx]
        rw [if_pos (show (some X2).isSome = true from rfl), e1, pk_mul, nI_add, qX12_isFree_58 (h := e_has _ _ (by omega)), if_b2i, e5]
        cases h5 : tb mp.2.2.2.2.2.1 (w * Y + X2)
        · rw [if_neg (by decide)]; rfl
        · rw [if_pos rfl, ← Int32.sub_eq_add_neg, ih X2 n (by omega) (by omega) e2, Bool.true_and]
  have hr : nI (w * Y + X) - nI (w * Y + X) / nI w * nI w = nI X := by rw [pk_rem (by omega) (by omega) (by omega), (yx_mod hX).1]
  have hd : nI (w * Y + X) / nI w = nI Y := by rw [pk_div (by omega) (by omega) (by omega), (yx_mod hX).2]
  rw [eX12_isFree_s, qX12_isFree_0, h1, if_pos (nI_ne0 (by omega) (by omega)), if_pos (nI_ne0 (by omega) (by omega)), hr, hd]
  exact key Y X FU (by have := FU_ge; omega) hY hX
theorem e_seenNow (H : WH w h) (h1 : me.1.1 = nI w) {Y X : Nat} (hY : Y < h) (hX : X < w) : EX12_seenNow [.ref 0, .int (nI (w * Y + X))] (M1 mp mq ma me rdv) = some (sev mp.2.2.2.2.2.1 w Y X) := by
  have a0 : EX12_isFree [.ref 0, .int (nI (w * Y + X)), .int 0] (M1 mp mq ma me rdv) = some (fre mp.2.2.2.2.2.1 w 0 Y X) := e_isFree (bb := 0) H h1 (by omega) hY hX
  have a1 : EX12_isFree [.ref 0, .int (nI (w * Y + X)), .int (-1)] (M1 mp mq ma me rdv) = some (fre mp.2.2.2.2.2.1 w 1 Y X) := e_isFree (bb := 1) H h1 (by omega) hY hX
  have a2 : EX12_isFree [.ref 0, .int (nI (w * Y + X)), .int 1] (M1 mp mq ma me rdv) = some (fre mp.2.2.2.2.2.1 w 2 Y X) := e_isFree (bb := 2) H h1 (by omega) hY hX
  rw [eX12_seenNow_s, qX12_seenNow_0, qX12_seenNow_3 (h := a0), if_b2i, qX12_seenNow_14, qX12_seenNow_14, qX12_seenNow_17 (h := a1), qX12_seenNow_17 (h := a1), if_b2i, if_b2i, qX12_seenNow_28, qX12_seenNow_28, qX12_seenNow_28, qX12_seenNow_28, qX12_seenNow_32 (h := a2), qX12_seenNow_32 (h := a2), qX12_seenNow_32 (h := a2), qX12_seenNow_32 (h := a2), if_b2i, if_b2i, if_b2i, if_b2i]
  unfold sev
  cases fre mp.2.2.2.2.2.1 w 0 Y X <;> cases fre mp.2.2.2.2.2.1 w 1 Y X <;> cases fre mp.2.2.2.2.2.1 w 2 Y X <;> rfl
theorem e_splitsAt (H : WH w h) (G : GrOK g w h) (h1 : me.1.1 = nI w) (h2 : me.1.2.1 = nI h) (hx : Sub mp.2.2.2.2.2.1 (w * h)) {c : Nat} (hc : c < w * h) : ∃ F Q, EX12_splitsAt [.ref 0, .int (nI c)] (M1 mp mq ma me rdv) = some (tb mp.2.2.2.2.2.1 c && decide (prt g mp.2.2.2.2.2.1 < prt g (mp.2.2.2.2.2.1 &&& (bitL (nI c) ^^^ (-1)))), M1 mp mq (sFQ ma F Q) me rdv) := by
  have hn := H.n
  rw [eX12_splitsAt_s, qX12_splitsAt_0, qX12_splitsAt_5 (h := e_has _ _ (by omega)), if_b2i]
  by_cases k1 : tb mp.2.2.2.2.2.1 c = true
  · obtain ⟨F, Q, e1⟩ := e_partsOf (mp := mp) (mq := mq) (ma := ma) (rdv := rdv) H G h1 h2 (Sub_andl (y := bitL (nI c) ^^^ (-1)) hx)
    obtain ⟨F2, Q2, e2⟩ := e_partsOf (mp := mp) (mq := mq) (ma := sFQ ma F Q) (rdv := rdv) H G h1 h2 hx
    have q1 := prt_le (g := g) H hx
    have q2 := prt_le (g := g) H (Sub_andl (y := bitL (nI c) ^^^ (-1)) hx)
    refine ⟨F2, Q2, ?_⟩
    rw [if_pos k1, qX12_splitsAt_24 (h := e1), qX12_splitsAt_32 (h := e2), if_le (by omega) (by omega), k1]
    by_cases k2 : prt g mp.2.2.2.2.2.1 < prt g (mp.2.2.2.2.2.1 &&& (bitL (nI c) ^^^ (-1)))
    · rw [if_neg (by omega), decide_eq_true k2]; rfl
    · rw [if_pos (by omega), decide_eq_false k2]; rfl
  · refine ⟨ma.2.2.1, ma.2.2.2.1, ?_⟩
    rw [if_neg k1]
    cases k2 : tb mp.2.2.2.2.2.1 c
    · rfl
    · exact absurd k2 k1
end
