section
variable (mz : MzS) (tp : TpS) (tk : TkS) (rd : RdS) (hi : HiS) (sc : ScS) (pl : PlS) (dr : PlS) (wa : WaS) (wb : WaS) (rc : (Nat → Int32))
theorem eX0_measure_sr (m : Int64) (c : Int32) : EX0_measure [.ref 15, .long m, .int c, .ref 52] (CH mz tp tk rd hi sc pl dr wa wb rc) = BX0_measure_0 [(0, .ref 15), (1, .long m), (3, .int c), (4, .ref 52)] [] (CH mz tp tk rd hi sc pl dr wa wb rc) := rfl
theorem qX0_measure_0r (m : Int64) (c : Int32) : BX0_measure_0 [(0, .ref 15), (1, .long m), (3, .int c), (4, .ref 52)] [] (CH mz tp tk rd hi sc pl dr wa wb rc) =
    lp (BX0_measure_3) FU [(0, .ref 15), (1, .long m), (3, .int c), (4, .ref 52), (5, .int 0)] [] (CH mz tp tk rd hi sc pl dr wa wb rc) := rfl
theorem qX0_measure_3r (k3 : KT HP) (m : Int64) (c : Int32) (v5 : Int32) : BX0_measure_3 k3 [(0, .ref 15), (1, .long m), (3, .int c), (4, .ref 52), (5, .int v5)] [] (CH mz tp tk rd hi sc pl dr wa wb rc) =
    (if (48 : Int32) ≤ v5 then lp (BX0_measure_39) FU [(0, .ref 15), (1, .long m), (4, .ref 52), (5, .long ((bitL c) &&& m)), (7, .long ((bitL c) &&& m)), (9, .int 0)] [] (CH mz tp tk rd hi sc pl dr wa wb rc) else (if v5 < 0 ∨ 48 ≤ v5.toNatClampNeg then none else k3 [(0, .ref 15), (1, .long m), (3, .int c), (4, .ref 52), (5, .int (v5 + 1))] [] (CH mz tp tk rd hi sc pl dr wa wb (upd rc v5.toNatClampNeg (-2))))) := rfl
theorem qX0_measure_39r (k39 : KT HP) (m : Int64) (v5 : Int64) (v7 : Int64) (v9 : Int32) : BX0_measure_39 k39 [(0, .ref 15), (1, .long m), (4, .ref 52), (5, .long v5), (7, .long v7), (9, .int v9)] [] (CH mz tp tk rd hi sc pl dr wa wb rc) =
    (if (48 : Int32) ≤ v9 then some (CH mz tp tk rd hi sc pl dr wa wb rc) else (if (lg_cmp v5 0) = 0 then some (CH mz tp tk rd hi sc pl dr wa wb rc) else lp (BX0_measure_56 k39) FU [(0, .ref 15), (1, .long m), (4, .ref 52), (5, .long v5), (7, .long v7), (9, .int v9), (10, .int 0)] [] (CH mz tp tk rd hi sc pl dr wa wb rc))) := rfl
theorem qX0_measure_56r (k39 : KT HP) (k56 : KT HP) (m : Int64) (v5 : Int64) (v7 : Int64) (v9 : Int32) (v10 : Int32) : BX0_measure_56 k39 k56 [(0, .ref 15), (1, .long m), (4, .ref 52), (5, .long v5), (7, .long v7), (9, .int v9), (10, .int v10)] [] (CH mz tp tk rd hi sc pl dr wa wb rc) =
    (if (48 : Int32) ≤ v10 then k39 [(0, .ref 15), (1, .long m), (4, .ref 52), (5, .long (((besd pl.1 v5) &&& m) &&& (v7 ^^^ (-1)))), (7, .long (v7 ||| (((besd pl.1 v5) &&& m) &&& (v7 ^^^ (-1))))), (9, .int (v9 + 1))] [] (CH mz tp tk rd hi sc pl dr wa wb rc) else (BX0_measure_68 k39 k56) [(0, .ref 15), (1, .long m), (4, .ref 52), (5, .long v5), (7, .long v7), (9, .int v9), (10, .int v10)] [.int v10, .long v5] (CH mz tp tk rd hi sc pl dr wa wb rc)) := rfl
theorem qX0_measure_68r (k39 : KT HP) (k56 : KT HP) (m : Int64) (v5 : Int64) (v7 : Int64) (v9 : Int32) (v10 : Int32) (s0 : Int32) (s1 : Int64) {r : Bool} (h : EX10_isIn [.long s1, .int s0] (CH mz tp tk rd hi sc pl dr wa wb rc) = some r) : BX0_measure_68 k39 k56 [(0, .ref 15), (1, .long m), (4, .ref 52), (5, .long v5), (7, .long v7), (9, .int v9), (10, .int v10)] [.int s0, .long s1] (CH mz tp tk rd hi sc pl dr wa wb rc) =
    (if (b2i r) = 0 then k56 [(0, .ref 15), (1, .long m), (4, .ref 52), (5, .long v5), (7, .long v7), (9, .int v9), (10, .int (v10 + 1))] [] (CH mz tp tk rd hi sc pl dr wa wb rc) else (if v10 < 0 ∨ 48 ≤ v10.toNatClampNeg then none else k56 [(0, .ref 15), (1, .long m), (4, .ref 52), (5, .long v5), (7, .long v7), (9, .int v9), (10, .int (v10 + 1))] [] (CH mz tp tk rd hi sc pl dr wa wb (upd rc v10.toNatClampNeg v9)))) := (cal_eq h rfl rfl (chk_rf _ _ _)).trans rfl
theorem eX0_measure_sa (m : Int64) (c : Int32) : EX0_measure [.ref 15, .long m, .int c, .ref 47] (CH mz tp tk rd hi sc pl dr wa wb rc) = BX0_measure_0 [(0, .ref 15), (1, .long m), (3, .int c), (4, .ref 47)] [] (CH mz tp tk rd hi sc pl dr wa wb rc) := rfl
theorem qX0_measure_0a (m : Int64) (c : Int32) : BX0_measure_0 [(0, .ref 15), (1, .long m), (3, .int c), (4, .ref 47)] [] (CH mz tp tk rd hi sc pl dr wa wb rc) =
    lp (BX0_measure_3) FU [(0, .ref 15), (1, .long m), (3, .int c), (4, .ref 47), (5, .int 0)] [] (CH mz tp tk rd hi sc pl dr wa wb rc) := rfl
theorem qX0_measure_3a (k3 : KT HP) (m : Int64) (c : Int32) (v5 : Int32) : BX0_measure_3 k3 [(0, .ref 15), (1, .long m), (3, .int c), (4, .ref 47), (5, .int v5)] [] (CH mz tp tk rd hi sc pl dr wa wb rc) =
    (if (48 : Int32) ≤ v5 then lp (BX0_measure_39) FU [(0, .ref 15), (1, .long m), (4, .ref 47), (5, .long ((bitL c) &&& m)), (7, .long ((bitL c) &&& m)), (9, .int 0)] [] (CH mz tp tk rd hi sc pl dr wa wb rc) else (if v5 < 0 ∨ 48 ≤ v5.toNatClampNeg then none else k3 [(0, .ref 15), (1, .long m), (3, .int c), (4, .ref 47), (5, .int (v5 + 1))] [] (CH mz tp tk rd hi sc pl dr ((wa.1.1, wa.1.2.1, (upd wa.1.2.2 v5.toNatClampNeg (-2))), wa.2.1, wa.2.2) wb rc))) := rfl
theorem qX0_measure_39a (k39 : KT HP) (m : Int64) (v5 : Int64) (v7 : Int64) (v9 : Int32) : BX0_measure_39 k39 [(0, .ref 15), (1, .long m), (4, .ref 47), (5, .long v5), (7, .long v7), (9, .int v9)] [] (CH mz tp tk rd hi sc pl dr wa wb rc) =
    (if (48 : Int32) ≤ v9 then some (CH mz tp tk rd hi sc pl dr wa wb rc) else (if (lg_cmp v5 0) = 0 then some (CH mz tp tk rd hi sc pl dr wa wb rc) else lp (BX0_measure_56 k39) FU [(0, .ref 15), (1, .long m), (4, .ref 47), (5, .long v5), (7, .long v7), (9, .int v9), (10, .int 0)] [] (CH mz tp tk rd hi sc pl dr wa wb rc))) := rfl
theorem qX0_measure_56a (k39 : KT HP) (k56 : KT HP) (m : Int64) (v5 : Int64) (v7 : Int64) (v9 : Int32) (v10 : Int32) : BX0_measure_56 k39 k56 [(0, .ref 15), (1, .long m), (4, .ref 47), (5, .long v5), (7, .long v7), (9, .int v9), (10, .int v10)] [] (CH mz tp tk rd hi sc pl dr wa wb rc) =
    (if (48 : Int32) ≤ v10 then k39 [(0, .ref 15), (1, .long m), (4, .ref 47), (5, .long (((besd pl.1 v5) &&& m) &&& (v7 ^^^ (-1)))), (7, .long (v7 ||| (((besd pl.1 v5) &&& m) &&& (v7 ^^^ (-1))))), (9, .int (v9 + 1))] [] (CH mz tp tk rd hi sc pl dr wa wb rc) else (BX0_measure_68 k39 k56) [(0, .ref 15), (1, .long m), (4, .ref 47), (5, .long v5), (7, .long v7), (9, .int v9), (10, .int v10)] [.int v10, .long v5] (CH mz tp tk rd hi sc pl dr wa wb rc)) := rfl
theorem qX0_measure_68a (k39 : KT HP) (k56 : KT HP) (m : Int64) (v5 : Int64) (v7 : Int64) (v9 : Int32) (v10 : Int32) (s0 : Int32) (s1 : Int64) {r : Bool} (h : EX10_isIn [.long s1, .int s0] (CH mz tp tk rd hi sc pl dr wa wb rc) = some r) : BX0_measure_68 k39 k56 [(0, .ref 15), (1, .long m), (4, .ref 47), (5, .long v5), (7, .long v7), (9, .int v9), (10, .int v10)] [.int s0, .long s1] (CH mz tp tk rd hi sc pl dr wa wb rc) =
    (if (b2i r) = 0 then k56 [(0, .ref 15), (1, .long m), (4, .ref 47), (5, .long v5), (7, .long v7), (9, .int v9), (10, .int (v10 + 1))] [] (CH mz tp tk rd hi sc pl dr wa wb rc) else (if v10 < 0 ∨ 48 ≤ v10.toNatClampNeg then none else k56 [(0, .ref 15), (1, .long m), (4, .ref 47), (5, .long v5), (7, .long v7), (9, .int v9), (10, .int (v10 + 1))] [] (CH mz tp tk rd hi sc pl dr ((wa.1.1, wa.1.2.1, (upd wa.1.2.2 v10.toNatClampNeg v9)), wa.2.1, wa.2.2) wb rc))) := (cal_eq h rfl rfl (chk_rf _ _ _)).trans rfl
theorem eX0_measure_sb (m : Int64) (c : Int32) : EX0_measure [.ref 15, .long m, .int c, .ref 51] (CH mz tp tk rd hi sc pl dr wa wb rc) = BX0_measure_0 [(0, .ref 15), (1, .long m), (3, .int c), (4, .ref 51)] [] (CH mz tp tk rd hi sc pl dr wa wb rc) := rfl
theorem qX0_measure_0b (m : Int64) (c : Int32) : BX0_measure_0 [(0, .ref 15), (1, .long m), (3, .int c), (4, .ref 51)] [] (CH mz tp tk rd hi sc pl dr wa wb rc) =
    lp (BX0_measure_3) FU [(0, .ref 15), (1, .long m), (3, .int c), (4, .ref 51), (5, .int 0)] [] (CH mz tp tk rd hi sc pl dr wa wb rc) := rfl
theorem qX0_measure_3b (k3 : KT HP) (m : Int64) (c : Int32) (v5 : Int32) : BX0_measure_3 k3 [(0, .ref 15), (1, .long m), (3, .int c), (4, .ref 51), (5, .int v5)] [] (CH mz tp tk rd hi sc pl dr wa wb rc) =
    (if (48 : Int32) ≤ v5 then lp (BX0_measure_39) FU [(0, .ref 15), (1, .long m), (4, .ref 51), (5, .long ((bitL c) &&& m)), (7, .long ((bitL c) &&& m)), (9, .int 0)] [] (CH mz tp tk rd hi sc pl dr wa wb rc) else (if v5 < 0 ∨ 48 ≤ v5.toNatClampNeg then none else k3 [(0, .ref 15), (1, .long m), (3, .int c), (4, .ref 51), (5, .int (v5 + 1))] [] (CH mz tp tk rd hi sc pl dr wa ((wb.1.1, wb.1.2.1, (upd wb.1.2.2 v5.toNatClampNeg (-2))), wb.2.1, wb.2.2) rc))) := rfl
theorem qX0_measure_39b (k39 : KT HP) (m : Int64) (v5 : Int64) (v7 : Int64) (v9 : Int32) : BX0_measure_39 k39 [(0, .ref 15), (1, .long m), (4, .ref 51), (5, .long v5), (7, .long v7), (9, .int v9)] [] (CH mz tp tk rd hi sc pl dr wa wb rc) =
    (if (48 : Int32) ≤ v9 then some (CH mz tp tk rd hi sc pl dr wa wb rc) else (if (lg_cmp v5 0) = 0 then some (CH mz tp tk rd hi sc pl dr wa wb rc) else lp (BX0_measure_56 k39) FU [(0, .ref 15), (1, .long m), (4, .ref 51), (5, .long v5), (7, .long v7), (9, .int v9), (10, .int 0)] [] (CH mz tp tk rd hi sc pl dr wa wb rc))) := rfl
theorem qX0_measure_56b (k39 : KT HP) (k56 : KT HP) (m : Int64) (v5 : Int64) (v7 : Int64) (v9 : Int32) (v10 : Int32) : BX0_measure_56 k39 k56 [(0, .ref 15), (1, .long m), (4, .ref 51), (5, .long v5), (7, .long v7), (9, .int v9), (10, .int v10)] [] (CH mz tp tk rd hi sc pl dr wa wb rc) =
    (if (48 : Int32) ≤ v10 then k39 [(0, .ref 15), (1, .long m), (4, .ref 51), (5, .long (((besd pl.1 v5) &&& m) &&& (v7 ^^^ (-1)))), (7, .long (v7 ||| (((besd pl.1 v5) &&& m) &&& (v7 ^^^ (-1))))), (9, .int (v9 + 1))] [] (CH mz tp tk rd hi sc pl dr wa wb rc) else (BX0_measure_68 k39 k56) [(0, .ref 15), (1, .long m), (4, .ref 51), (5, .long v5), (7, .long v7), (9, .int v9), (10, .int v10)] [.int v10, .long v5] (CH mz tp tk rd hi sc pl dr wa wb rc)) := rfl
theorem qX0_measure_68b (k39 : KT HP) (k56 : KT HP) (m : Int64) (v5 : Int64) (v7 : Int64) (v9 : Int32) (v10 : Int32) (s0 : Int32) (s1 : Int64) {r : Bool} (h : EX10_isIn [.long s1, .int s0] (CH mz tp tk rd hi sc pl dr wa wb rc) = some r) : BX0_measure_68 k39 k56 [(0, .ref 15), (1, .long m), (4, .ref 51), (5, .long v5), (7, .long v7), (9, .int v9), (10, .int v10)] [.int s0, .long s1] (CH mz tp tk rd hi sc pl dr wa wb rc) =
    (if (b2i r) = 0 then k56 [(0, .ref 15), (1, .long m), (4, .ref 51), (5, .long v5), (7, .long v7), (9, .int v9), (10, .int (v10 + 1))] [] (CH mz tp tk rd hi sc pl dr wa wb rc) else (if v10 < 0 ∨ 48 ≤ v10.toNatClampNeg then none else k56 [(0, .ref 15), (1, .long m), (4, .ref 51), (5, .long v5), (7, .long v7), (9, .int v9), (10, .int (v10 + 1))] [] (CH mz tp tk rd hi sc pl dr wa ((wb.1.1, wb.1.2.1, (upd wb.1.2.2 v10.toNatClampNeg v9)), wb.2.1, wb.2.2) rc))) := (cal_eq h rfl rfl (chk_rf _ _ _)).trans rfl
end
/-! The class' ground: floods, steps. -/
theorem if_b2i {α : Type} (r : Bool) (x y : α) : (if b2i r = 0 then x else y) = (if r = true then y else x) := by cases r <;> rfl
theorem lg0 {α : Type} (v : Int64) (x y : α) : (if lg_cmp v 0 = 0 then x else y) = (if v = 0 then x else y) := by
  by_cases h : v = 0
  · rw [if_pos h, if_pos ((lgc0 _ _).mpr h)]
  · rw [if_neg h, if_neg (fun h2 => h ((lgc0 _ _).mp h2))]
theorem if_le {α : Type} {a b : Nat} (ha : a < 2 ^ 31) (hb : b < 2 ^ 31) (x y : α) : (if nI a ≤ nI b then x else y) = (if a ≤ b then x else y) := by
  by_cases h : a ≤ b
  · rw [if_pos h, if_pos ((nI_leI ha hb).mpr h)]
  · rw [if_neg h, if_neg (fun h2 => h ((nI_leI ha hb).mp h2))]
theorem if_lt {α : Type} {a b : Nat} (ha : a < 2 ^ 31) (hb : b < 2 ^ 31) (x y : α) : (if nI a < nI b then x else y) = (if a < b then x else y) := by
  by_cases h : a < b
  · rw [if_pos h, if_pos ((nI_ltI ha hb).mpr h)]
  · rw [if_neg h, if_neg (fun h2 => h ((nI_ltI ha hb).mp h2))]
theorem if_eq {α : Type} {a b : Nat} (ha : a < 2 ^ 31) (hb : b < 2 ^ 31) (x y : α) : (if nI a = nI b then x else y) = (if a = b then x else y) := by
  by_cases h : a = b
  · rw [if_pos h, if_pos ((nI_eq ha hb).mpr h)]
  · rw [if_neg h, if_neg (fun h2 => h ((nI_eq ha hb).mp h2))]
theorem upd_fill (f : Nat → Int32) (x : Int32) (i : Nat) : upd (fun k => if k < i then x else f k) i x = (fun k => if k < i + 1 then x else f k) := by
  funext k
  by_cases h : k = i
  · subst h; rw [pk_us, if_pos (by omega)]
  · rw [pk_un h]
    by_cases h2 : k < i
    · rw [if_pos h2, if_pos (by omega)]
    · rw [if_neg h2, if_neg (by omega)]
theorem fill_0 (f : Nat → Int32) (x : Int32) : (fun k => if k < 0 then x else f k) = f := by
  funext k
  rw [if_neg (by omega)]
theorem bit_in {m : Int64} {c : Nat} : ∀ k, tb (bitL (nI c) &&& m) k = true → tb m k = true := fun k hk => by
  rw [tb_and, Bool.and_eq_true] at hk
  exact hk.2
section
variable {mz : MzS} {tp : TpS} {tk : TkS} {rd : RdS} {hi : HiS} {sc : ScS} {pl : PlS} {dr : PlS} {wa : WaS} {wb : WaS} {rc : Nat → Int32} {w h : Nat} {m f : Int64}
/-- the first level that is empty -/
theorem FR_first (H : WH w h) (G : GrOK pl.1 w h) (hm : Sub m (w * h)) (hf : ∀ k, tb f k = true → tb m k = true) : ∃ t, t ≤ 48 ∧ (FR pl.1 m f t).1 = 0 ∧ ∀ j, j < t → (FR pl.1 m f j).1 ≠ 0 := by
  obtain ⟨t, h1, h2, h3⟩ := fb_first (p := fun k => (FR pl.1 m f k).1 = 0) (n := 49) ⟨48, by omega, FR_end H G hm hf (Nat.le_refl 48)⟩
  exact ⟨t, by omega, h2, h3⟩
theorem e_flood (H : WH w h) (G : GrOK pl.1 w h) (hm : Sub m (w * h)) (hf : ∀ k, tb f k = true → tb m k = true) : EX0_flood [.ref 15, .long m, .long f] (CH mz tp tk rd hi sc pl dr wa wb rc) = some (FL pl.1 m f) := by
  obtain ⟨t, ht, h0, hl⟩ := FR_first H G hm hf
  rw [eX0_flood_s, qX0_flood_0]
  refine lp_run (fun i => [(0, .ref 15), (1, .long m), (5, .long (FR pl.1 m f i).2), (7, .long (FR pl.1 m f i).1), (9, .int (nI i))]) (fun _ => CH mz tp tk rd hi sc pl dr wa wb rc) (t := t) (by have := FU_ge; omega) (fun c hc k => ?_) (fun k => ?_)
  · rw [qX0_flood_9, l48, if_le (by omega) (by omega), if_neg (by omega), lg0, if_neg (hl c hc), nI_1]
    rfl
  · rw [qX0_flood_9, lg0, if_pos h0, ite_self, ← FR_stay H G hm hf h0 ht]
theorem e_atSteps (n : Nat) (hn : n ≤ 60) (c : Int32) : EX0_cellsAtSteps [.ref 15, .long m, .int c, .int (nI n)] (CH mz tp tk rd hi sc pl dr wa wb rc) = some (FR pl.1 m (bitL c &&& m) n).1 := by
  rw [eX0_cellsAtSteps_s, qX0_cellsAtSteps_0]
  refine lp_run (fun i => [(0, .ref 15), (1, .long m), (4, .int (nI n)), (5, .long (FR pl.1 m (bitL c &&& m) i).1), (7, .long (FR pl.1 m (bitL c &&& m) i).2), (9, .int (nI i))]) (fun _ => CH mz tp tk rd hi sc pl dr wa wb rc) (t := n) (by have := FU_ge; omega) (fun c hc k => ?_) (fun k => ?_)
  · rw [qX0_cellsAtSteps_15, if_le (by omega) (by omega), if_neg (by omega), nI_1]
    rfl
  · rw [qX0_cellsAtSteps_15, if_le (by omega) (by omega), if_pos (by omega)]
theorem e_cntBeside (c : Int32) : EX0_countBeside [.ref 15, .long m, .int c] (CH mz tp tk rd hi sc pl dr wa wb rc) = some (nI (pcn (besd pl.1 (bitL c) &&& m))) := by
  rw [eX0_countBeside_s, qX0_countBeside_0, bcnt_eq]
theorem e_between (H : WH w h) (G : GrOK pl.1 w h) (hm : Sub m (w * h)) {c d : Nat} (hd : d < 64) : EX0_stepsBetween [.ref 15, .long m, .int (nI c), .int (nI d)] (CH mz tp tk rd hi sc pl dr wa wb rc) = some (oM (dst pl.1 m (bitL (nI c) &&& m) d)) := by
  rw [eX0_stepsBetween_s, qX0_stepsBetween_0]
  have hf := bit_in (m := m) (c := c)
  have hX : ∀ t, (∀ j, j < t → tb (FR pl.1 m (bitL (nI c) &&& m) j).1 d = false) → t ≤ 48 → ∀ r, (∀ k, BX0_stepsBetween_15 k [(0, .ref 15), (1, .long m), (4, .int (nI d)), (5, .long (FR pl.1 m (bitL (nI c) &&& m) t).1), (7, .long (FR pl.1 m (bitL (nI c) &&& m) t).2), (9, .int (nI t))] [] (CH mz tp tk rd hi sc pl dr wa wb rc) = r) → lp BX0_stepsBetween_15 FU [(0, .ref 15), (1, .long m), (4, .int (nI d)), (5, .long (bitL (nI c) &&& m)), (7, .long (bitL (nI c) &&& m)), (9, .int 0)] [] (CH mz tp tk rd hi sc pl dr wa wb rc) = r := by
    intro t h1 h2 r hr
    refine lp_run (fun i => [(0, .ref 15), (1, .long m), (4, .int (nI d)), (5, .long (FR pl.1 m (bitL (nI c) &&& m) i).1), (7, .long (FR pl.1 m (bitL (nI c) &&& m) i).2), (9, .int (nI i))]) (fun _ => CH mz tp tk rd hi sc pl dr wa wb rc) (t := t) (by have := FU_ge; omega) (fun c hc k => ?_) hr
    rw [qX0_stepsBetween_15, l48, if_le (by omega) (by omega), if_neg (by omega), qX0_stepsBetween_26 (h := e_isIn _ _ hd), h1 c hc, if_b2i, if_neg (by decide), nI_1]
    rfl
  cases hc : dst pl.1 m (bitL (nI c) &&& m) d with
  | none =>
    have h1 := (dst_none H G hm hf).mp hc
    refine hX 48 (fun j _ => h1 j) (by omega) _ (fun k => ?_)
    rw [qX0_stepsBetween_15, l48, if_le (by omega) (by omega), if_pos (by omega)]
    rfl
  | some t =>
    have h1 := (dst_some H G hm hf).mp hc
    have h2 := dst_lt H G hm hf hc
    refine hX t (fun j hj => ?_) (by omega) _ (fun k => ?_)
    · cases h3 : tb (FR pl.1 m (bitL (nI c) &&& m) j).1 d
      · rfl
      · have := FR_one h1 h3; omega
    · rw [qX0_stepsBetween_15, l48, if_le (by omega) (by omega), if_neg (by omega), qX0_stepsBetween_26 (h := e_isIn _ _ hd), h1, if_b2i, if_pos rfl]
      rfl
/-- the last level that isn't empty, and one -/
theorem e_farthest (H : WH w h) (G : GrOK pl.1 w h) (hm : Sub m (w * h)) {c : Nat} (hc : tb m c = true) : ∃ t, t < 48 ∧ (FR pl.1 m (bitL (nI c) &&& m) t).1 ≠ 0 ∧ (FR pl.1 m (bitL (nI c) &&& m) (t + 1)).1 = 0 ∧ EX0_farthest [.ref 15, .long m, .int (nI c)] (CH mz tp tk rd hi sc pl dr wa wb rc) = some (nI t) := by
  have hf := bit_in (m := m) (c := c)
  obtain ⟨t, ht, h0, hl⟩ := FR_first H G hm hf
  have hn := H.n
  have h1 : t ≠ 0 := fun e => by
    subst e
    have h2 : tb (bitL (nI c) &&& m) c = true := by rw [tb_and, tb_bit c (by have := hm c hc; omega), hc]; simp
    have h0 : bitL (nI c) &&& m = 0 := h0
    rw [h0, tb_0] at h2
    cases h2
  obtain ⟨t, rfl⟩ : ∃ q, t = q + 1 := ⟨t - 1, by omega⟩
  refine ⟨t, by omega, hl t (by omega), h0, ?_⟩
  rw [eX0_farthest_s, qX0_farthest_0]
  refine lp_run (fun i => [(0, .ref 15), (1, .long m), (4, .long (FR pl.1 m (bitL (nI c) &&& m) i).1), (6, .long (FR pl.1 m (bitL (nI c) &&& m) i).2), (8, .int (nI (i - 1))), (9, .int (nI i))]) (fun _ => CH mz tp tk rd hi sc pl dr wa wb rc) (t := t + 1) (by have := FU_ge; omega) (fun c hc k => ?_) (fun k => ?_)
  · rw [qX0_farthest_18, l48, if_le (by omega) (by omega), if_neg (by omega), lg0, if_neg (hl c hc), nI_1]
    rfl
  · rw [qX0_farthest_18, lg0, if_pos h0, ite_self]
    rfl
theorem e_measure_r (H : WH w h) (G : GrOK pl.1 w h) (hm : Sub m (w * h)) (c : Nat) : ∃ A, (∀ d, d < 48 → A d = oM (dst pl.1 m (bitL (nI c) &&& m) d)) ∧ EX0_measure [.ref 15, .long m, .int (nI c), .ref 52] (CH mz tp tk rd hi sc pl dr wa wb rc) = some (CH mz tp tk rd hi sc pl dr wa wb A) := by
  have hf := bit_in (m := m) (c := c)
  obtain ⟨t, ht, h0, hl⟩ := FR_first H G hm hf
  rw [eX0_measure_sr, qX0_measure_0r]
  have e0 : CH mz tp tk rd hi sc pl dr wa wb rc = (CH mz tp tk rd hi sc pl dr wa wb (fun k => if k < 0 then -2 else rc k)) := by rw [fill_0]
  have L1 : lp (BX0_measure_3) FU [(0, .ref 15), (1, .long m), (3, .int (nI c)), (4, .ref 52), (5, .int 0)] [] (CH mz tp tk rd hi sc pl dr wa wb rc) = lp (BX0_measure_39) FU [(0, .ref 15), (1, .long m), (4, .ref 52), (5, .long (bitL (nI c) &&& m)), (7, .long (bitL (nI c) &&& m)), (9, .int 0)] [] ((CH mz tp tk rd hi sc pl dr wa wb (fun k => if k < 48 then -2 else rc k))) := by
    rw [e0]
    refine lp_run (fun i => [(0, .ref 15), (1, .long m), (3, .int (nI c)), (4, .ref 52), (5, .int (nI i))]) (fun i => (CH mz tp tk rd hi sc pl dr wa wb (fun k => if k < i then -2 else rc k))) (t := 48) (by have := FU_ge; omega) (fun i hii k => ?_) (fun k => ?_)
    · rw [qX0_measure_3r, l48, if_le (by omega) (by omega), if_neg (by omega), if_neg (nI_in hii (by omega)), nI_1, nI_clamp (by omega)]
      try dsimp only
      rw [upd_fill]
    · rw [qX0_measure_3r, l48, if_le (by omega) (by omega), if_pos (by omega)]
  rw [L1]
  have L2 := lp_inv (B := BX0_measure_39) (fun i lv hp => ∃ A : Nat → Int32, (∀ d, d < 48 → A d = oM ((List.range i).find? (fun k => tb (FR pl.1 m (bitL (nI c) &&& m) k).1 d))) ∧ lv = [(0, .ref 15), (1, .long m), (4, .ref 52), (5, .long (FR pl.1 m (bitL (nI c) &&& m) i).1), (7, .long (FR pl.1 m (bitL (nI c) &&& m) i).2), (9, .int (nI i))] ∧ hp = (CH mz tp tk rd hi sc pl dr wa wb A)) (Q := fun r => ∃ A : Nat → Int32, (∀ d, d < 48 → A d = oM (dst pl.1 m (bitL (nI c) &&& m) d)) ∧ r = some (CH mz tp tk rd hi sc pl dr wa wb A)) (t := t) (N := FU) (by have := FU_ge; omega) (fun i lv hp hii hP => ?_) (fun lv hp hP => ?_) (lv := [(0, .ref 15), (1, .long m), (4, .ref 52), (5, .long (bitL (nI c) &&& m)), (7, .long (bitL (nI c) &&& m)), (9, .int 0)]) (hp := (CH mz tp tk rd hi sc pl dr wa wb (fun k => if k < 48 then -2 else rc k))) ⟨_, fun d hd => if_pos hd, rfl, rfl⟩
  · obtain ⟨r, ⟨A, hA, rfl⟩, e⟩ := L2
    exact ⟨A, hA, e⟩
  · obtain ⟨A, hA, rfl, rfl⟩ := hP
    refine Or.inl ⟨[(0, .ref 15), (1, .long m), (4, .ref 52), (5, .long (FR pl.1 m (bitL (nI c) &&& m) (i + 1)).1), (7, .long (FR pl.1 m (bitL (nI c) &&& m) (i + 1)).2), (9, .int (nI (i + 1)))], (CH mz tp tk rd hi sc pl dr wa wb (fun k => if k < 48 ∧ tb (FR pl.1 m (bitL (nI c) &&& m) i).1 k = true then nI i else A k)), ⟨_, fun d hd => ?_, rfl, rfl⟩, fun k => ?_⟩
    · rw [hA d hd, List.range_succ, List.find?_append]
      by_cases h5 : tb (FR pl.1 m (bitL (nI c) &&& m) i).1 d = true
      · rw [if_pos ⟨hd, h5⟩]
        have : (List.range i).find? (fun k => tb (FR pl.1 m (bitL (nI c) &&& m) k).1 d) = none := List.find?_eq_none.mpr (fun j hj h6 => by
          have := FR_one h5 h6
          have := List.mem_range.mp hj
          omega)
        rw [this]
        simp [h5, oM]
      · rw [if_neg (fun h => h5 h.2)]
        simp [h5]
    · rw [qX0_measure_39r, l48, if_le (by omega) (by omega), if_neg (by omega), lg0, if_neg (hl i hii)]
      have e1 : (CH mz tp tk rd hi sc pl dr wa wb A) = (CH mz tp tk rd hi sc pl dr wa wb (fun k => if k < 0 ∧ tb (FR pl.1 m (bitL (nI c) &&& m) i).1 k = true then nI i else A k)) := by
        have : (fun k => if k < 0 ∧ tb (FR pl.1 m (bitL (nI c) &&& m) i).1 k = true then nI i else A k) = A := by
          funext k
          rw [if_neg (by omega)]
        rw [this]
      rw [e1]
      refine lp_run (fun j => [(0, .ref 15), (1, .long m), (4, .ref 52), (5, .long (FR pl.1 m (bitL (nI c) &&& m) i).1), (7, .long (FR pl.1 m (bitL (nI c) &&& m) i).2), (9, .int (nI i)), (10, .int (nI j))]) (fun j => (CH mz tp tk rd hi sc pl dr wa wb (fun k => if k < j ∧ tb (FR pl.1 m (bitL (nI c) &&& m) i).1 k = true then nI i else A k))) (t := 48) (by have := FU_ge; omega) (fun j hj k2 => ?_) (fun k2 => ?_)
      · rw [qX0_measure_56r, l48, if_le (by omega) (by omega), if_neg (by omega), qX0_measure_68r (h := e_isIn _ _ (by omega)), if_b2i, nI_1]
        cases h5 : tb (FR pl.1 m (bitL (nI c) &&& m) i).1 j
        · rw [if_neg (by decide)]
          have : (fun k => if k < j + 1 ∧ tb (FR pl.1 m (bitL (nI c) &&& m) i).1 k = true then nI i else A k) = (fun k => if k < j ∧ tb (FR pl.1 m (bitL (nI c) &&& m) i).1 k = true then nI i else A k) := by
            funext k
            by_cases h6 : k = j
            · subst h6
              rw [if_neg (fun h => by rw [h5] at h; cases h.2), if_neg (fun h => by omega)]
            · by_cases h7 : k < j ∧ tb (FR pl.1 m (bitL (nI c) &&& m) i).1 k = true
              · rw [if_pos h7, if_pos ⟨by omega, h7.2⟩]
              · rw [if_neg h7, if_neg (fun h => h7 ⟨by omega, h.2⟩)]
          rw [this]
        · rw [if_pos rfl, if_neg (nI_in hj (by omega)), nI_clamp (by omega)]
          try dsimp only
          have : (fun k => if k < j + 1 ∧ tb (FR pl.1 m (bitL (nI c) &&& m) i).1 k = true then nI i else A k) = upd (fun k => if k < j ∧ tb (FR pl.1 m (bitL (nI c) &&& m) i).1 k = true then nI i else A k) j (nI i) := by
            funext k
            by_cases h6 : k = j
            · subst h6
              rw [if_pos ⟨by omega, h5⟩, pk_us]
            · rw [pk_un h6]
              by_cases h7 : k < j ∧ tb (FR pl.1 m (bitL (nI c) &&& m) i).1 k = true
              · rw [if_pos h7, if_pos ⟨by omega, h7.2⟩]
              · rw [if_neg h7, if_neg (fun h => h7 ⟨by omega, h.2⟩)]
          rw [this]
      · rw [qX0_measure_56r, l48, if_le (by omega) (by omega), if_pos (by omega), nI_1]
        rfl
  · obtain ⟨A, hA, rfl, rfl⟩ := hP
    refine ⟨_, ⟨A, fun d hd => ?_, rfl⟩, fun k => ?_⟩
    · rw [hA d hd]
      have : (List.range t).find? (fun k => tb (FR pl.1 m (bitL (nI c) &&& m) k).1 d) = dst pl.1 m (bitL (nI c) &&& m) d := by
        cases hx : dst pl.1 m (bitL (nI c) &&& m) d with
        | none =>
          have h1 := (dst_none H G hm hf).mp hx
          exact List.find?_eq_none.mpr (fun j _ h6 => by rw [h1 j] at h6; cases h6)
        | some q =>
          have h1 := (dst_some H G hm hf).mp hx
          cases hy : (List.range t).find? (fun k => tb (FR pl.1 m (bitL (nI c) &&& m) k).1 d) with
          | none =>
            have hq : q < t := by
              rcases Nat.lt_or_ge q t with h2 | h2
              · exact h2
              · rw [FR_zero H G hm hf h0 h2, tb_0] at h1; cases h1
            have := List.find?_eq_none.mp hy q (List.mem_range.mpr hq)
            rw [h1] at this
            exact absurd rfl this
          | some q2 =>
            have : tb (FR pl.1 m (bitL (nI c) &&& m) q2).1 d = true := List.find?_some (p := fun k => tb (FR pl.1 m (bitL (nI c) &&& m) k).1 d) hy
            rw [FR_one this h1]
      rw [this]
    · rw [qX0_measure_39r, lg0, if_pos h0, ite_self]
theorem e_measure_a (H : WH w h) (G : GrOK pl.1 w h) (hm : Sub m (w * h)) (c : Nat) : ∃ A, (∀ d, d < 48 → A d = oM (dst pl.1 m (bitL (nI c) &&& m) d)) ∧ EX0_measure [.ref 15, .long m, .int (nI c), .ref 47] (CH mz tp tk rd hi sc pl dr wa wb rc) = some (CH mz tp tk rd hi sc pl dr ((wa.1.1, wa.1.2.1, A), wa.2) wb rc) := by
  have hf := bit_in (m := m) (c := c)
  obtain ⟨t, ht, h0, hl⟩ := FR_first H G hm hf
  rw [eX0_measure_sa, qX0_measure_0a]
  have e0 : CH mz tp tk rd hi sc pl dr wa wb rc = (CH mz tp tk rd hi sc pl dr ((wa.1.1, wa.1.2.1, (fun k => if k < 0 then -2 else wa.1.2.2 k)), wa.2) wb rc) := by rw [fill_0]
  have L1 : lp (BX0_measure_3) FU [(0, .ref 15), (1, .long m), (3, .int (nI c)), (4, .ref 47), (5, .int 0)] [] (CH mz tp tk rd hi sc pl dr wa wb rc) = lp (BX0_measure_39) FU [(0, .ref 15), (1, .long m), (4, .ref 47), (5, .long (bitL (nI c) &&& m)), (7, .long (bitL (nI c) &&& m)), (9, .int 0)] [] ((CH mz tp tk rd hi sc pl dr ((wa.1.1, wa.1.2.1, (fun k => if k < 48 then -2 else wa.1.2.2 k)), wa.2) wb rc)) := by
    rw [e0]
    refine lp_run (fun i => [(0, .ref 15), (1, .long m), (3, .int (nI c)), (4, .ref 47), (5, .int (nI i))]) (fun i => (CH mz tp tk rd hi sc pl dr ((wa.1.1, wa.1.2.1, (fun k => if k < i then -2 else wa.1.2.2 k)), wa.2) wb rc)) (t := 48) (by have := FU_ge; omega) (fun i hii k => ?_) (fun k => ?_)
    · rw [qX0_measure_3a, l48, if_le (by omega) (by omega), if_neg (by omega), if_neg (nI_in hii (by omega)), nI_1, nI_clamp (by omega)]
      try dsimp only
      rw [upd_fill]
    · rw [qX0_measure_3a, l48, if_le (by omega) (by omega), if_pos (by omega)]
  rw [L1]
  have L2 := lp_inv (B := BX0_measure_39) (fun i lv hp => ∃ A : Nat → Int32, (∀ d, d < 48 → A d = oM ((List.range i).find? (fun k => tb (FR pl.1 m (bitL (nI c) &&& m) k).1 d))) ∧ lv = [(0, .ref 15), (1, .long m), (4, .ref 47), (5, .long (FR pl.1 m (bitL (nI c) &&& m) i).1), (7, .long (FR pl.1 m (bitL (nI c) &&& m) i).2), (9, .int (nI i))] ∧ hp = (CH mz tp tk rd hi sc pl dr ((wa.1.1, wa.1.2.1, A), wa.2) wb rc)) (Q := fun r => ∃ A : Nat → Int32, (∀ d, d < 48 → A d = oM (dst pl.1 m (bitL (nI c) &&& m) d)) ∧ r = some (CH mz tp tk rd hi sc pl dr ((wa.1.1, wa.1.2.1, A), wa.2) wb rc)) (t := t) (N := FU) (by have := FU_ge; omega) (fun i lv hp hii hP => ?_) (fun lv hp hP => ?_) (lv := [(0, .ref 15), (1, .long m), (4, .ref 47), (5, .long (bitL (nI c) &&& m)), (7, .long (bitL (nI c) &&& m)), (9, .int 0)]) (hp := (CH mz tp tk rd hi sc pl dr ((wa.1.1, wa.1.2.1, (fun k => if k < 48 then -2 else wa.1.2.2 k)), wa.2) wb rc)) ⟨_, fun d hd => if_pos hd, rfl, rfl⟩
  · obtain ⟨r, ⟨A, hA, rfl⟩, e⟩ := L2
    exact ⟨A, hA, e⟩
  · obtain ⟨A, hA, rfl, rfl⟩ := hP
    refine Or.inl ⟨[(0, .ref 15), (1, .long m), (4, .ref 47), (5, .long (FR pl.1 m (bitL (nI c) &&& m) (i + 1)).1), (7, .long (FR pl.1 m (bitL (nI c) &&& m) (i + 1)).2), (9, .int (nI (i + 1)))], (CH mz tp tk rd hi sc pl dr ((wa.1.1, wa.1.2.1, (fun k => if k < 48 ∧ tb (FR pl.1 m (bitL (nI c) &&& m) i).1 k = true then nI i else A k)), wa.2) wb rc), ⟨_, fun d hd => ?_, rfl, rfl⟩, fun k => ?_⟩
    · rw [hA d hd, List.range_succ, List.find?_append]
      by_cases h5 : tb (FR pl.1 m (bitL (nI c) &&& m) i).1 d = true
      · rw [if_pos ⟨hd, h5⟩]
        have : (List.range i).find? (fun k => tb (FR pl.1 m (bitL (nI c) &&& m) k).1 d) = none := List.find?_eq_none.mpr (fun j hj h6 => by
          have := FR_one h5 h6
          have := List.mem_range.mp hj
          omega)
        rw [this]
        simp [h5, oM]
      · rw [if_neg (fun h => h5 h.2)]
        simp [h5]
    · rw [qX0_measure_39a, l48, if_le (by omega) (by omega), if_neg (by omega), lg0, if_neg (hl i hii)]
      have e1 : (CH mz tp tk rd hi sc pl dr ((wa.1.1, wa.1.2.1, A), wa.2) wb rc) = (CH mz tp tk rd hi sc pl dr ((wa.1.1, wa.1.2.1, (fun k => if k < 0 ∧ tb (FR pl.1 m (bitL (nI c) &&& m) i).1 k = true then nI i else A k)), wa.2) wb rc) := by
        have : (fun k => if k < 0 ∧ tb (FR pl.1 m (bitL (nI c) &&& m) i).1 k = true then nI i else A k) = A := by
          funext k
          rw [if_neg (by omega)]
        rw [this]
      rw [e1]
      refine lp_run (fun j => [(0, .ref 15), (1, .long m), (4, .ref 47), (5, .long (FR pl.1 m (bitL (nI c) &&& m) i).1), (7, .long (FR pl.1 m (bitL (nI c) &&& m) i).2), (9, .int (nI i)), (10, .int (nI j))]) (fun j => (CH mz tp tk rd hi sc pl dr ((wa.1.1, wa.1.2.1, (fun k => if k < j ∧ tb (FR pl.1 m (bitL (nI c) &&& m) i).1 k = true then nI i else A k)), wa.2) wb rc)) (t := 48) (by have := FU_ge; omega) (fun j hj k2 => ?_) (fun k2 => ?_)
      · rw [qX0_measure_56a, l48, if_le (by omega) (by omega), if_neg (by omega), qX0_measure_68a (h := e_isIn _ _ (by omega)), if_b2i, nI_1]
        cases h5 : tb (FR pl.1 m (bitL (nI c) &&& m) i).1 j
        · rw [if_neg (by decide)]
          have : (fun k => if k < j + 1 ∧ tb (FR pl.1 m (bitL (nI c) &&& m) i).1 k = true then nI i else A k) = (fun k => if k < j ∧ tb (FR pl.1 m (bitL (nI c) &&& m) i).1 k = true then nI i else A k) := by
            funext k
            by_cases h6 : k = j
            · subst h6
              rw [if_neg (fun h => by rw [h5] at h; cases h.2), if_neg (fun h => by omega)]
            · by_cases h7 : k < j ∧ tb (FR pl.1 m (bitL (nI c) &&& m) i).1 k = true
              · rw [if_pos h7, if_pos ⟨by omega, h7.2⟩]
              · rw [if_neg h7, if_neg (fun h => h7 ⟨by omega, h.2⟩)]
          rw [this]
        · rw [if_pos rfl, if_neg (nI_in hj (by omega)), nI_clamp (by omega)]
          try dsimp only
          have : (fun k => if k < j + 1 ∧ tb (FR pl.1 m (bitL (nI c) &&& m) i).1 k = true then nI i else A k) = upd (fun k => if k < j ∧ tb (FR pl.1 m (bitL (nI c) &&& m) i).1 k = true then nI i else A k) j (nI i) := by
            funext k
            by_cases h6 : k = j
            · subst h6
              rw [if_pos ⟨by omega, h5⟩, pk_us]
            · rw [pk_un h6]
              by_cases h7 : k < j ∧ tb (FR pl.1 m (bitL (nI c) &&& m) i).1 k = true
              · rw [if_pos h7, if_pos ⟨by omega, h7.2⟩]
              · rw [if_neg h7, if_neg (fun h => h7 ⟨by omega, h.2⟩)]
          rw [this]
      · rw [qX0_measure_56a, l48, if_le (by omega) (by omega), if_pos (by omega), nI_1]
        rfl
  · obtain ⟨A, hA, rfl, rfl⟩ := hP
    refine ⟨_, ⟨A, fun d hd => ?_, rfl⟩, fun k => ?_⟩
    · rw [hA d hd]
      have : (List.range t).find? (fun k => tb (FR pl.1 m (bitL (nI c) &&& m) k).1 d) = dst pl.1 m (bitL (nI c) &&& m) d := by
        cases hx : dst pl.1 m (bitL (nI c) &&& m) d with
        | none =>
          have h1 := (dst_none H G hm hf).mp hx
          exact List.find?_eq_none.mpr (fun j _ h6 => by rw [h1 j] at h6; cases h6)
        | some q =>
          have h1 := (dst_some H G hm hf).mp hx
          cases hy : (List.range t).find? (fun k => tb (FR pl.1 m (bitL (nI c) &&& m) k).1 d) with
          | none =>
            have hq : q < t := by
              rcases Nat.lt_or_ge q t with h2 | h2
              · exact h2
              · rw [FR_zero H G hm hf h0 h2, tb_0] at h1; cases h1
            have := List.find?_eq_none.mp hy q (List.mem_range.mpr hq)
            rw [h1] at this
            exact absurd rfl this
          | some q2 =>
            have : tb (FR pl.1 m (bitL (nI c) &&& m) q2).1 d = true := List.find?_some (p := fun k => tb (FR pl.1 m (bitL (nI c) &&& m) k).1 d) hy
            rw [FR_one this h1]
      rw [this]
    · rw [qX0_measure_39a, lg0, if_pos h0, ite_self]
theorem e_measure_b (H : WH w h) (G : GrOK pl.1 w h) (hm : Sub m (w * h)) (c : Nat) : ∃ A, (∀ d, d < 48 → A d = oM (dst pl.1 m (bitL (nI c) &&& m) d)) ∧ EX0_measure [.ref 15, .long m, .int (nI c), .ref 51] (CH mz tp tk rd hi sc pl dr wa wb rc) = some (CH mz tp tk rd hi sc pl dr wa ((wb.1.1, wb.1.2.1, A), wb.2) rc) := by
  have hf := bit_in (m := m) (c := c)
  obtain ⟨t, ht, h0, hl⟩ := FR_first H G hm hf
  rw [eX0_measure_sb, qX0_measure_0b]
  have e0 : CH mz tp tk rd hi sc pl dr wa wb rc = (CH mz tp tk rd hi sc pl dr wa ((wb.1.1, wb.1.2.1, (fun k => if k < 0 then -2 else wb.1.2.2 k)), wb.2) rc) := by rw [fill_0]
  have L1 : lp (BX0_measure_3) FU [(0, .ref 15), (1, .long m), (3, .int (nI c)), (4, .ref 51), (5, .int 0)] [] (CH mz tp tk rd hi sc pl dr wa wb rc) = lp (BX0_measure_39) FU [(0, .ref 15), (1, .long m), (4, .ref 51), (5, .long (bitL (nI c) &&& m)), (7, .long (bitL (nI c) &&& m)), (9, .int 0)] [] ((CH mz tp tk rd hi sc pl dr wa ((wb.1.1, wb.1.2.1, (fun k => if k < 48 then -2 else wb.1.2.2 k)), wb.2) rc)) := by
    rw [e0]
    refine lp_run (fun i => [(0, .ref 15), (1, .long m), (3, .int (nI c)), (4, .ref 51), (5, .int (nI i))]) (fun i => (CH mz tp tk rd hi sc pl dr wa ((wb.1.1, wb.1.2.1, (fun k => if k < i then -2 else wb.1.2.2 k)), wb.2) rc)) (t := 48) (by have := FU_ge; omega) (fun i hii k => ?_) (fun k => ?_)
    · rw [qX0_measure_3b, l48, if_le (by omega) (by omega), if_neg (by omega), if_neg (nI_in hii (by omega)), nI_1, nI_clamp (by omega)]
      try dsimp only
      rw [upd_fill]
    · rw [qX0_measure_3b, l48, if_le (by omega) (by omega), if_pos (by omega)]
  rw [L1]
  have L2 := lp_inv (B := BX0_measure_39) (fun i lv hp => ∃ A : Nat → Int32, (∀ d, d < 48 → A d = oM ((List.range i).find? (fun k => tb (FR pl.1 m (bitL (nI c) &&& m) k).1 d))) ∧ lv = [(0, .ref 15), (1, .long m), (4, .ref 51), (5, .long (FR pl.1 m (bitL (nI c) &&& m) i).1), (7, .long (FR pl.1 m (bitL (nI c) &&& m) i).2), (9, .int (nI i))] ∧ hp = (CH mz tp tk rd hi sc pl dr wa ((wb.1.1, wb.1.2.1, A), wb.2) rc)) (Q := fun r => ∃ A : Nat → Int32, (∀ d, d < 48 → A d = oM (dst pl.1 m (bitL (nI c) &&& m) d)) ∧ r = some (CH mz tp tk rd hi sc pl dr wa ((wb.1.1, wb.1.2.1, A), wb.2) rc)) (t := t) (N := FU) (by have := FU_ge; omega) (fun i lv hp hii hP => ?_) (fun lv hp hP => ?_) (lv := [(0, .ref 15), (1, .long m), (4, .ref 51), (5, .long (bitL (nI c) &&& m)), (7, .long (bitL (nI c) &&& m)), (9, .int 0)]) (hp := (CH mz tp tk rd hi sc pl dr wa ((wb.1.1, wb.1.2.1, (fun k => if k < 48 then -2 else wb.1.2.2 k)), wb.2) rc)) ⟨_, fun d hd => if_pos hd, rfl, rfl⟩
  · obtain ⟨r, ⟨A, hA, rfl⟩, e⟩ := L2
    exact ⟨A, hA, e⟩
  · obtain ⟨A, hA, rfl, rfl⟩ := hP
    refine Or.inl ⟨[(0, .ref 15), (1, .long m), (4, .ref 51), (5, .long (FR pl.1 m (bitL (nI c) &&& m) (i + 1)).1), (7, .long (FR pl.1 m (bitL (nI c) &&& m) (i + 1)).2), (9, .int (nI (i + 1)))], (CH mz tp tk rd hi sc pl dr wa ((wb.1.1, wb.1.2.1, (fun k => if k < 48 ∧ tb (FR pl.1 m (bitL (nI c) &&& m) i).1 k = true then nI i else A k)), wb.2) rc), ⟨_, fun d hd => ?_, rfl, rfl⟩, fun k => ?_⟩
    · rw [hA d hd, List.range_succ, List.find?_append]
      by_cases h5 : tb (FR pl.1 m (bitL (nI c) &&& m) i).1 d = true
      · rw [if_pos ⟨hd, h5⟩]
        have : (List.range i).find? (fun k => tb (FR pl.1 m (bitL (nI c) &&& m) k).1 d) = none := List.find?_eq_none.mpr (fun j hj h6 => by
          have := FR_one h5 h6
          have := List.mem_range.mp hj
          omega)
        rw [this]
        simp [h5, oM]
      · rw [if_neg (fun h => h5 h.2)]
        simp [h5]
    · rw [qX0_measure_39b, l48, if_le (by omega) (by omega), if_neg (by omega), lg0, if_neg (hl i hii)]
      have e1 : (CH mz tp tk rd hi sc pl dr wa ((wb.1.1, wb.1.2.1, A), wb.2) rc) = (CH mz tp tk rd hi sc pl dr wa ((wb.1.1, wb.1.2.1, (fun k => if k < 0 ∧ tb (FR pl.1 m (bitL (nI c) &&& m) i).1 k = true then nI i else A k)), wb.2) rc) := by
        have : (fun k => if k < 0 ∧ tb (FR pl.1 m (bitL (nI c) &&& m) i).1 k = true then nI i else A k) = A := by
          funext k
          rw [if_neg (by omega)]
        rw [this]
      rw [e1]
      refine lp_run (fun j => [(0, .ref 15), (1, .long m), (4, .ref 51), (5, .long (FR pl.1 m (bitL (nI c) &&& m) i).1), (7, .long (FR pl.1 m (bitL (nI c) &&& m) i).2), (9, .int (nI i)), (10, .int (nI j))]) (fun j => (CH mz tp tk rd hi sc pl dr wa ((wb.1.1, wb.1.2.1, (fun k => if k < j ∧ tb (FR pl.1 m (bitL (nI c) &&& m) i).1 k = true then nI i else A k)), wb.2) rc)) (t := 48) (by have := FU_ge; omega) (fun j hj k2 => ?_) (fun k2 => ?_)
      · rw [qX0_measure_56b, l48, if_le (by omega) (by omega), if_neg (by omega), qX0_measure_68b (h := e_isIn _ _ (by omega)), if_b2i, nI_1]
        cases h5 : tb (FR pl.1 m (bitL (nI c) &&& m) i).1 j
        · rw [if_neg (by decide)]
          have : (fun k => if k < j + 1 ∧ tb (FR pl.1 m (bitL (nI c) &&& m) i).1 k = true then nI i else A k) = (fun k => if k < j ∧ tb (FR pl.1 m (bitL (nI c) &&& m) i).1 k = true then nI i else A k) := by
            funext k
            by_cases h6 : k = j
            · subst h6
              rw [if_neg (fun h => by rw [h5] at h; cases h.2), if_neg (fun h => by omega)]
            · by_cases h7 : k < j ∧ tb (FR pl.1 m (bitL (nI c) &&& m) i).1 k = true
              · rw [if_pos h7, if_pos ⟨by omega, h7.2⟩]
              · rw [if_neg h7, if_neg (fun h => h7 ⟨by omega, h.2⟩)]
          rw [this]
        · rw [if_pos rfl, if_neg (nI_in hj (by omega)), nI_clamp (by omega)]
          try dsimp only
          have : (fun k => if k < j + 1 ∧ tb (FR pl.1 m (bitL (nI c) &&& m) i).1 k = true then nI i else A k) = upd (fun k => if k < j ∧ tb (FR pl.1 m (bitL (nI c) &&& m) i).1 k = true then nI i else A k) j (nI i) := by
            funext k
            by_cases h6 : k = j
            · subst h6
              rw [if_pos ⟨by omega, h5⟩, pk_us]
            · rw [pk_un h6]
              by_cases h7 : k < j ∧ tb (FR pl.1 m (bitL (nI c) &&& m) i).1 k = true
              · rw [if_pos h7, if_pos ⟨by omega, h7.2⟩]
              · rw [if_neg h7, if_neg (fun h => h7 ⟨by omega, h.2⟩)]
          rw [this]
      · rw [qX0_measure_56b, l48, if_le (by omega) (by omega), if_pos (by omega), nI_1]
        rfl
  · obtain ⟨A, hA, rfl, rfl⟩ := hP
    refine ⟨_, ⟨A, fun d hd => ?_, rfl⟩, fun k => ?_⟩
    · rw [hA d hd]
      have : (List.range t).find? (fun k => tb (FR pl.1 m (bitL (nI c) &&& m) k).1 d) = dst pl.1 m (bitL (nI c) &&& m) d := by
        cases hx : dst pl.1 m (bitL (nI c) &&& m) d with
        | none =>
          have h1 := (dst_none H G hm hf).mp hx
          exact List.find?_eq_none.mpr (fun j _ h6 => by rw [h1 j] at h6; cases h6)
        | some q =>
          have h1 := (dst_some H G hm hf).mp hx
          cases hy : (List.range t).find? (fun k => tb (FR pl.1 m (bitL (nI c) &&& m) k).1 d) with
          | none =>
            have hq : q < t := by
              rcases Nat.lt_or_ge q t with h2 | h2
              · exact h2
              · rw [FR_zero H G hm hf h0 h2, tb_0] at h1; cases h1
            have := List.find?_eq_none.mp hy q (List.mem_range.mpr hq)
            rw [h1] at this
            exact absurd rfl this
          | some q2 =>
            have : tb (FR pl.1 m (bitL (nI c) &&& m) q2).1 d = true := List.find?_some (p := fun k => tb (FR pl.1 m (bitL (nI c) &&& m) k).1 d) hy
            rw [FR_one this h1]
      rw [this]
    · rw [qX0_measure_39b, lg0, if_pos h0, ite_self]
end
