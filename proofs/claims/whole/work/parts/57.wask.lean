section
variable {mz : MzS} {tp : TpS} {tk : TkS} {rd : RdS} {hi : HiS} {sc : ScS} {pl dr : PlS} {wo : WaS} {rc : Nat → Int32} {T CF SN : Nat → Int32} {m : Int64} {p : PS} {tr : Nat → PS} {l K j du : Nat} {od : Option Nat} {ou la : Int32}
theorem c_cellIna (hj : j < 5) (hl : l ≤ 99) (k4 : (pl.2.2.2.1 j).2.2.2.2 = nI l) (hT : ∀ i, i < K → T (l + i) = nI (tr i).1) (hK : K ≤ 201) {z : Nat} (hz : z ≤ 200) : EX8_cellIn [.ref 44, .int (nI z)] (CH mz tp tk rd hi sc pl dr (wPa T CF SN (24 + j) m p ou (las l K)) wo rc) = some (oM (posn l K tr z)) := by
  have h24 : ∀ b : Bool, BX8_cellIn_24 [(0, .ref 44), (1, .int (nI z))] [.int (b2i b)] (CH mz tp tk rd hi sc pl dr (wPa T CF SN (24 + j) m p ou (las l K)) wo rc) = some (if b = true then T z else -2) := fun b => by
    rw [qX8_cellIn_24a (hwj := hj), if_b2i, if_neg (nI_pos (by omega)), l201, if_le (by omega) (by omega), if_neg (by omega : ¬ 201 ≤ z), if_neg (nI_in (by omega : z < 201) (by omega)), nI_clamp (by omega)]
    cases b <;> rfl
  have h23 : BX8_cellIn_23 [(0, .ref 44), (1, .int (nI z))] [] (CH mz tp tk rd hi sc pl dr (wPa T CF SN (24 + j) m p ou (las l K)) wo rc) = some (-2) := by
    rw [qX8_cellIn_23a (hwj := hj)]
    exact h24 false
  rw [eX8_cellIn_sa (hwj := hj), qX8_cellIn_0a (hwj := hj), k4, if_lt (by omega) (by omega), h23]
  unfold posn
  by_cases h1 : z < l
  · rw [if_pos h1, if_neg (by omega)]; rfl
  · rw [if_neg h1]
    rcases Nat.eq_zero_or_pos K with hK0 | hK0
    · subst hK0
      rw [show las l 0 = -2 from rfl, if_pos (Int32.lt_of_lt_of_le (by decide : (-2 : Int32) < 0) (nI_pos' (by omega))), if_neg (by omega)]
      rfl
    · have e : las l K = nI (l + K - 1) := if_neg (by omega)
      rw [e] at h24
      rw [e, if_lt (by omega) (by omega)]
      by_cases h2 : l + K - 1 < z
      · rw [if_pos h2, if_neg (by omega)]; rfl
      · rw [if_neg h2, if_pos (by omega)]
        refine (h24 true).trans ?_
        rw [if_pos rfl]
        have := hT (z - l) (by omega)
        rw [show l + (z - l) = z by omega] at this
        rw [this]
        rfl
theorem c_outIna : EX8_outIn [.ref 44] (CH mz tp tk rd hi sc pl dr (wPa T CF SN (24 + j) m p ou la) wo rc) = some ou := by
  rw [eX8_outIn_sa, qX8_outIn_0a]
theorem c_shoutsa (hj : j < 5) (hl : l ≤ 99) (k4 : (pl.2.2.2.1 j).2.2.2.2 = nI l) (hdu : du ≤ 200) (h3 : pl.2.2.2.2.1 = nI du) (hod : ∀ x, od = some x → x ≤ du) : EX8_countShouts [.ref 44] (CH mz tp tk rd hi sc pl dr (wPa T CF SN (24 + j) m p (oM od) la) wo rc) = some (nI (lsm du od - l)) := by
  have key : ∀ x, x ≤ 200 → (if (0 : Int32) < nI x - nI l then nI x - nI l else 0) = nI (x - l) := fun x hx => by
    by_cases h5 : l ≤ x
    · rw [pk_sub h5]
      rcases Nat.eq_zero_or_pos (x - l) with h6 | h6
      · rw [h6]; rfl
      · rw [if_pos (show (0 : Int32) < nI (x - l) from nI_lt (a := 0) h6 (by omega))]
    · have := pk_sneg (a := x) (b := l) (by omega) (by omega)
      rw [if_neg (fun h => Int32.lt_irrefl (Int32.lt_trans this h)), show x - l = 0 by omega]
      rfl
  rw [eX8_countShouts_sa (hwj := hj), qX8_countShouts_0a (hwj := hj), k4, h3]
  cases od with
  | none => rw [show oM none = -2 from rfl, if_pos rfl, key du hdu]; rfl
  | some x =>
    have hx := hod x rfl
    rw [show oM (some x) = nI x from rfl, if_neg (nI_m2 (by omega)), key x (by omega)]
    rfl
theorem c_cellsa (hj : j < 5) (hl : l ≤ 99) (k4 : (pl.2.2.2.1 j).2.2.2.2 = nI l) (hdu : du ≤ 200) (h3 : pl.2.2.2.2.1 = nI du) : EX8_countCells [.ref 44] (CH mz tp tk rd hi sc pl dr (wPa T CF SN (24 + j) m p ou la) wo rc) = some (nI (pcn (if du < l then 0 else p.2.2.2.1))) := by
  rw [eX8_countCells_sa (hwj := hj), qX8_countCells_0a (hwj := hj), k4, h3, if_lt (by omega) (by omega), bcnt_eq]
  by_cases h5 : du < l
  · rw [if_pos h5, if_pos h5, pcn_0]; rfl
  · rw [if_neg h5, if_neg h5]
end
section
variable {mz : MzS} {tp : TpS} {tk : TkS} {rd : RdS} {hi : HiS} {sc : ScS} {pl dr : PlS} {wo : WaS} {rc : Nat → Int32} {T CF SN : Nat → Int32} {m : Int64} {p : PS} {tr : Nat → PS} {l K j du : Nat} {od : Option Nat} {ou la : Int32}
theorem c_cellInb (hj : j < 5) (hl : l ≤ 99) (k4 : (pl.2.2.2.1 j).2.2.2.2 = nI l) (hT : ∀ i, i < K → T (l + i) = nI (tr i).1) (hK : K ≤ 201) {z : Nat} (hz : z ≤ 200) : EX8_cellIn [.ref 48, .int (nI z)] (CH mz tp tk rd hi sc pl dr wo (wPb T CF SN (24 + j) m p ou (las l K)) rc) = some (oM (posn l K tr z)) := by
  have h24 : ∀ b : Bool, BX8_cellIn_24 [(0, .ref 48), (1, .int (nI z))] [.int (b2i b)] (CH mz tp tk rd hi sc pl dr wo (wPb T CF SN (24 + j) m p ou (las l K)) rc) = some (if b = true then T z else -2) := fun b => by
    rw [qX8_cellIn_24b (hwj := hj), if_b2i, if_neg (nI_pos (by omega)), l201, if_le (by omega) (by omega), if_neg (by omega : ¬ 201 ≤ z), if_neg (nI_in (by omega : z < 201) (by omega)), nI_clamp (by omega)]
    cases b <;> rfl
  have h23 : BX8_cellIn_23 [(0, .ref 48), (1, .int (nI z))] [] (CH mz tp tk rd hi sc pl dr wo (wPb T CF SN (24 + j) m p ou (las l K)) rc) = some (-2) := by
    rw [qX8_cellIn_23b (hwj := hj)]
    exact h24 false
  rw [eX8_cellIn_sb (hwj := hj), qX8_cellIn_0b (hwj := hj), k4, if_lt (by omega) (by omega), h23]
  unfold posn
  by_cases h1 : z < l
  · rw [if_pos h1, if_neg (by omega)]; rfl
  · rw [if_neg h1]
    rcases Nat.eq_zero_or_pos K with hK0 | hK0
    · subst hK0
      rw [show las l 0 = -2 from rfl, if_pos (Int32.lt_of_lt_of_le (by decide : (-2 : Int32) < 0) (nI_pos' (by omega))), if_neg (by omega)]
      rfl
    · have e : las l K = nI (l + K - 1) := if_neg (by omega)
      rw [e] at h24
      rw [e, if_lt (by omega) (by omega)]
      by_cases h2 : l + K - 1 < z
      · rw [if_pos h2, if_neg (by omega)]; rfl
      · rw [if_neg h2, if_pos (by omega)]
        refine (h24 true).trans ?_
        rw [if_pos rfl]
        have := hT (z - l) (by omega)
        rw [show l + (z - l) = z by omega] at this
        rw [this]
        rfl
theorem c_outInb : EX8_outIn [.ref 48] (CH mz tp tk rd hi sc pl dr wo (wPb T CF SN (24 + j) m p ou la) rc) = some ou := by
  rw [eX8_outIn_sb, qX8_outIn_0b]
theorem c_shoutsb (hj : j < 5) (hl : l ≤ 99) (k4 : (pl.2.2.2.1 j).2.2.2.2 = nI l) (hdu : du ≤ 200) (h3 : pl.2.2.2.2.1 = nI du) (hod : ∀ x, od = some x → x ≤ du) : EX8_countShouts [.ref 48] (CH mz tp tk rd hi sc pl dr wo (wPb T CF SN (24 + j) m p (oM od) la) rc) = some (nI (lsm du od - l)) := by
  have key : ∀ x, x ≤ 200 → (if (0 : Int32) < nI x - nI l then nI x - nI l else 0) = nI (x - l) := fun x hx => by
    by_cases h5 : l ≤ x
    · rw [pk_sub h5]
      rcases Nat.eq_zero_or_pos (x - l) with h6 | h6
      · rw [h6]; rfl
      · rw [if_pos (show (0 : Int32) < nI (x - l) from nI_lt (a := 0) h6 (by omega))]
    · have := pk_sneg (a := x) (b := l) (by omega) (by omega)
      rw [if_neg (fun h => Int32.lt_irrefl (Int32.lt_trans this h)), show x - l = 0 by omega]
      rfl
  rw [eX8_countShouts_sb (hwj := hj), qX8_countShouts_0b (hwj := hj), k4, h3]
  cases od with
  | none => rw [show oM none = -2 from rfl, if_pos rfl, key du hdu]; rfl
  | some x =>
    have hx := hod x rfl
    rw [show oM (some x) = nI x from rfl, if_neg (nI_m2 (by omega)), key x (by omega)]
    rfl
theorem c_cellsb (hj : j < 5) (hl : l ≤ 99) (k4 : (pl.2.2.2.1 j).2.2.2.2 = nI l) (hdu : du ≤ 200) (h3 : pl.2.2.2.2.1 = nI du) : EX8_countCells [.ref 48] (CH mz tp tk rd hi sc pl dr wo (wPb T CF SN (24 + j) m p ou la) rc) = some (nI (pcn (if du < l then 0 else p.2.2.2.1))) := by
  rw [eX8_countCells_sb (hwj := hj), qX8_countCells_0b (hwj := hj), k4, h3, if_lt (by omega) (by omega), bcnt_eq]
  by_cases h5 : du < l
  · rw [if_pos h5, if_pos h5, pcn_0]; rfl
  · rw [if_neg h5, if_neg h5]
end
