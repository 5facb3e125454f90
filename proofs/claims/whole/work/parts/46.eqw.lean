/-! Walkers: the cells of a walk, of the model's. -/
abbrev wA (T CF SN : Nat → Int32) (p q : Nat) (mo be : Int64) (ce fg sv ou la : Int32) : WaS := ((T, CF, SN), (p, q), (mo, be, ce, fg, sv, ou, la))
abbrev MQw (x : MsS) (ce fg ow ou sk bp : Int32) : MsS := (x.1, x.2.1, (ce, fg, ow, ou, sk, bp))
abbrev MAw (x : MaS) (F Q CF TN RW OR BE : Nat → Int32) : MaS := (x.1, x.2.1, F, Q, CF, TN, RW, OR, BE, x.2.2.2.2.2.2.2.2.2.1, x.2.2.2.2.2.2.2.2.2.2.1, x.2.2.2.2.2.2.2.2.2.2.2.1, x.2.2.2.2.2.2.2.2.2.2.2.2.1, x.2.2.2.2.2.2.2.2.2.2.2.2.2.1, x.2.2.2.2.2.2.2.2.2.2.2.2.2.2)
section
variable (mz : MzS) (tp : TpS) (tk : TkS) (rd : RdS) (hi : HiS) (sc : ScS) (pl : PlS) (dr : PlS) (wb : WaS) (rc : (Nat → Int32)) (T CF SN : Nat → Int32) (q : Nat) (mo be : Int64) (ce fg sv ou la : Int32)
theorem eX8_begin_sa (p : Nat) (j : Int32) (m : Int64) (s : Int32) : EX8_begin [.ref 44, .ref 14, .int j, .long m, .int s] (CH mz tp tk rd hi sc pl dr (wA T CF SN p q mo be ce fg sv ou la) wb rc) = BX8_begin_0 [(0, .ref 44), (1, .ref 14), (2, .int j), (3, .long m), (5, .int s)] [] (CH mz tp tk rd hi sc pl dr (wA T CF SN p q mo be ce fg sv ou la) wb rc) := rfl
theorem qX8_begin_0a (p : Nat) (j : Int32) (m : Int64) (s : Int32) : BX8_begin_0 [(0, .ref 44), (1, .ref 14), (2, .int j), (3, .long m), (5, .int s)] [] (CH mz tp tk rd hi sc pl dr (wA T CF SN p q mo be ce fg sv ou la) wb rc) =
    (BX8_begin_11) [(0, .ref 44), (2, .int j), (3, .long m), (5, .int s)] [.int j, .ref 14, .ref 44] (CH mz tp tk rd hi sc pl dr (wA T CF SN 14 q mo be ce fg sv ou la) wb rc) := rfl
theorem qX8_begin_11a {wj : Nat} (hwj : wj < 5) (p : Nat) (j : Int32) (m : Int64) (s : Int32) (s0 : Int32) (h : EX3_walker [.ref 14, .int s0] (CH mz tp tk rd hi sc pl dr (wA T CF SN p q mo be ce fg sv ou la) wb rc) = some (24 + wj)) : BX8_begin_11 [(0, .ref 44), (2, .int j), (3, .long m), (5, .int s)] [.int s0, .ref 14, .ref 44] (CH mz tp tk rd hi sc pl dr (wA T CF SN p q mo be ce fg sv ou la) wb rc) =
    (BX8_begin_66) [(0, .ref 44)] [.int (-1), .int ((pl.2.2.2.1 wj).2.2.1), .ref 44] (CH mz tp tk rd hi sc pl dr (wA T CF SN p (24 + wj) m 0 ((pl.2.2.2.1 wj).2.2.1) ((pl.2.2.2.1 wj).2.2.2.1) ((s + j) - (s + j) / 65537 * 65537) ou la) wb rc) := by
  rcases (by omega : wj = 0 ∨ wj = 1 ∨ wj = 2 ∨ wj = 3 ∨ wj = 4) with rfl | rfl | rfl | rfl | rfl
  · exact (cal_eq h rfl rfl (chk_rf _ _ _)).trans rfl
  · exact (cal_eq h rfl rfl (chk_rf _ _ _)).trans rfl
  · exact (cal_eq h rfl rfl (chk_rf _ _ _)).trans rfl
  · exact (cal_eq h rfl rfl (chk_rf _ _ _)).trans rfl
  · exact (cal_eq h rfl rfl (chk_rf _ _ _)).trans rfl
theorem qX8_begin_66a {wj : Nat} (hwj : wj < 5) (s0 : Int32) (s1 : Int32) {T' CF' SN' : Nat → Int32} {mo' be' : Int64} {ce' fg' sv' ou' la' : Int32} (h : EX8_enter [.ref 44, .int s1, .int s0] (CH mz tp tk rd hi sc pl dr (wA T CF SN 14 (24 + wj) mo be ce fg sv ou la) wb rc) = some (CH mz tp tk rd hi sc pl dr (wA T' CF' SN' 14 (24 + wj) mo' be' ce' fg' sv' ou' la') wb rc)) : BX8_begin_66 [(0, .ref 44)] [.int s0, .int s1, .ref 44] (CH mz tp tk rd hi sc pl dr (wA T CF SN 14 (24 + wj) mo be ce fg sv ou la) wb rc) =
    (if ((pl.2.2.2.1 wj).2.1) = 3 then (BX8_begin_95) [(0, .ref 44)] [.ref 14, .long mo', .ref 15] (CH mz tp tk rd hi sc pl dr (wA T' CF' SN' 14 (24 + wj) mo' be' ce' fg' sv' ou' la') wb rc) else some (CH mz tp tk rd hi sc pl dr (wA T' CF' SN' 14 (24 + wj) mo' be' ce' fg' sv' ou' la') wb rc)) := by
  rcases (by omega : wj = 0 ∨ wj = 1 ∨ wj = 2 ∨ wj = 3 ∨ wj = 4) with rfl | rfl | rfl | rfl | rfl
  · exact (cal_eq h rfl rfl rfl).trans rfl
  · exact (cal_eq h rfl rfl rfl).trans rfl
  · exact (cal_eq h rfl rfl rfl).trans rfl
  · exact (cal_eq h rfl rfl rfl).trans rfl
  · exact (cal_eq h rfl rfl rfl).trans rfl
theorem qX8_begin_95a {wj : Nat} (hwj : wj < 5) (s1 : Int64) {r : Bool} (h : EX3_hasNoise [.ref 14] (CH mz tp tk rd hi sc pl dr (wA T CF SN 14 (24 + wj) mo be ce fg sv ou la) wb rc) = some r) : BX8_begin_95 [(0, .ref 44)] [.ref 14, .long s1, .ref 15] (CH mz tp tk rd hi sc pl dr (wA T CF SN 14 (24 + wj) mo be ce fg sv ou la) wb rc) =
    (if (b2i r) = 0 then (BX8_begin_117) [] [.ref 47, .int 48, .long s1, .ref 15] (CH mz tp tk rd hi sc pl dr (wA T CF SN 14 (24 + wj) mo be ce fg sv ou la) wb rc) else (BX8_begin_117) [] [.ref 47, .int pl.2.2.2.2.2.2.2.2.2.1, .long s1, .ref 15] (CH mz tp tk rd hi sc pl dr (wA T CF SN 14 (24 + wj) mo be ce fg sv ou la) wb rc)) := by
  rcases (by omega : wj = 0 ∨ wj = 1 ∨ wj = 2 ∨ wj = 3 ∨ wj = 4) with rfl | rfl | rfl | rfl | rfl
  · exact (cal_eq h rfl rfl (chk_rf _ _ _)).trans rfl
  · exact (cal_eq h rfl rfl (chk_rf _ _ _)).trans rfl
  · exact (cal_eq h rfl rfl (chk_rf _ _ _)).trans rfl
  · exact (cal_eq h rfl rfl (chk_rf _ _ _)).trans rfl
  · exact (cal_eq h rfl rfl (chk_rf _ _ _)).trans rfl
theorem qX8_begin_117a {wj : Nat} (hwj : wj < 5) (s1 : Int32) (s2 : Int64) {T' CF' SN' : Nat → Int32} {mo' be' : Int64} {ce' fg' sv' ou' la' : Int32} (h : EX0_measure [.ref 15, .long s2, .int s1, .ref 47] (CH mz tp tk rd hi sc pl dr (wA T CF SN 14 (24 + wj) mo be ce fg sv ou la) wb rc) = some (CH mz tp tk rd hi sc pl dr (wA T' CF' SN' 14 (24 + wj) mo' be' ce' fg' sv' ou' la') wb rc)) : BX8_begin_117 [] [.ref 47, .int s1, .long s2, .ref 15] (CH mz tp tk rd hi sc pl dr (wA T CF SN 14 (24 + wj) mo be ce fg sv ou la) wb rc) =
    some (CH mz tp tk rd hi sc pl dr (wA T' CF' SN' 14 (24 + wj) mo' be' ce' fg' sv' ou' la') wb rc) := by
  rcases (by omega : wj = 0 ∨ wj = 1 ∨ wj = 2 ∨ wj = 3 ∨ wj = 4) with rfl | rfl | rfl | rfl | rfl
  · exact (cal_eq h rfl rfl rfl).trans rfl
  · exact (cal_eq h rfl rfl rfl).trans rfl
  · exact (cal_eq h rfl rfl rfl).trans rfl
  · exact (cal_eq h rfl rfl rfl).trans rfl
  · exact (cal_eq h rfl rfl rfl).trans rfl
theorem eX8_goTillDusk_sa (p : Nat) (j : Int32) (m : Int64) (s : Int32) : EX8_goTillDusk [.ref 44, .ref 14, .int j, .long m, .int s] (CH mz tp tk rd hi sc pl dr (wA T CF SN p q mo be ce fg sv ou la) wb rc) = BX8_goTillDusk_0 [(0, .ref 44), (1, .ref 14), (2, .int j), (3, .long m), (5, .int s)] [] (CH mz tp tk rd hi sc pl dr (wA T CF SN p q mo be ce fg sv ou la) wb rc) := rfl
theorem qX8_goTillDusk_0a (p : Nat) (j : Int32) (m : Int64) (s : Int32) : BX8_goTillDusk_0 [(0, .ref 44), (1, .ref 14), (2, .int j), (3, .long m), (5, .int s)] [] (CH mz tp tk rd hi sc pl dr (wA T CF SN p q mo be ce fg sv ou la) wb rc) =
    (BX8_goTillDusk_6) [(0, .ref 44)] [.int s, .long m, .int j, .ref 14, .ref 44] (CH mz tp tk rd hi sc pl dr (wA T CF SN p q mo be ce fg sv ou la) wb rc) := rfl
theorem qX8_goTillDusk_6a {wj : Nat} (hwj : wj < 5) (p : Nat) (s0 : Int32) (s1 : Int64) (s2 : Int32) {T' CF' SN' : Nat → Int32} {mo' be' : Int64} {ce' fg' sv' ou' la' : Int32} (h : EX8_begin [.ref 44, .ref 14, .int s2, .long s1, .int s0] (CH mz tp tk rd hi sc pl dr (wA T CF SN p q mo be ce fg sv ou la) wb rc) = some (CH mz tp tk rd hi sc pl dr (wA T' CF' SN' 14 (24 + wj) mo' be' ce' fg' sv' ou' la') wb rc)) : BX8_goTillDusk_6 [(0, .ref 44)] [.int s0, .long s1, .int s2, .ref 14, .ref 44] (CH mz tp tk rd hi sc pl dr (wA T CF SN p q mo be ce fg sv ou la) wb rc) =
    lp (BX8_goTillDusk_30) FU [(0, .ref 44), (6, .int ((pl.2.2.2.1 wj).2.2.2.2))] [] (CH mz tp tk rd hi sc pl dr (wA T' CF' SN' 14 (24 + wj) mo' be' ce' fg' sv' (-2) (-2)) wb rc) := by
  rcases (by omega : wj = 0 ∨ wj = 1 ∨ wj = 2 ∨ wj = 3 ∨ wj = 4) with rfl | rfl | rfl | rfl | rfl
  · exact (cal_eq h rfl rfl rfl).trans rfl
  · exact (cal_eq h rfl rfl rfl).trans rfl
  · exact (cal_eq h rfl rfl rfl).trans rfl
  · exact (cal_eq h rfl rfl rfl).trans rfl
  · exact (cal_eq h rfl rfl rfl).trans rfl
theorem qX8_goTillDusk_30a {wj : Nat} (hwj : wj < 5) (k30 : KT HP) (v6 : Int32) : BX8_goTillDusk_30 k30 [(0, .ref 44), (6, .int v6)] [] (CH mz tp tk rd hi sc pl dr (wA T CF SN 14 (24 + wj) mo be ce fg sv ou la) wb rc) =
    (if pl.2.2.2.2.1 < v6 then some (CH mz tp tk rd hi sc pl dr (wA T CF SN 14 (24 + wj) mo be ce fg sv ou la) wb rc) else (if ou = (-2) then (if v6 ≤ ((pl.2.2.2.1 wj).2.2.2.2) then (BX8_goTillDusk_67 k30) [(0, .ref 44), (6, .int v6)] [] (CH mz tp tk rd hi sc pl dr (wA T CF SN 14 (24 + wj) mo be ce fg sv ou la) wb rc) else (BX8_goTillDusk_64 k30) [(0, .ref 44), (6, .int v6)] [.ref 44] (CH mz tp tk rd hi sc pl dr (wA T CF SN 14 (24 + wj) mo be ce fg sv ou la) wb rc)) else some (CH mz tp tk rd hi sc pl dr (wA T CF SN 14 (24 + wj) mo be ce fg sv ou la) wb rc))) := by
  rcases (by omega : wj = 0 ∨ wj = 1 ∨ wj = 2 ∨ wj = 3 ∨ wj = 4) with rfl | rfl | rfl | rfl | rfl
  · exact rfl
  · exact rfl
  · exact rfl
  · exact rfl
  · exact rfl
theorem qX8_goTillDusk_67a {wj : Nat} (hwj : wj < 5) (k30 : KT HP) (v6 : Int32) : BX8_goTillDusk_67 k30 [(0, .ref 44), (6, .int v6)] [] (CH mz tp tk rd hi sc pl dr (wA T CF SN 14 (24 + wj) mo be ce fg sv ou la) wb rc) =
    (if v6 < 0 then (BX8_goTillDusk_93 k30) [(0, .ref 44), (6, .int v6)] [] (CH mz tp tk rd hi sc pl dr (wA T CF SN 14 (24 + wj) mo be ce fg sv ou la) wb rc) else (if (201 : Int32) ≤ v6 then (BX8_goTillDusk_93 k30) [(0, .ref 44), (6, .int v6)] [] (CH mz tp tk rd hi sc pl dr (wA T CF SN 14 (24 + wj) mo be ce fg sv ou la) wb rc) else (if v6 < 0 ∨ 201 ≤ v6.toNatClampNeg then none else (BX8_goTillDusk_93 k30) [(0, .ref 44), (6, .int v6)] [] (CH mz tp tk rd hi sc pl dr (wA (upd T v6.toNatClampNeg ce) CF SN 14 (24 + wj) mo be ce fg sv ou la) wb rc)))) := by
  rcases (by omega : wj = 0 ∨ wj = 1 ∨ wj = 2 ∨ wj = 3 ∨ wj = 4) with rfl | rfl | rfl | rfl | rfl
  · exact rfl
  · exact rfl
  · exact rfl
  · exact rfl
  · exact rfl
theorem qX8_goTillDusk_64a {wj : Nat} (hwj : wj < 5) (k30 : KT HP) (v6 : Int32) {T' CF' SN' : Nat → Int32} {mo' be' : Int64} {ce' fg' sv' ou' la' : Int32} (h : EX8_step [.ref 44] (CH mz tp tk rd hi sc pl dr (wA T CF SN 14 (24 + wj) mo be ce fg sv ou la) wb rc) = some (CH mz tp tk rd hi sc pl dr (wA T' CF' SN' 14 (24 + wj) mo' be' ce' fg' sv' ou' la') wb rc)) : BX8_goTillDusk_64 k30 [(0, .ref 44), (6, .int v6)] [.ref 44] (CH mz tp tk rd hi sc pl dr (wA T CF SN 14 (24 + wj) mo be ce fg sv ou la) wb rc) =
    (BX8_goTillDusk_67 k30) [(0, .ref 44), (6, .int v6)] [] (CH mz tp tk rd hi sc pl dr (wA T' CF' SN' 14 (24 + wj) mo' be' ce' fg' sv' ou' la') wb rc) := by
  rcases (by omega : wj = 0 ∨ wj = 1 ∨ wj = 2 ∨ wj = 3 ∨ wj = 4) with rfl | rfl | rfl | rfl | rfl
  · exact (cal_eq h rfl rfl rfl).trans rfl
  · exact (cal_eq h rfl rfl rfl).trans rfl
  · exact (cal_eq h rfl rfl rfl).trans rfl
  · exact (cal_eq h rfl rfl rfl).trans rfl
  · exact (cal_eq h rfl rfl rfl).trans rfl
theorem qX8_goTillDusk_93a {wj : Nat} (hwj : wj < 5) (k30 : KT HP) (v6 : Int32) : BX8_goTillDusk_93 k30 [(0, .ref 44), (6, .int v6)] [] (CH mz tp tk rd hi sc pl dr (wA T CF SN 14 (24 + wj) mo be ce fg sv ou la) wb rc) =
    (BX8_goTillDusk_101 k30) [(0, .ref 44), (6, .int v6)] [.ref 44, .ref 44] (CH mz tp tk rd hi sc pl dr (wA T CF SN 14 (24 + wj) mo be ce fg sv ou v6) wb rc) := by
  rcases (by omega : wj = 0 ∨ wj = 1 ∨ wj = 2 ∨ wj = 3 ∨ wj = 4) with rfl | rfl | rfl | rfl | rfl
  · exact rfl
  · exact rfl
  · exact rfl
  · exact rfl
  · exact rfl
theorem qX8_goTillDusk_101a {wj : Nat} (hwj : wj < 5) (k30 : KT HP) (v6 : Int32) {r : Bool} (h : EX8_isAtGate [.ref 44] (CH mz tp tk rd hi sc pl dr (wA T CF SN 14 (24 + wj) mo be ce fg sv ou la) wb rc) = some r) : BX8_goTillDusk_101 k30 [(0, .ref 44), (6, .int v6)] [.ref 44, .ref 44] (CH mz tp tk rd hi sc pl dr (wA T CF SN 14 (24 + wj) mo be ce fg sv ou la) wb rc) =
    (if (b2i r) = 0 then k30 [(0, .ref 44), (6, .int (v6 + 1))] [] (CH mz tp tk rd hi sc pl dr (wA T CF SN 14 (24 + wj) mo be ce fg sv (-2) la) wb rc) else k30 [(0, .ref 44), (6, .int (v6 + 1))] [] (CH mz tp tk rd hi sc pl dr (wA T CF SN 14 (24 + wj) mo be ce fg sv v6 la) wb rc)) := by
  rcases (by omega : wj = 0 ∨ wj = 1 ∨ wj = 2 ∨ wj = 3 ∨ wj = 4) with rfl | rfl | rfl | rfl | rfl
  · exact (cal_eq h rfl rfl (chk_rf _ _ _)).trans rfl
  · exact (cal_eq h rfl rfl (chk_rf _ _ _)).trans rfl
  · exact (cal_eq h rfl rfl (chk_rf _ _ _)).trans rfl
  · exact (cal_eq h rfl rfl (chk_rf _ _ _)).trans rfl
  · exact (cal_eq h rfl rfl (chk_rf _ _ _)).trans rfl
theorem eX8_cellIn_sa {wj : Nat} (hwj : wj < 5) (n : Int32) : EX8_cellIn [.ref 44, .int n] (CH mz tp tk rd hi sc pl dr (wA T CF SN 14 (24 + wj) mo be ce fg sv ou la) wb rc) = BX8_cellIn_0 [(0, .ref 44), (1, .int n)] [] (CH mz tp tk rd hi sc pl dr (wA T CF SN 14 (24 + wj) mo be ce fg sv ou la) wb rc) := by
  rcases (by omega : wj = 0 ∨ wj = 1 ∨ wj = 2 ∨ wj = 3 ∨ wj = 4) with rfl | rfl | rfl | rfl | rfl
  · exact rfl
  · exact rfl
  · exact rfl
  · exact rfl
  · exact rfl
theorem qX8_cellIn_0a {wj : Nat} (hwj : wj < 5) (n : Int32) : BX8_cellIn_0 [(0, .ref 44), (1, .int n)] [] (CH mz tp tk rd hi sc pl dr (wA T CF SN 14 (24 + wj) mo be ce fg sv ou la) wb rc) =
    (if n < ((pl.2.2.2.1 wj).2.2.2.2) then (BX8_cellIn_23) [(0, .ref 44), (1, .int n)] [] (CH mz tp tk rd hi sc pl dr (wA T CF SN 14 (24 + wj) mo be ce fg sv ou la) wb rc) else (if la < n then (BX8_cellIn_23) [(0, .ref 44), (1, .int n)] [] (CH mz tp tk rd hi sc pl dr (wA T CF SN 14 (24 + wj) mo be ce fg sv ou la) wb rc) else (BX8_cellIn_24) [(0, .ref 44), (1, .int n)] [.int 1] (CH mz tp tk rd hi sc pl dr (wA T CF SN 14 (24 + wj) mo be ce fg sv ou la) wb rc))) := by
  rcases (by omega : wj = 0 ∨ wj = 1 ∨ wj = 2 ∨ wj = 3 ∨ wj = 4) with rfl | rfl | rfl | rfl | rfl
  · exact rfl
  · exact rfl
  · exact rfl
  · exact rfl
  · exact rfl
theorem qX8_cellIn_23a {wj : Nat} (hwj : wj < 5) (n : Int32) : BX8_cellIn_23 [(0, .ref 44), (1, .int n)] [] (CH mz tp tk rd hi sc pl dr (wA T CF SN 14 (24 + wj) mo be ce fg sv ou la) wb rc) =
    (BX8_cellIn_24) [(0, .ref 44), (1, .int n)] [.int 0] (CH mz tp tk rd hi sc pl dr (wA T CF SN 14 (24 + wj) mo be ce fg sv ou la) wb rc) := by
  rcases (by omega : wj = 0 ∨ wj = 1 ∨ wj = 2 ∨ wj = 3 ∨ wj = 4) with rfl | rfl | rfl | rfl | rfl
  · exact rfl
  · exact rfl
  · exact rfl
  · exact rfl
  · exact rfl
theorem qX8_cellIn_24a {wj : Nat} (hwj : wj < 5) (n : Int32) (s0 : Int32) : BX8_cellIn_24 [(0, .ref 44), (1, .int n)] [.int s0] (CH mz tp tk rd hi sc pl dr (wA T CF SN 14 (24 + wj) mo be ce fg sv ou la) wb rc) =
    (if s0 = 0 then some (-2) else (if n < 0 then some (-2) else (if (201 : Int32) ≤ n then some (-2) else (if n < 0 ∨ 201 ≤ n.toNatClampNeg then none else some (T n.toNatClampNeg))))) := by
  rcases (by omega : wj = 0 ∨ wj = 1 ∨ wj = 2 ∨ wj = 3 ∨ wj = 4) with rfl | rfl | rfl | rfl | rfl
  · exact rfl
  · exact rfl
  · exact rfl
  · exact rfl
  · exact rfl
theorem eX8_outIn_sa : EX8_outIn [.ref 44] (CH mz tp tk rd hi sc pl dr (wA T CF SN 14 q mo be ce fg sv ou la) wb rc) = BX8_outIn_0 [(0, .ref 44)] [] (CH mz tp tk rd hi sc pl dr (wA T CF SN 14 q mo be ce fg sv ou la) wb rc) := rfl
theorem qX8_outIn_0a : BX8_outIn_0 [(0, .ref 44)] [] (CH mz tp tk rd hi sc pl dr (wA T CF SN 14 q mo be ce fg sv ou la) wb rc) =
    some ou := rfl
theorem eX8_countShouts_sa {wj : Nat} (hwj : wj < 5) : EX8_countShouts [.ref 44] (CH mz tp tk rd hi sc pl dr (wA T CF SN 14 (24 + wj) mo be ce fg sv ou la) wb rc) = BX8_countShouts_0 [(0, .ref 44)] [] (CH mz tp tk rd hi sc pl dr (wA T CF SN 14 (24 + wj) mo be ce fg sv ou la) wb rc) := by
  rcases (by omega : wj = 0 ∨ wj = 1 ∨ wj = 2 ∨ wj = 3 ∨ wj = 4) with rfl | rfl | rfl | rfl | rfl
  · exact rfl
  · exact rfl
  · exact rfl
  · exact rfl
  · exact rfl
theorem qX8_countShouts_0a {wj : Nat} (hwj : wj < 5) : BX8_countShouts_0 [(0, .ref 44)] [] (CH mz tp tk rd hi sc pl dr (wA T CF SN 14 (24 + wj) mo be ce fg sv ou la) wb rc) =
    (if ou = (-2) then some (if 0 < (pl.2.2.2.2.1 - ((pl.2.2.2.1 wj).2.2.2.2)) then (pl.2.2.2.2.1 - ((pl.2.2.2.1 wj).2.2.2.2)) else 0) else some (if 0 < (ou - ((pl.2.2.2.1 wj).2.2.2.2)) then (ou - ((pl.2.2.2.1 wj).2.2.2.2)) else 0)) := by
  rcases (by omega : wj = 0 ∨ wj = 1 ∨ wj = 2 ∨ wj = 3 ∨ wj = 4) with rfl | rfl | rfl | rfl | rfl
  · exact rfl
  · exact rfl
  · exact rfl
  · exact rfl
  · exact rfl
theorem eX8_countCells_sa {wj : Nat} (hwj : wj < 5) : EX8_countCells [.ref 44] (CH mz tp tk rd hi sc pl dr (wA T CF SN 14 (24 + wj) mo be ce fg sv ou la) wb rc) = BX8_countCells_0 [(0, .ref 44)] [] (CH mz tp tk rd hi sc pl dr (wA T CF SN 14 (24 + wj) mo be ce fg sv ou la) wb rc) := by
  rcases (by omega : wj = 0 ∨ wj = 1 ∨ wj = 2 ∨ wj = 3 ∨ wj = 4) with rfl | rfl | rfl | rfl | rfl
  · exact rfl
  · exact rfl
  · exact rfl
  · exact rfl
  · exact rfl
theorem qX8_countCells_0a {wj : Nat} (hwj : wj < 5) : BX8_countCells_0 [(0, .ref 44)] [] (CH mz tp tk rd hi sc pl dr (wA T CF SN 14 (24 + wj) mo be ce fg sv ou la) wb rc) =
    (if pl.2.2.2.2.1 < ((pl.2.2.2.1 wj).2.2.2.2) then some 0 else some (bcnt be)) := by
  rcases (by omega : wj = 0 ∨ wj = 1 ∨ wj = 2 ∨ wj = 3 ∨ wj = 4) with rfl | rfl | rfl | rfl | rfl
  · exact rfl
  · exact rfl
  · exact rfl
  · exact rfl
  · exact rfl
theorem eX8_isOutSometime_sa : EX8_isOutSometime [.ref 44] (CH mz tp tk rd hi sc pl dr (wA T CF SN 14 q mo be ce fg sv ou la) wb rc) = BX8_isOutSometime_0 [(0, .ref 44)] [] (CH mz tp tk rd hi sc pl dr (wA T CF SN 14 q mo be ce fg sv ou la) wb rc) := rfl
theorem qX8_isOutSometime_0a : BX8_isOutSometime_0 [(0, .ref 44)] [] (CH mz tp tk rd hi sc pl dr (wA T CF SN 14 q mo be ce fg sv ou la) wb rc) =
    lp (BX8_isOutSometime_2) FU [(0, .ref 44), (1, .int 0)] [] (CH mz tp tk rd hi sc pl dr (wA T CF SN 14 q mo be ce fg sv ou la) wb rc) := rfl
theorem qX8_isOutSometime_2a (k2 : KT (Bool × HP)) (v1 : Int32) : BX8_isOutSometime_2 k2 [(0, .ref 44), (1, .int v1)] [] (CH mz tp tk rd hi sc pl dr (wA T CF SN 14 q mo be ce fg sv ou la) wb rc) =
    (if (192 : Int32) ≤ v1 then (BX8_isOutSometime_27) [] [.ref 44] (CH mz tp tk rd hi sc pl dr (wA T CF SN 14 q mo be ce fg sv ou la) wb rc) else (BX8_isOutSometime_10 k2) [(0, .ref 44), (1, .int v1)] [.ref 44] (CH mz tp tk rd hi sc pl dr (wA T CF SN 14 q mo be ce fg sv ou la) wb rc)) := rfl
theorem qX8_isOutSometime_27a {r : Bool} (h : EX8_isAtGate [.ref 44] (CH mz tp tk rd hi sc pl dr (wA T CF SN 14 q mo be ce fg sv ou la) wb rc) = some r) : BX8_isOutSometime_27 [] [.ref 44] (CH mz tp tk rd hi sc pl dr (wA T CF SN 14 q mo be ce fg sv ou la) wb rc) =
    (zb (b2i r)).bind (fun b => some (b, (CH mz tp tk rd hi sc pl dr (wA T CF SN 14 q mo be ce fg sv ou la) wb rc))) := (cal_eq h rfl rfl (chk_rf _ _ _)).trans rfl
theorem qX8_isOutSometime_10a (k2 : KT (Bool × HP)) (v1 : Int32) {r : Bool} (h : EX8_isAtGate [.ref 44] (CH mz tp tk rd hi sc pl dr (wA T CF SN 14 q mo be ce fg sv ou la) wb rc) = some r) : BX8_isOutSometime_10 k2 [(0, .ref 44), (1, .int v1)] [.ref 44] (CH mz tp tk rd hi sc pl dr (wA T CF SN 14 q mo be ce fg sv ou la) wb rc) =
    (if (b2i r) = 0 then (BX8_isOutSometime_17 k2) [(0, .ref 44), (1, .int v1)] [.ref 44] (CH mz tp tk rd hi sc pl dr (wA T CF SN 14 q mo be ce fg sv ou la) wb rc) else (BX8_isOutSometime_27) [] [.ref 44] (CH mz tp tk rd hi sc pl dr (wA T CF SN 14 q mo be ce fg sv ou la) wb rc)) := (cal_eq h rfl rfl (chk_rf _ _ _)).trans rfl
theorem qX8_isOutSometime_17a (k2 : KT (Bool × HP)) (v1 : Int32) {T' CF' SN' : Nat → Int32} {mo' be' : Int64} {ce' fg' sv' ou' la' : Int32} (h : EX8_step [.ref 44] (CH mz tp tk rd hi sc pl dr (wA T CF SN 14 q mo be ce fg sv ou la) wb rc) = some (CH mz tp tk rd hi sc pl dr (wA T' CF' SN' 14 q mo' be' ce' fg' sv' ou' la') wb rc)) : BX8_isOutSometime_17 k2 [(0, .ref 44), (1, .int v1)] [.ref 44] (CH mz tp tk rd hi sc pl dr (wA T CF SN 14 q mo be ce fg sv ou la) wb rc) =
    k2 [(0, .ref 44), (1, .int (v1 + 1))] [] (CH mz tp tk rd hi sc pl dr (wA T' CF' SN' 14 q mo' be' ce' fg' sv' ou' la') wb rc) := (cal_eq h rfl rfl rfl).trans rfl
theorem eX8_ringLength_sa : EX8_ringLength [.ref 44] (CH mz tp tk rd hi sc pl dr (wA T CF SN 14 q mo be ce fg sv ou la) wb rc) = BX8_ringLength_0 [(0, .ref 44)] [] (CH mz tp tk rd hi sc pl dr (wA T CF SN 14 q mo be ce fg sv ou la) wb rc) := rfl
theorem qX8_ringLength_0a : BX8_ringLength_0 [(0, .ref 44)] [] (CH mz tp tk rd hi sc pl dr (wA T CF SN 14 q mo be ce fg sv ou la) wb rc) =
    lp (BX8_ringLength_12) FU [(0, .ref 44), (1, .int ce), (2, .int fg), (3, .int 1)] [] (CH mz tp tk rd hi sc pl dr (wA T CF SN 14 q mo be ce fg sv ou la) wb rc) := rfl
theorem qX8_ringLength_12a (k12 : KT (Int32 × HP)) (v1 : Int32) (v2 : Int32) (v3 : Int32) : BX8_ringLength_12 k12 [(0, .ref 44), (1, .int v1), (2, .int v2), (3, .int v3)] [] (CH mz tp tk rd hi sc pl dr (wA T CF SN 14 q mo be ce fg sv ou la) wb rc) =
    (if (192 : Int32) ≤ v3 then some (192, (CH mz tp tk rd hi sc pl dr (wA T CF SN 14 q mo be ce fg sv ou la) wb rc)) else (BX8_ringLength_20 k12) [(0, .ref 44), (1, .int v1), (2, .int v2), (3, .int v3)] [.ref 44] (CH mz tp tk rd hi sc pl dr (wA T CF SN 14 q mo be ce fg sv ou la) wb rc)) := rfl
theorem qX8_ringLength_20a (k12 : KT (Int32 × HP)) (v1 : Int32) (v2 : Int32) (v3 : Int32) {T' CF' SN' : Nat → Int32} {mo' be' : Int64} {ce' fg' sv' ou' la' : Int32} (h : EX8_step [.ref 44] (CH mz tp tk rd hi sc pl dr (wA T CF SN 14 q mo be ce fg sv ou la) wb rc) = some (CH mz tp tk rd hi sc pl dr (wA T' CF' SN' 14 q mo' be' ce' fg' sv' ou' la') wb rc)) : BX8_ringLength_20 k12 [(0, .ref 44), (1, .int v1), (2, .int v2), (3, .int v3)] [.ref 44] (CH mz tp tk rd hi sc pl dr (wA T CF SN 14 q mo be ce fg sv ou la) wb rc) =
    (if ce' = v1 then (if fg' = v2 then some (v3, (CH mz tp tk rd hi sc pl dr (wA T' CF' SN' 14 q mo' be' ce' fg' sv' ou' la') wb rc)) else k12 [(0, .ref 44), (1, .int v1), (2, .int v2), (3, .int (v3 + 1))] [] (CH mz tp tk rd hi sc pl dr (wA T' CF' SN' 14 q mo' be' ce' fg' sv' ou' la') wb rc)) else k12 [(0, .ref 44), (1, .int v1), (2, .int v2), (3, .int (v3 + 1))] [] (CH mz tp tk rd hi sc pl dr (wA T' CF' SN' 14 q mo' be' ce' fg' sv' ou' la') wb rc)) := (cal_eq h rfl rfl rfl).trans rfl
theorem eX8_isAtGate_sa : EX8_isAtGate [.ref 44] (CH mz tp tk rd hi sc pl dr (wA T CF SN 14 q mo be ce fg sv ou la) wb rc) = BX8_isAtGate_0 [(0, .ref 44)] [] (CH mz tp tk rd hi sc pl dr (wA T CF SN 14 q mo be ce fg sv ou la) wb rc) := rfl
theorem qX8_isAtGate_0a : BX8_isAtGate_0 [(0, .ref 44)] [] (CH mz tp tk rd hi sc pl dr (wA T CF SN 14 q mo be ce fg sv ou la) wb rc) =
    (BX8_isAtGate_11) [] [.int ce, .long pl.2.2.2.2.2.2.2.2.1] (CH mz tp tk rd hi sc pl dr (wA T CF SN 14 q mo be ce fg sv ou la) wb rc) := rfl
theorem qX8_isAtGate_11a (s0 : Int32) (s1 : Int64) {r : Bool} (h : EX10_isIn [.long s1, .int s0] (CH mz tp tk rd hi sc pl dr (wA T CF SN 14 q mo be ce fg sv ou la) wb rc) = some r) : BX8_isAtGate_11 [] [.int s0, .long s1] (CH mz tp tk rd hi sc pl dr (wA T CF SN 14 q mo be ce fg sv ou la) wb rc) =
    zb (b2i r) := (cal_eq h rfl rfl (chk_rf _ _ _)).trans rfl
theorem eX8_step_sa {wj : Nat} (hwj : wj < 5) : EX8_step [.ref 44] (CH mz tp tk rd hi sc pl dr (wA T CF SN 14 (24 + wj) mo be ce fg sv ou la) wb rc) = BX8_step_0 [(0, .ref 44)] [] (CH mz tp tk rd hi sc pl dr (wA T CF SN 14 (24 + wj) mo be ce fg sv ou la) wb rc) := by
  rcases (by omega : wj = 0 ∨ wj = 1 ∨ wj = 2 ∨ wj = 3 ∨ wj = 4) with rfl | rfl | rfl | rfl | rfl
  · exact rfl
  · exact rfl
  · exact rfl
  · exact rfl
  · exact rfl
theorem qX8_step_0a {wj : Nat} (hwj : wj < 5) : BX8_step_0 [(0, .ref 44)] [] (CH mz tp tk rd hi sc pl dr (wA T CF SN 14 (24 + wj) mo be ce fg sv ou la) wb rc) =
    (if ((pl.2.2.2.1 wj).2.1) = 0 then (BX8_step_44) [] [.int 1, .int (fg + 3), .ref 44] (CH mz tp tk rd hi sc pl dr (wA T CF SN 14 (24 + wj) mo be ce fg sv ou la) wb rc) else (if ((pl.2.2.2.1 wj).2.1) = 1 then (BX8_step_58) [] [.int (-1), .int (fg + 5), .ref 44] (CH mz tp tk rd hi sc pl dr (wA T CF SN 14 (24 + wj) mo be ce fg sv ou la) wb rc) else (if ((pl.2.2.2.1 wj).2.1) = 2 then (BX8_step_65) [] [.ref 44] (CH mz tp tk rd hi sc pl dr (wA T CF SN 14 (24 + wj) mo be ce fg sv ou la) wb rc) else (if ((pl.2.2.2.1 wj).2.1) = 3 then (BX8_step_72) [] [.ref 44] (CH mz tp tk rd hi sc pl dr (wA T CF SN 14 (24 + wj) mo be ce fg sv ou la) wb rc) else (BX8_step_79) [] [.ref 44] (CH mz tp tk rd hi sc pl dr (wA T CF SN 14 (24 + wj) mo be ce fg sv ou la) wb rc))))) := by
  rcases (by omega : wj = 0 ∨ wj = 1 ∨ wj = 2 ∨ wj = 3 ∨ wj = 4) with rfl | rfl | rfl | rfl | rfl
  · exact rfl
  · exact rfl
  · exact rfl
  · exact rfl
  · exact rfl
theorem qX8_step_79a {wj : Nat} (hwj : wj < 5) {T' CF' SN' : Nat → Int32} {mo' be' : Int64} {ce' fg' sv' ou' la' : Int32} (h : EX8_stepByLot [.ref 44] (CH mz tp tk rd hi sc pl dr (wA T CF SN 14 (24 + wj) mo be ce fg sv ou la) wb rc) = some (CH mz tp tk rd hi sc pl dr (wA T' CF' SN' 14 (24 + wj) mo' be' ce' fg' sv' ou' la') wb rc)) : BX8_step_79 [] [.ref 44] (CH mz tp tk rd hi sc pl dr (wA T CF SN 14 (24 + wj) mo be ce fg sv ou la) wb rc) =
    some (CH mz tp tk rd hi sc pl dr (wA T' CF' SN' 14 (24 + wj) mo' be' ce' fg' sv' ou' la') wb rc) := by
  rcases (by omega : wj = 0 ∨ wj = 1 ∨ wj = 2 ∨ wj = 3 ∨ wj = 4) with rfl | rfl | rfl | rfl | rfl
  · exact (cal_eq h rfl rfl rfl).trans rfl
  · exact (cal_eq h rfl rfl rfl).trans rfl
  · exact (cal_eq h rfl rfl rfl).trans rfl
  · exact (cal_eq h rfl rfl rfl).trans rfl
  · exact (cal_eq h rfl rfl rfl).trans rfl
theorem qX8_step_72a {wj : Nat} (hwj : wj < 5) {T' CF' SN' : Nat → Int32} {mo' be' : Int64} {ce' fg' sv' ou' la' : Int32} (h : EX8_stepToNoise [.ref 44] (CH mz tp tk rd hi sc pl dr (wA T CF SN 14 (24 + wj) mo be ce fg sv ou la) wb rc) = some (CH mz tp tk rd hi sc pl dr (wA T' CF' SN' 14 (24 + wj) mo' be' ce' fg' sv' ou' la') wb rc)) : BX8_step_72 [] [.ref 44] (CH mz tp tk rd hi sc pl dr (wA T CF SN 14 (24 + wj) mo be ce fg sv ou la) wb rc) =
    some (CH mz tp tk rd hi sc pl dr (wA T' CF' SN' 14 (24 + wj) mo' be' ce' fg' sv' ou' la') wb rc) := by
  rcases (by omega : wj = 0 ∨ wj = 1 ∨ wj = 2 ∨ wj = 3 ∨ wj = 4) with rfl | rfl | rfl | rfl | rfl
  · exact (cal_eq h rfl rfl rfl).trans rfl
  · exact (cal_eq h rfl rfl rfl).trans rfl
  · exact (cal_eq h rfl rfl rfl).trans rfl
  · exact (cal_eq h rfl rfl rfl).trans rfl
  · exact (cal_eq h rfl rfl rfl).trans rfl
theorem qX8_step_65a {wj : Nat} (hwj : wj < 5) {T' CF' SN' : Nat → Int32} {mo' be' : Int64} {ce' fg' sv' ou' la' : Int32} (h : EX8_stepOnce [.ref 44] (CH mz tp tk rd hi sc pl dr (wA T CF SN 14 (24 + wj) mo be ce fg sv ou la) wb rc) = some (CH mz tp tk rd hi sc pl dr (wA T' CF' SN' 14 (24 + wj) mo' be' ce' fg' sv' ou' la') wb rc)) : BX8_step_65 [] [.ref 44] (CH mz tp tk rd hi sc pl dr (wA T CF SN 14 (24 + wj) mo be ce fg sv ou la) wb rc) =
    some (CH mz tp tk rd hi sc pl dr (wA T' CF' SN' 14 (24 + wj) mo' be' ce' fg' sv' ou' la') wb rc) := by
  rcases (by omega : wj = 0 ∨ wj = 1 ∨ wj = 2 ∨ wj = 3 ∨ wj = 4) with rfl | rfl | rfl | rfl | rfl
  · exact (cal_eq h rfl rfl rfl).trans rfl
  · exact (cal_eq h rfl rfl rfl).trans rfl
  · exact (cal_eq h rfl rfl rfl).trans rfl
  · exact (cal_eq h rfl rfl rfl).trans rfl
  · exact (cal_eq h rfl rfl rfl).trans rfl
theorem qX8_step_58a {wj : Nat} (hwj : wj < 5) (s0 : Int32) (s1 : Int32) {T' CF' SN' : Nat → Int32} {mo' be' : Int64} {ce' fg' sv' ou' la' : Int32} (h : EX8_stepTurning [.ref 44, .int s1, .int s0] (CH mz tp tk rd hi sc pl dr (wA T CF SN 14 (24 + wj) mo be ce fg sv ou la) wb rc) = some (CH mz tp tk rd hi sc pl dr (wA T' CF' SN' 14 (24 + wj) mo' be' ce' fg' sv' ou' la') wb rc)) : BX8_step_58 [] [.int s0, .int s1, .ref 44] (CH mz tp tk rd hi sc pl dr (wA T CF SN 14 (24 + wj) mo be ce fg sv ou la) wb rc) =
    some (CH mz tp tk rd hi sc pl dr (wA T' CF' SN' 14 (24 + wj) mo' be' ce' fg' sv' ou' la') wb rc) := by
  rcases (by omega : wj = 0 ∨ wj = 1 ∨ wj = 2 ∨ wj = 3 ∨ wj = 4) with rfl | rfl | rfl | rfl | rfl
  · exact (cal_eq h rfl rfl rfl).trans rfl
  · exact (cal_eq h rfl rfl rfl).trans rfl
  · exact (cal_eq h rfl rfl rfl).trans rfl
  · exact (cal_eq h rfl rfl rfl).trans rfl
  · exact (cal_eq h rfl rfl rfl).trans rfl
theorem qX8_step_44a {wj : Nat} (hwj : wj < 5) (s0 : Int32) (s1 : Int32) {T' CF' SN' : Nat → Int32} {mo' be' : Int64} {ce' fg' sv' ou' la' : Int32} (h : EX8_stepTurning [.ref 44, .int s1, .int s0] (CH mz tp tk rd hi sc pl dr (wA T CF SN 14 (24 + wj) mo be ce fg sv ou la) wb rc) = some (CH mz tp tk rd hi sc pl dr (wA T' CF' SN' 14 (24 + wj) mo' be' ce' fg' sv' ou' la') wb rc)) : BX8_step_44 [] [.int s0, .int s1, .ref 44] (CH mz tp tk rd hi sc pl dr (wA T CF SN 14 (24 + wj) mo be ce fg sv ou la) wb rc) =
    some (CH mz tp tk rd hi sc pl dr (wA T' CF' SN' 14 (24 + wj) mo' be' ce' fg' sv' ou' la') wb rc) := by
  rcases (by omega : wj = 0 ∨ wj = 1 ∨ wj = 2 ∨ wj = 3 ∨ wj = 4) with rfl | rfl | rfl | rfl | rfl
  · exact (cal_eq h rfl rfl rfl).trans rfl
  · exact (cal_eq h rfl rfl rfl).trans rfl
  · exact (cal_eq h rfl rfl rfl).trans rfl
  · exact (cal_eq h rfl rfl rfl).trans rfl
  · exact (cal_eq h rfl rfl rfl).trans rfl
theorem eX8_mownTo_sa (sd : Int32) : EX8_mownTo [.ref 44, .int sd] (CH mz tp tk rd hi sc pl dr (wA T CF SN 14 q mo be ce fg sv ou la) wb rc) = BX8_mownTo_0 [(0, .ref 44), (1, .int sd)] [] (CH mz tp tk rd hi sc pl dr (wA T CF SN 14 q mo be ce fg sv ou la) wb rc) := rfl
theorem qX8_mownTo_0a (sd : Int32) : BX8_mownTo_0 [(0, .ref 44), (1, .int sd)] [] (CH mz tp tk rd hi sc pl dr (wA T CF SN 14 q mo be ce fg sv ou la) wb rc) =
    (BX8_mownTo_12) [(0, .ref 44)] [.int ce, .int sd, .ref 15] (CH mz tp tk rd hi sc pl dr (wA T CF SN 14 q mo be ce fg sv ou la) wb rc) := rfl
theorem qX8_mownTo_12a (s0 : Int32) (s1 : Int32) {r : Int32} (h : EX0_cellTo [.ref 15, .int s1, .int s0] (CH mz tp tk rd hi sc pl dr (wA T CF SN 14 q mo be ce fg sv ou la) wb rc) = some r) : BX8_mownTo_12 [(0, .ref 44)] [.int s0, .int s1, .ref 15] (CH mz tp tk rd hi sc pl dr (wA T CF SN 14 q mo be ce fg sv ou la) wb rc) =
    (if r = (-1) then some (-1) else (BX8_mownTo_26) [(2, .int r)] [.int r, .long mo] (CH mz tp tk rd hi sc pl dr (wA T CF SN 14 q mo be ce fg sv ou la) wb rc)) := (cal_eq h rfl rfl (chk_rf _ _ _)).trans rfl
theorem qX8_mownTo_26a (v2 : Int32) (s0 : Int32) (s1 : Int64) {r : Bool} (h : EX10_isIn [.long s1, .int s0] (CH mz tp tk rd hi sc pl dr (wA T CF SN 14 q mo be ce fg sv ou la) wb rc) = some r) : BX8_mownTo_26 [(2, .int v2)] [.int s0, .long s1] (CH mz tp tk rd hi sc pl dr (wA T CF SN 14 q mo be ce fg sv ou la) wb rc) =
    (if (b2i r) = 0 then some (-1) else some v2) := (cal_eq h rfl rfl (chk_rf _ _ _)).trans rfl
theorem eX8_enter_sa (nx : Int32) (fr : Int32) : EX8_enter [.ref 44, .int nx, .int fr] (CH mz tp tk rd hi sc pl dr (wA T CF SN 14 q mo be ce fg sv ou la) wb rc) = BX8_enter_0 [(0, .ref 44), (1, .int nx), (2, .int fr)] [] (CH mz tp tk rd hi sc pl dr (wA T CF SN 14 q mo be ce fg sv ou la) wb rc) := rfl
theorem qX8_enter_0a (nx : Int32) (fr : Int32) : BX8_enter_0 [(0, .ref 44), (1, .int nx), (2, .int fr)] [] (CH mz tp tk rd hi sc pl dr (wA T CF SN 14 q mo be ce fg sv ou la) wb rc) =
    (BX8_enter_5) [(0, .ref 44), (1, .int nx), (2, .int fr)] [.int nx, .long be] (CH mz tp tk rd hi sc pl dr (wA T CF SN 14 q mo be ce fg sv ou la) wb rc) := rfl
theorem qX8_enter_5a (nx : Int32) (fr : Int32) (s0 : Int32) (s1 : Int64) {r : Bool} (h : EX10_isIn [.long s1, .int s0] (CH mz tp tk rd hi sc pl dr (wA T CF SN 14 q mo be ce fg sv ou la) wb rc) = some r) : BX8_enter_5 [(0, .ref 44), (1, .int nx), (2, .int fr)] [.int s0, .long s1] (CH mz tp tk rd hi sc pl dr (wA T CF SN 14 q mo be ce fg sv ou la) wb rc) =
    (if (b2i r) = 0 then (if nx < 0 then some (CH mz tp tk rd hi sc pl dr (wA T CF SN 14 q mo (be ||| (bitL nx)) nx fg sv ou la) wb rc) else (if (48 : Int32) ≤ nx then some (CH mz tp tk rd hi sc pl dr (wA T CF SN 14 q mo (be ||| (bitL nx)) nx fg sv ou la) wb rc) else (if nx < 0 ∨ 48 ≤ nx.toNatClampNeg then none else some (CH mz tp tk rd hi sc pl dr (wA T (upd CF nx.toNatClampNeg fr) SN 14 q mo (be ||| (bitL nx)) nx fg sv ou la) wb rc)))) else some (CH mz tp tk rd hi sc pl dr (wA T CF SN 14 q mo (be ||| (bitL nx)) nx fg sv ou la) wb rc)) := (cal_eq h rfl rfl (chk_rf _ _ _)).trans rfl
theorem eX8_stepTurning_sa (f : Int32) (t : Int32) : EX8_stepTurning [.ref 44, .int f, .int t] (CH mz tp tk rd hi sc pl dr (wA T CF SN 14 q mo be ce fg sv ou la) wb rc) = BX8_stepTurning_0 [(0, .ref 44), (1, .int f), (2, .int t)] [] (CH mz tp tk rd hi sc pl dr (wA T CF SN 14 q mo be ce fg sv ou la) wb rc) := rfl
theorem qX8_stepTurning_0a (f : Int32) (t : Int32) : BX8_stepTurning_0 [(0, .ref 44), (1, .int f), (2, .int t)] [] (CH mz tp tk rd hi sc pl dr (wA T CF SN 14 q mo be ce fg sv ou la) wb rc) =
    lp (BX8_stepTurning_2) FU [(0, .ref 44), (1, .int f), (2, .int t), (3, .int 0)] [] (CH mz tp tk rd hi sc pl dr (wA T CF SN 14 q mo be ce fg sv ou la) wb rc) := rfl
theorem qX8_stepTurning_2a (k2 : KT HP) (f : Int32) (t : Int32) (v3 : Int32) : BX8_stepTurning_2 k2 [(0, .ref 44), (1, .int f), (2, .int t), (3, .int v3)] [] (CH mz tp tk rd hi sc pl dr (wA T CF SN 14 q mo be ce fg sv ou la) wb rc) =
    (if (4 : Int32) ≤ v3 then some (CH mz tp tk rd hi sc pl dr (wA T CF SN 14 q mo be ce fg sv ou la) wb rc) else (BX8_stepTurning_19 k2) [(0, .ref 44), (1, .int f), (2, .int t), (3, .int v3), (4, .int ((f + (t * v3)) - (f + (t * v3)) / 4 * 4))] [.int ((f + (t * v3)) - (f + (t * v3)) / 4 * 4), .ref 44] (CH mz tp tk rd hi sc pl dr (wA T CF SN 14 q mo be ce fg sv ou la) wb rc)) := rfl
theorem qX8_stepTurning_19a (k2 : KT HP) (f : Int32) (t : Int32) (v3 : Int32) (v4 : Int32) (s0 : Int32) {r : Int32} (h : EX8_mownTo [.ref 44, .int s0] (CH mz tp tk rd hi sc pl dr (wA T CF SN 14 q mo be ce fg sv ou la) wb rc) = some r) : BX8_stepTurning_19 k2 [(0, .ref 44), (1, .int f), (2, .int t), (3, .int v3), (4, .int v4)] [.int s0, .ref 44] (CH mz tp tk rd hi sc pl dr (wA T CF SN 14 q mo be ce fg sv ou la) wb rc) =
    (if r = (-1) then k2 [(0, .ref 44), (1, .int f), (2, .int t), (3, .int (v3 + 1))] [] (CH mz tp tk rd hi sc pl dr (wA T CF SN 14 q mo be ce fg sv ou la) wb rc) else (BX8_stepTurning_43) [] [.int ce, .int r, .ref 44] (CH mz tp tk rd hi sc pl dr (wA T CF SN 14 q mo be ce v4 sv ou la) wb rc)) := (cal_eq h rfl rfl (chk_rf _ _ _)).trans rfl
theorem qX8_stepTurning_43a (s0 : Int32) (s1 : Int32) {T' CF' SN' : Nat → Int32} {mo' be' : Int64} {ce' fg' sv' ou' la' : Int32} (h : EX8_enter [.ref 44, .int s1, .int s0] (CH mz tp tk rd hi sc pl dr (wA T CF SN 14 q mo be ce fg sv ou la) wb rc) = some (CH mz tp tk rd hi sc pl dr (wA T' CF' SN' 14 q mo' be' ce' fg' sv' ou' la') wb rc)) : BX8_stepTurning_43 [] [.int s0, .int s1, .ref 44] (CH mz tp tk rd hi sc pl dr (wA T CF SN 14 q mo be ce fg sv ou la) wb rc) =
    some (CH mz tp tk rd hi sc pl dr (wA T' CF' SN' 14 q mo' be' ce' fg' sv' ou' la') wb rc) := (cal_eq h rfl rfl rfl).trans rfl
theorem eX8_stepOnce_sa : EX8_stepOnce [.ref 44] (CH mz tp tk rd hi sc pl dr (wA T CF SN 14 q mo be ce fg sv ou la) wb rc) = BX8_stepOnce_0 [(0, .ref 44)] [] (CH mz tp tk rd hi sc pl dr (wA T CF SN 14 q mo be ce fg sv ou la) wb rc) := rfl
theorem qX8_stepOnce_0a : BX8_stepOnce_0 [(0, .ref 44)] [] (CH mz tp tk rd hi sc pl dr (wA T CF SN 14 q mo be ce fg sv ou la) wb rc) =
    lp (BX8_stepOnce_2) FU [(0, .ref 44), (1, .int 0)] [] (CH mz tp tk rd hi sc pl dr (wA T CF SN 14 q mo be ce fg sv ou la) wb rc) := rfl
theorem qX8_stepOnce_2a (k2 : KT HP) (v1 : Int32) : BX8_stepOnce_2 k2 [(0, .ref 44), (1, .int v1)] [] (CH mz tp tk rd hi sc pl dr (wA T CF SN 14 q mo be ce fg sv ou la) wb rc) =
    (if (4 : Int32) ≤ v1 then (if ce < 0 then (BX8_stepOnce_76) [(0, .ref 44)] [] (CH mz tp tk rd hi sc pl dr (wA T CF SN 14 q mo be ce fg sv ou la) wb rc) else (if (48 : Int32) ≤ ce then (BX8_stepOnce_76) [(0, .ref 44)] [] (CH mz tp tk rd hi sc pl dr (wA T CF SN 14 q mo be ce fg sv ou la) wb rc) else (if ce < 0 ∨ 48 ≤ ce.toNatClampNeg then none else (BX8_stepOnce_77) [(0, .ref 44)] [.int (CF ce.toNatClampNeg)] (CH mz tp tk rd hi sc pl dr (wA T CF SN 14 q mo be ce fg sv ou la) wb rc)))) else (BX8_stepOnce_9 k2) [(0, .ref 44), (1, .int v1)] [.int v1, .ref 44] (CH mz tp tk rd hi sc pl dr (wA T CF SN 14 q mo be ce fg sv ou la) wb rc)) := rfl
theorem qX8_stepOnce_76a : BX8_stepOnce_76 [(0, .ref 44)] [] (CH mz tp tk rd hi sc pl dr (wA T CF SN 14 q mo be ce fg sv ou la) wb rc) =
    (BX8_stepOnce_77) [(0, .ref 44)] [.int (-1)] (CH mz tp tk rd hi sc pl dr (wA T CF SN 14 q mo be ce fg sv ou la) wb rc) := rfl
theorem qX8_stepOnce_77a (s0 : Int32) : BX8_stepOnce_77 [(0, .ref 44)] [.int s0] (CH mz tp tk rd hi sc pl dr (wA T CF SN 14 q mo be ce fg sv ou la) wb rc) =
    (if s0 = (-1) then some (CH mz tp tk rd hi sc pl dr (wA T CF SN 14 q mo be ce fg sv ou la) wb rc) else (BX8_stepOnce_88) [(0, .ref 44), (1, .int s0)] [.int s0, .long mo] (CH mz tp tk rd hi sc pl dr (wA T CF SN 14 q mo be ce fg sv ou la) wb rc)) := rfl
theorem qX8_stepOnce_9a (k2 : KT HP) (v1 : Int32) (s0 : Int32) {r : Int32} (h : EX8_mownTo [.ref 44, .int s0] (CH mz tp tk rd hi sc pl dr (wA T CF SN 14 q mo be ce fg sv ou la) wb rc) = some r) : BX8_stepOnce_9 k2 [(0, .ref 44), (1, .int v1)] [.int s0, .ref 44] (CH mz tp tk rd hi sc pl dr (wA T CF SN 14 q mo be ce fg sv ou la) wb rc) =
    (if r = (-1) then k2 [(0, .ref 44), (1, .int (v1 + 1))] [] (CH mz tp tk rd hi sc pl dr (wA T CF SN 14 q mo be ce fg sv ou la) wb rc) else (BX8_stepOnce_23 k2) [(0, .ref 44), (1, .int v1), (2, .int r)] [.int r, .long be] (CH mz tp tk rd hi sc pl dr (wA T CF SN 14 q mo be ce fg sv ou la) wb rc)) := (cal_eq h rfl rfl (chk_rf _ _ _)).trans rfl
theorem qX8_stepOnce_88a (v1 : Int32) (s0 : Int32) (s1 : Int64) {r : Bool} (h : EX10_isIn [.long s1, .int s0] (CH mz tp tk rd hi sc pl dr (wA T CF SN 14 q mo be ce fg sv ou la) wb rc) = some r) : BX8_stepOnce_88 [(0, .ref 44), (1, .int v1)] [.int s0, .long s1] (CH mz tp tk rd hi sc pl dr (wA T CF SN 14 q mo be ce fg sv ou la) wb rc) =
    (if (b2i r) = 0 then some (CH mz tp tk rd hi sc pl dr (wA T CF SN 14 q mo be ce fg sv ou la) wb rc) else (BX8_stepOnce_100) [] [.int ce, .int v1, .ref 44] (CH mz tp tk rd hi sc pl dr (wA T CF SN 14 q mo be ce fg sv ou la) wb rc)) := (cal_eq h rfl rfl (chk_rf _ _ _)).trans rfl
theorem qX8_stepOnce_23a (k2 : KT HP) (v1 : Int32) (v2 : Int32) (s0 : Int32) (s1 : Int64) {r : Bool} (h : EX10_isIn [.long s1, .int s0] (CH mz tp tk rd hi sc pl dr (wA T CF SN 14 q mo be ce fg sv ou la) wb rc) = some r) : BX8_stepOnce_23 k2 [(0, .ref 44), (1, .int v1), (2, .int v2)] [.int s0, .long s1] (CH mz tp tk rd hi sc pl dr (wA T CF SN 14 q mo be ce fg sv ou la) wb rc) =
    (if (b2i r) = 0 then (BX8_stepOnce_35) [] [.int ce, .int v2, .ref 44] (CH mz tp tk rd hi sc pl dr (wA T CF SN 14 q mo be ce fg sv ou la) wb rc) else k2 [(0, .ref 44), (1, .int (v1 + 1))] [] (CH mz tp tk rd hi sc pl dr (wA T CF SN 14 q mo be ce fg sv ou la) wb rc)) := (cal_eq h rfl rfl (chk_rf _ _ _)).trans rfl
theorem qX8_stepOnce_100a (s0 : Int32) (s1 : Int32) {T' CF' SN' : Nat → Int32} {mo' be' : Int64} {ce' fg' sv' ou' la' : Int32} (h : EX8_enter [.ref 44, .int s1, .int s0] (CH mz tp tk rd hi sc pl dr (wA T CF SN 14 q mo be ce fg sv ou la) wb rc) = some (CH mz tp tk rd hi sc pl dr (wA T' CF' SN' 14 q mo' be' ce' fg' sv' ou' la') wb rc)) : BX8_stepOnce_100 [] [.int s0, .int s1, .ref 44] (CH mz tp tk rd hi sc pl dr (wA T CF SN 14 q mo be ce fg sv ou la) wb rc) =
    some (CH mz tp tk rd hi sc pl dr (wA T' CF' SN' 14 q mo' be' ce' fg' sv' ou' la') wb rc) := (cal_eq h rfl rfl rfl).trans rfl
theorem qX8_stepOnce_35a (s0 : Int32) (s1 : Int32) {T' CF' SN' : Nat → Int32} {mo' be' : Int64} {ce' fg' sv' ou' la' : Int32} (h : EX8_enter [.ref 44, .int s1, .int s0] (CH mz tp tk rd hi sc pl dr (wA T CF SN 14 q mo be ce fg sv ou la) wb rc) = some (CH mz tp tk rd hi sc pl dr (wA T' CF' SN' 14 q mo' be' ce' fg' sv' ou' la') wb rc)) : BX8_stepOnce_35 [] [.int s0, .int s1, .ref 44] (CH mz tp tk rd hi sc pl dr (wA T CF SN 14 q mo be ce fg sv ou la) wb rc) =
    some (CH mz tp tk rd hi sc pl dr (wA T' CF' SN' 14 q mo' be' ce' fg' sv' ou' la') wb rc) := (cal_eq h rfl rfl rfl).trans rfl
theorem eX8_stepToNoise_sa : EX8_stepToNoise [.ref 44] (CH mz tp tk rd hi sc pl dr (wA T CF SN 14 q mo be ce fg sv ou la) wb rc) = BX8_stepToNoise_0 [(0, .ref 44)] [] (CH mz tp tk rd hi sc pl dr (wA T CF SN 14 q mo be ce fg sv ou la) wb rc) := rfl
theorem qX8_stepToNoise_0a : BX8_stepToNoise_0 [(0, .ref 44)] [] (CH mz tp tk rd hi sc pl dr (wA T CF SN 14 q mo be ce fg sv ou la) wb rc) =
    (if ce = pl.2.2.2.2.2.2.2.2.2.1 then some (CH mz tp tk rd hi sc pl dr (wA T CF SN 14 q mo be ce fg sv ou la) wb rc) else lp (BX8_stepToNoise_22) FU [(0, .ref 44), (1, .int (-1)), (2, .int 48), (3, .int 0)] [] (CH mz tp tk rd hi sc pl dr (wA T CF SN 14 q mo be ce fg sv ou la) wb rc)) := rfl
theorem qX8_stepToNoise_22a (k22 : KT HP) (v1 : Int32) (v2 : Int32) (v3 : Int32) : BX8_stepToNoise_22 k22 [(0, .ref 44), (1, .int v1), (2, .int v2), (3, .int v3)] [] (CH mz tp tk rd hi sc pl dr (wA T CF SN 14 q mo be ce fg sv ou la) wb rc) =
    (if (4 : Int32) ≤ v3 then (if v1 = (-1) then some (CH mz tp tk rd hi sc pl dr (wA T CF SN 14 q mo be ce fg sv ou la) wb rc) else (BX8_stepToNoise_97) [] [.int ce, .int v1, .ref 44] (CH mz tp tk rd hi sc pl dr (wA T CF SN 14 q mo be ce fg sv ou la) wb rc)) else (BX8_stepToNoise_29 k22) [(0, .ref 44), (1, .int v1), (2, .int v2), (3, .int v3)] [.int v3, .ref 44] (CH mz tp tk rd hi sc pl dr (wA T CF SN 14 q mo be ce fg sv ou la) wb rc)) := rfl
theorem qX8_stepToNoise_97a (s0 : Int32) (s1 : Int32) {T' CF' SN' : Nat → Int32} {mo' be' : Int64} {ce' fg' sv' ou' la' : Int32} (h : EX8_enter [.ref 44, .int s1, .int s0] (CH mz tp tk rd hi sc pl dr (wA T CF SN 14 q mo be ce fg sv ou la) wb rc) = some (CH mz tp tk rd hi sc pl dr (wA T' CF' SN' 14 q mo' be' ce' fg' sv' ou' la') wb rc)) : BX8_stepToNoise_97 [] [.int s0, .int s1, .ref 44] (CH mz tp tk rd hi sc pl dr (wA T CF SN 14 q mo be ce fg sv ou la) wb rc) =
    some (CH mz tp tk rd hi sc pl dr (wA T' CF' SN' 14 q mo' be' ce' fg' sv' ou' la') wb rc) := (cal_eq h rfl rfl rfl).trans rfl
theorem qX8_stepToNoise_29a (k22 : KT HP) (v1 : Int32) (v2 : Int32) (v3 : Int32) (s0 : Int32) {r : Int32} (h : EX8_mownTo [.ref 44, .int s0] (CH mz tp tk rd hi sc pl dr (wA T CF SN 14 q mo be ce fg sv ou la) wb rc) = some r) : BX8_stepToNoise_29 k22 [(0, .ref 44), (1, .int v1), (2, .int v2), (3, .int v3)] [.int s0, .ref 44] (CH mz tp tk rd hi sc pl dr (wA T CF SN 14 q mo be ce fg sv ou la) wb rc) =
    (if r < 0 then (BX8_stepToNoise_59 k22) [(0, .ref 44), (1, .int v1), (2, .int v2), (3, .int v3), (4, .int r)] [] (CH mz tp tk rd hi sc pl dr (wA T CF SN 14 q mo be ce fg sv ou la) wb rc) else (if (48 : Int32) ≤ r then (BX8_stepToNoise_59 k22) [(0, .ref 44), (1, .int v1), (2, .int v2), (3, .int v3), (4, .int r)] [] (CH mz tp tk rd hi sc pl dr (wA T CF SN 14 q mo be ce fg sv ou la) wb rc) else (if r < 0 ∨ 48 ≤ r.toNatClampNeg then none else (BX8_stepToNoise_61 k22) [(0, .ref 44), (1, .int v1), (2, .int v2), (3, .int v3), (4, .int r)] [.int (SN r.toNatClampNeg)] (CH mz tp tk rd hi sc pl dr (wA T CF SN 14 q mo be ce fg sv ou la) wb rc)))) := (cal_eq h rfl rfl (chk_rf _ _ _)).trans rfl
theorem qX8_stepToNoise_59a (k22 : KT HP) (v1 : Int32) (v2 : Int32) (v3 : Int32) (v4 : Int32) : BX8_stepToNoise_59 k22 [(0, .ref 44), (1, .int v1), (2, .int v2), (3, .int v3), (4, .int v4)] [] (CH mz tp tk rd hi sc pl dr (wA T CF SN 14 q mo be ce fg sv ou la) wb rc) =
    (BX8_stepToNoise_61 k22) [(0, .ref 44), (1, .int v1), (2, .int v2), (3, .int v3), (4, .int v4)] [.int (-2)] (CH mz tp tk rd hi sc pl dr (wA T CF SN 14 q mo be ce fg sv ou la) wb rc) := rfl
theorem qX8_stepToNoise_61a (k22 : KT HP) (v1 : Int32) (v2 : Int32) (v3 : Int32) (v4 : Int32) (s0 : Int32) : BX8_stepToNoise_61 k22 [(0, .ref 44), (1, .int v1), (2, .int v2), (3, .int v3), (4, .int v4)] [.int s0] (CH mz tp tk rd hi sc pl dr (wA T CF SN 14 q mo be ce fg sv ou la) wb rc) =
    (if s0 < 0 then k22 [(0, .ref 44), (1, .int v1), (2, .int v2), (3, .int (v3 + 1))] [] (CH mz tp tk rd hi sc pl dr (wA T CF SN 14 q mo be ce fg sv ou la) wb rc) else (if v2 ≤ s0 then k22 [(0, .ref 44), (1, .int v1), (2, .int v2), (3, .int (v3 + 1))] [] (CH mz tp tk rd hi sc pl dr (wA T CF SN 14 q mo be ce fg sv ou la) wb rc) else k22 [(0, .ref 44), (1, .int v4), (2, .int s0), (3, .int (v3 + 1))] [] (CH mz tp tk rd hi sc pl dr (wA T CF SN 14 q mo be ce fg sv ou la) wb rc))) := rfl
theorem eX8_stepByLot_sa : EX8_stepByLot [.ref 44] (CH mz tp tk rd hi sc pl dr (wA T CF SN 14 q mo be ce fg sv ou la) wb rc) = BX8_stepByLot_0 [(0, .ref 44)] [] (CH mz tp tk rd hi sc pl dr (wA T CF SN 14 q mo be ce fg sv ou la) wb rc) := rfl
theorem qX8_stepByLot_0a : BX8_stepByLot_0 [(0, .ref 44)] [] (CH mz tp tk rd hi sc pl dr (wA T CF SN 14 q mo be ce fg sv ou la) wb rc) =
    (if (bcnt ((besd pl.1 (bitL ce)) &&& mo)) = 0 then some (CH mz tp tk rd hi sc pl dr (wA T CF SN 14 q mo be ce fg sv ou la) wb rc) else (if ¬ (bcnt ((besd pl.1 (bitL ce)) &&& mo)) = 0 then lp (BX8_stepByLot_44) FU [(0, .ref 44), (2, .int ((((75 * sv) + 74) - ((75 * sv) + 74) / 65537 * 65537) - (((75 * sv) + 74) - ((75 * sv) + 74) / 65537 * 65537) / (bcnt ((besd pl.1 (bitL ce)) &&& mo)) * (bcnt ((besd pl.1 (bitL ce)) &&& mo)))), (3, .int 0)] [] (CH mz tp tk rd hi sc pl dr (wA T CF SN 14 q mo be ce fg (((75 * sv) + 74) - ((75 * sv) + 74) / 65537 * 65537) ou la) wb rc) else none)) := rfl
theorem qX8_stepByLot_44a (k44 : KT HP) (v2 : Int32) (v3 : Int32) : BX8_stepByLot_44 k44 [(0, .ref 44), (2, .int v2), (3, .int v3)] [] (CH mz tp tk rd hi sc pl dr (wA T CF SN 14 q mo be ce fg sv ou la) wb rc) =
    (if (4 : Int32) ≤ v3 then some (CH mz tp tk rd hi sc pl dr (wA T CF SN 14 q mo be ce fg sv ou la) wb rc) else (BX8_stepByLot_51 k44) [(0, .ref 44), (2, .int v2), (3, .int v3)] [.int v3, .ref 44] (CH mz tp tk rd hi sc pl dr (wA T CF SN 14 q mo be ce fg sv ou la) wb rc)) := rfl
theorem qX8_stepByLot_51a (k44 : KT HP) (v2 : Int32) (v3 : Int32) (s0 : Int32) {r : Int32} (h : EX8_mownTo [.ref 44, .int s0] (CH mz tp tk rd hi sc pl dr (wA T CF SN 14 q mo be ce fg sv ou la) wb rc) = some r) : BX8_stepByLot_51 k44 [(0, .ref 44), (2, .int v2), (3, .int v3)] [.int s0, .ref 44] (CH mz tp tk rd hi sc pl dr (wA T CF SN 14 q mo be ce fg sv ou la) wb rc) =
    (if r = (-1) then k44 [(0, .ref 44), (2, .int v2), (3, .int (v3 + 1))] [] (CH mz tp tk rd hi sc pl dr (wA T CF SN 14 q mo be ce fg sv ou la) wb rc) else (if v2 = 0 then (BX8_stepByLot_73) [] [.int ce, .int r, .ref 44] (CH mz tp tk rd hi sc pl dr (wA T CF SN 14 q mo be ce fg sv ou la) wb rc) else k44 [(0, .ref 44), (2, .int (v2 + (-1))), (3, .int (v3 + 1))] [] (CH mz tp tk rd hi sc pl dr (wA T CF SN 14 q mo be ce fg sv ou la) wb rc))) := (cal_eq h rfl rfl (chk_rf _ _ _)).trans rfl
theorem qX8_stepByLot_73a (s0 : Int32) (s1 : Int32) {T' CF' SN' : Nat → Int32} {mo' be' : Int64} {ce' fg' sv' ou' la' : Int32} (h : EX8_enter [.ref 44, .int s1, .int s0] (CH mz tp tk rd hi sc pl dr (wA T CF SN 14 q mo be ce fg sv ou la) wb rc) = some (CH mz tp tk rd hi sc pl dr (wA T' CF' SN' 14 q mo' be' ce' fg' sv' ou' la') wb rc)) : BX8_stepByLot_73 [] [.int s0, .int s1, .ref 44] (CH mz tp tk rd hi sc pl dr (wA T CF SN 14 q mo be ce fg sv ou la) wb rc) =
    some (CH mz tp tk rd hi sc pl dr (wA T' CF' SN' 14 q mo' be' ce' fg' sv' ou' la') wb rc) := (cal_eq h rfl rfl rfl).trans rfl
end
section
variable (mz : MzS) (tp : TpS) (tk : TkS) (rd : RdS) (hi : HiS) (sc : ScS) (pl : PlS) (dr : PlS) (wa : WaS) (rc : (Nat → Int32)) (T CF SN : Nat → Int32) (q : Nat) (mo be : Int64) (ce fg sv ou la : Int32)
theorem eX8_begin_sb (p : Nat) (j : Int32) (m : Int64) (s : Int32) : EX8_begin [.ref 48, .ref 14, .int j, .long m, .int s] (CH mz tp tk rd hi sc pl dr wa (wA T CF SN p q mo be ce fg sv ou la) rc) = BX8_begin_0 [(0, .ref 48), (1, .ref 14), (2, .int j), (3, .long m), (5, .int s)] [] (CH mz tp tk rd hi sc pl dr wa (wA T CF SN p q mo be ce fg sv ou la) rc) := rfl
theorem qX8_begin_0b (p : Nat) (j : Int32) (m : Int64) (s : Int32) : BX8_begin_0 [(0, .ref 48), (1, .ref 14), (2, .int j), (3, .long m), (5, .int s)] [] (CH mz tp tk rd hi sc pl dr wa (wA T CF SN p q mo be ce fg sv ou la) rc) =
    (BX8_begin_11) [(0, .ref 48), (2, .int j), (3, .long m), (5, .int s)] [.int j, .ref 14, .ref 48] (CH mz tp tk rd hi sc pl dr wa (wA T CF SN 14 q mo be ce fg sv ou la) rc) := rfl
theorem qX8_begin_11b {wj : Nat} (hwj : wj < 5) (p : Nat) (j : Int32) (m : Int64) (s : Int32) (s0 : Int32) (h : EX3_walker [.ref 14, .int s0] (CH mz tp tk rd hi sc pl dr wa (wA T CF SN p q mo be ce fg sv ou la) rc) = some (24 + wj)) : BX8_begin_11 [(0, .ref 48), (2, .int j), (3, .long m), (5, .int s)] [.int s0, .ref 14, .ref 48] (CH mz tp tk rd hi sc pl dr wa (wA T CF SN p q mo be ce fg sv ou la) rc) =
    (BX8_begin_66) [(0, .ref 48)] [.int (-1), .int ((pl.2.2.2.1 wj).2.2.1), .ref 48] (CH mz tp tk rd hi sc pl dr wa (wA T CF SN p (24 + wj) m 0 ((pl.2.2.2.1 wj).2.2.1) ((pl.2.2.2.1 wj).2.2.2.1) ((s + j) - (s + j) / 65537 * 65537) ou la) rc) := by
  rcases (by omega : wj = 0 ∨ wj = 1 ∨ wj = 2 ∨ wj = 3 ∨ wj = 4) with rfl | rfl | rfl | rfl | rfl
  · exact (cal_eq h rfl rfl (chk_rf _ _ _)).trans rfl
  · exact (cal_eq h rfl rfl (chk_rf _ _ _)).trans rfl
  · exact (cal_eq h rfl rfl (chk_rf _ _ _)).trans rfl
  · exact (cal_eq h rfl rfl (chk_rf _ _ _)).trans rfl
  · exact (cal_eq h rfl rfl (chk_rf _ _ _)).trans rfl
theorem qX8_begin_66b {wj : Nat} (hwj : wj < 5) (s0 : Int32) (s1 : Int32) {T' CF' SN' : Nat → Int32} {mo' be' : Int64} {ce' fg' sv' ou' la' : Int32} (h : EX8_enter [.ref 48, .int s1, .int s0] (CH mz tp tk rd hi sc pl dr wa (wA T CF SN 14 (24 + wj) mo be ce fg sv ou la) rc) = some (CH mz tp tk rd hi sc pl dr wa (wA T' CF' SN' 14 (24 + wj) mo' be' ce' fg' sv' ou' la') rc)) : BX8_begin_66 [(0, .ref 48)] [.int s0, .int s1, .ref 48] (CH mz tp tk rd hi sc pl dr wa (wA T CF SN 14 (24 + wj) mo be ce fg sv ou la) rc) =
    (if ((pl.2.2.2.1 wj).2.1) = 3 then (BX8_begin_95) [(0, .ref 48)] [.ref 14, .long mo', .ref 15] (CH mz tp tk rd hi sc pl dr wa (wA T' CF' SN' 14 (24 + wj) mo' be' ce' fg' sv' ou' la') rc) else some (CH mz tp tk rd hi sc pl dr wa (wA T' CF' SN' 14 (24 + wj) mo' be' ce' fg' sv' ou' la') rc)) := by
  rcases (by omega : wj = 0 ∨ wj = 1 ∨ wj = 2 ∨ wj = 3 ∨ wj = 4) with rfl | rfl | rfl | rfl | rfl
  · exact (cal_eq h rfl rfl rfl).trans rfl
  · exact (cal_eq h rfl rfl rfl).trans rfl
  · exact (cal_eq h rfl rfl rfl).trans rfl
  · exact (cal_eq h rfl rfl rfl).trans rfl
  · exact (cal_eq h rfl rfl rfl).trans rfl
theorem qX8_begin_95b {wj : Nat} (hwj : wj < 5) (s1 : Int64) {r : Bool} (h : EX3_hasNoise [.ref 14] (CH mz tp tk rd hi sc pl dr wa (wA T CF SN 14 (24 + wj) mo be ce fg sv ou la) rc) = some r) : BX8_begin_95 [(0, .ref 48)] [.ref 14, .long s1, .ref 15] (CH mz tp tk rd hi sc pl dr wa (wA T CF SN 14 (24 + wj) mo be ce fg sv ou la) rc) =
    (if (b2i r) = 0 then (BX8_begin_117) [] [.ref 51, .int 48, .long s1, .ref 15] (CH mz tp tk rd hi sc pl dr wa (wA T CF SN 14 (24 + wj) mo be ce fg sv ou la) rc) else (BX8_begin_117) [] [.ref 51, .int pl.2.2.2.2.2.2.2.2.2.1, .long s1, .ref 15] (CH mz tp tk rd hi sc pl dr wa (wA T CF SN 14 (24 + wj) mo be ce fg sv ou la) rc)) := by
  rcases (by omega : wj = 0 ∨ wj = 1 ∨ wj = 2 ∨ wj = 3 ∨ wj = 4) with rfl | rfl | rfl | rfl | rfl
  · exact (cal_eq h rfl rfl (chk_rf _ _ _)).trans rfl
  · exact (cal_eq h rfl rfl (chk_rf _ _ _)).trans rfl
  · exact (cal_eq h rfl rfl (chk_rf _ _ _)).trans rfl
  · exact (cal_eq h rfl rfl (chk_rf _ _ _)).trans rfl
  · exact (cal_eq h rfl rfl (chk_rf _ _ _)).trans rfl
theorem qX8_begin_117b {wj : Nat} (hwj : wj < 5) (s1 : Int32) (s2 : Int64) {T' CF' SN' : Nat → Int32} {mo' be' : Int64} {ce' fg' sv' ou' la' : Int32} (h : EX0_measure [.ref 15, .long s2, .int s1, .ref 51] (CH mz tp tk rd hi sc pl dr wa (wA T CF SN 14 (24 + wj) mo be ce fg sv ou la) rc) = some (CH mz tp tk rd hi sc pl dr wa (wA T' CF' SN' 14 (24 + wj) mo' be' ce' fg' sv' ou' la') rc)) : BX8_begin_117 [] [.ref 51, .int s1, .long s2, .ref 15] (CH mz tp tk rd hi sc pl dr wa (wA T CF SN 14 (24 + wj) mo be ce fg sv ou la) rc) =
    some (CH mz tp tk rd hi sc pl dr wa (wA T' CF' SN' 14 (24 + wj) mo' be' ce' fg' sv' ou' la') rc) := by
  rcases (by omega : wj = 0 ∨ wj = 1 ∨ wj = 2 ∨ wj = 3 ∨ wj = 4) with rfl | rfl | rfl | rfl | rfl
  · exact (cal_eq h rfl rfl rfl).trans rfl
  · exact (cal_eq h rfl rfl rfl).trans rfl
  · exact (cal_eq h rfl rfl rfl).trans rfl
  · exact (cal_eq h rfl rfl rfl).trans rfl
  · exact (cal_eq h rfl rfl rfl).trans rfl
theorem eX8_goTillDusk_sb (p : Nat) (j : Int32) (m : Int64) (s : Int32) : EX8_goTillDusk [.ref 48, .ref 14, .int j, .long m, .int s] (CH mz tp tk rd hi sc pl dr wa (wA T CF SN p q mo be ce fg sv ou la) rc) = BX8_goTillDusk_0 [(0, .ref 48), (1, .ref 14), (2, .int j), (3, .long m), (5, .int s)] [] (CH mz tp tk rd hi sc pl dr wa (wA T CF SN p q mo be ce fg sv ou la) rc) := rfl
theorem qX8_goTillDusk_0b (p : Nat) (j : Int32) (m : Int64) (s : Int32) : BX8_goTillDusk_0 [(0, .ref 48), (1, .ref 14), (2, .int j), (3, .long m), (5, .int s)] [] (CH mz tp tk rd hi sc pl dr wa (wA T CF SN p q mo be ce fg sv ou la) rc) =
    (BX8_goTillDusk_6) [(0, .ref 48)] [.int s, .long m, .int j, .ref 14, .ref 48] (CH mz tp tk rd hi sc pl dr wa (wA T CF SN p q mo be ce fg sv ou la) rc) := rfl
theorem qX8_goTillDusk_6b {wj : Nat} (hwj : wj < 5) (p : Nat) (s0 : Int32) (s1 : Int64) (s2 : Int32) {T' CF' SN' : Nat → Int32} {mo' be' : Int64} {ce' fg' sv' ou' la' : Int32} (h : EX8_begin [.ref 48, .ref 14, .int s2, .long s1, .int s0] (CH mz tp tk rd hi sc pl dr wa (wA T CF SN p q mo be ce fg sv ou la) rc) = some (CH mz tp tk rd hi sc pl dr wa (wA T' CF' SN' 14 (24 + wj) mo' be' ce' fg' sv' ou' la') rc)) : BX8_goTillDusk_6 [(0, .ref 48)] [.int s0, .long s1, .int s2, .ref 14, .ref 48] (CH mz tp tk rd hi sc pl dr wa (wA T CF SN p q mo be ce fg sv ou la) rc) =
    lp (BX8_goTillDusk_30) FU [(0, .ref 48), (6, .int ((pl.2.2.2.1 wj).2.2.2.2))] [] (CH mz tp tk rd hi sc pl dr wa (wA T' CF' SN' 14 (24 + wj) mo' be' ce' fg' sv' (-2) (-2)) rc) := by
  rcases (by omega : wj = 0 ∨ wj = 1 ∨ wj = 2 ∨ wj = 3 ∨ wj = 4) with rfl | rfl | rfl | rfl | rfl
  · exact (cal_eq h rfl rfl rfl).trans rfl
  · exact (cal_eq h rfl rfl rfl).trans rfl
  · exact (cal_eq h rfl rfl rfl).trans rfl
  · exact (cal_eq h rfl rfl rfl).trans rfl
  · exact (cal_eq h rfl rfl rfl).trans rfl
theorem qX8_goTillDusk_30b {wj : Nat} (hwj : wj < 5) (k30 : KT HP) (v6 : Int32) : BX8_goTillDusk_30 k30 [(0, .ref 48), (6, .int v6)] [] (CH mz tp tk rd hi sc pl dr wa (wA T CF SN 14 (24 + wj) mo be ce fg sv ou la) rc) =
    (if pl.2.2.2.2.1 < v6 then some (CH mz tp tk rd hi sc pl dr wa (wA T CF SN 14 (24 + wj) mo be ce fg sv ou la) rc) else (if ou = (-2) then (if v6 ≤ ((pl.2.2.2.1 wj).2.2.2.2) then (BX8_goTillDusk_67 k30) [(0, .ref 48), (6, .int v6)] [] (CH mz tp tk rd hi sc pl dr wa (wA T CF SN 14 (24 + wj) mo be ce fg sv ou la) rc) else (BX8_goTillDusk_64 k30) [(0, .ref 48), (6, .int v6)] [.ref 48] (CH mz tp tk rd hi sc pl dr wa (wA T CF SN 14 (24 + wj) mo be ce fg sv ou la) rc)) else some (CH mz tp tk rd hi sc pl dr wa (wA T CF SN 14 (24 + wj) mo be ce fg sv ou la) rc))) := by
  rcases (by omega : wj = 0 ∨ wj = 1 ∨ wj = 2 ∨ wj = 3 ∨ wj = 4) with rfl | rfl | rfl | rfl | rfl
  · exact rfl
  · exact rfl
  · exact rfl
  · exact rfl
  · exact rfl
theorem qX8_goTillDusk_67b {wj : Nat} (hwj : wj < 5) (k30 : KT HP) (v6 : Int32) : BX8_goTillDusk_67 k30 [(0, .ref 48), (6, .int v6)] [] (CH mz tp tk rd hi sc pl dr wa (wA T CF SN 14 (24 + wj) mo be ce fg sv ou la) rc) =
    (if v6 < 0 then (BX8_goTillDusk_93 k30) [(0, .ref 48), (6, .int v6)] [] (CH mz tp tk rd hi sc pl dr wa (wA T CF SN 14 (24 + wj) mo be ce fg sv ou la) rc) else (if (201 : Int32) ≤ v6 then (BX8_goTillDusk_93 k30) [(0, .ref 48), (6, .int v6)] [] (CH mz tp tk rd hi sc pl dr wa (wA T CF SN 14 (24 + wj) mo be ce fg sv ou la) rc) else (if v6 < 0 ∨ 201 ≤ v6.toNatClampNeg then none else (BX8_goTillDusk_93 k30) [(0, .ref 48), (6, .int v6)] [] (CH mz tp tk rd hi sc pl dr wa (wA (upd T v6.toNatClampNeg ce) CF SN 14 (24 + wj) mo be ce fg sv ou la) rc)))) := by
  rcases (by omega : wj = 0 ∨ wj = 1 ∨ wj = 2 ∨ wj = 3 ∨ wj = 4) with rfl | rfl | rfl | rfl | rfl
  · exact rfl
  · exact rfl
  · exact rfl
  · exact rfl
  · exact rfl
theorem qX8_goTillDusk_64b {wj : Nat} (hwj : wj < 5) (k30 : KT HP) (v6 : Int32) {T' CF' SN' : Nat → Int32} {mo' be' : Int64} {ce' fg' sv' ou' la' : Int32} (h : EX8_step [.ref 48] (CH mz tp tk rd hi sc pl dr wa (wA T CF SN 14 (24 + wj) mo be ce fg sv ou la) rc) = some (CH mz tp tk rd hi sc pl dr wa (wA T' CF' SN' 14 (24 + wj) mo' be' ce' fg' sv' ou' la') rc)) : BX8_goTillDusk_64 k30 [(0, .ref 48), (6, .int v6)] [.ref 48] (CH mz tp tk rd hi sc pl dr wa (wA T CF SN 14 (24 + wj) mo be ce fg sv ou la) rc) =
    (BX8_goTillDusk_67 k30) [(0, .ref 48), (6, .int v6)] [] (CH mz tp tk rd hi sc pl dr wa (wA T' CF' SN' 14 (24 + wj) mo' be' ce' fg' sv' ou' la') rc) := by
  rcases (by omega : wj = 0 ∨ wj = 1 ∨ wj = 2 ∨ wj = 3 ∨ wj = 4) with rfl | rfl | rfl | rfl | rfl
  · exact (cal_eq h rfl rfl rfl).trans rfl
  · exact (cal_eq h rfl rfl rfl).trans rfl
  · exact (cal_eq h rfl rfl rfl).trans rfl
  · exact (cal_eq h rfl rfl rfl).trans rfl
  · exact (cal_eq h rfl rfl rfl).trans rfl
theorem qX8_goTillDusk_93b {wj : Nat} (hwj : wj < 5) (k30 : KT HP) (v6 : Int32) : BX8_goTillDusk_93 k30 [(0, .ref 48), (6, .int v6)] [] (CH mz tp tk rd hi sc pl dr wa (wA T CF SN 14 (24 + wj) mo be ce fg sv ou la) rc) =
    (BX8_goTillDusk_101 k30) [(0, .ref 48), (6, .int v6)] [.ref 48, .ref 48] (CH mz tp tk rd hi sc pl dr wa (wA T CF SN 14 (24 + wj) mo be ce fg sv ou v6) rc) := by
  rcases (by omega : wj = 0 ∨ wj = 1 ∨ wj = 2 ∨ wj = 3 ∨ wj = 4) with rfl | rfl | rfl | rfl | rfl
  · exact rfl
  · exact rfl
  · exact rfl
  · exact rfl
  · exact rfl
theorem qX8_goTillDusk_101b {wj : Nat} (hwj : wj < 5) (k30 : KT HP) (v6 : Int32) {r : Bool} (h : EX8_isAtGate [.ref 48] (CH mz tp tk rd hi sc pl dr wa (wA T CF SN 14 (24 + wj) mo be ce fg sv ou la) rc) = some r) : BX8_goTillDusk_101 k30 [(0, .ref 48), (6, .int v6)] [.ref 48, .ref 48] (CH mz tp tk rd hi sc pl dr wa (wA T CF SN 14 (24 + wj) mo be ce fg sv ou la) rc) =
    (if (b2i r) = 0 then k30 [(0, .ref 48), (6, .int (v6 + 1))] [] (CH mz tp tk rd hi sc pl dr wa (wA T CF SN 14 (24 + wj) mo be ce fg sv (-2) la) rc) else k30 [(0, .ref 48), (6, .int (v6 + 1))] [] (CH mz tp tk rd hi sc pl dr wa (wA T CF SN 14 (24 + wj) mo be ce fg sv v6 la) rc)) := by
  rcases (by omega : wj = 0 ∨ wj = 1 ∨ wj = 2 ∨ wj = 3 ∨ wj = 4) with rfl | rfl | rfl | rfl | rfl
  · exact (cal_eq h rfl rfl (chk_rf _ _ _)).trans rfl
  · exact (cal_eq h rfl rfl (chk_rf _ _ _)).trans rfl
  · exact (cal_eq h rfl rfl (chk_rf _ _ _)).trans rfl
  · exact (cal_eq h rfl rfl (chk_rf _ _ _)).trans rfl
  · exact (cal_eq h rfl rfl (chk_rf _ _ _)).trans rfl
theorem eX8_cellIn_sb {wj : Nat} (hwj : wj < 5) (n : Int32) : EX8_cellIn [.ref 48, .int n] (CH mz tp tk rd hi sc pl dr wa (wA T CF SN 14 (24 + wj) mo be ce fg sv ou la) rc) = BX8_cellIn_0 [(0, .ref 48), (1, .int n)] [] (CH mz tp tk rd hi sc pl dr wa (wA T CF SN 14 (24 + wj) mo be ce fg sv ou la) rc) := by
  rcases (by omega : wj = 0 ∨ wj = 1 ∨ wj = 2 ∨ wj = 3 ∨ wj = 4) with rfl | rfl | rfl | rfl | rfl
  · exact rfl
  · exact rfl
  · exact rfl
  · exact rfl
  · exact rfl
theorem qX8_cellIn_0b {wj : Nat} (hwj : wj < 5) (n : Int32) : BX8_cellIn_0 [(0, .ref 48), (1, .int n)] [] (CH mz tp tk rd hi sc pl dr wa (wA T CF SN 14 (24 + wj) mo be ce fg sv ou la) rc) =
    (if n < ((pl.2.2.2.1 wj).2.2.2.2) then (BX8_cellIn_23) [(0, .ref 48), (1, .int n)] [] (CH mz tp tk rd hi sc pl dr wa (wA T CF SN 14 (24 + wj) mo be ce fg sv ou la) rc) else (if la < n then (BX8_cellIn_23) [(0, .ref 48), (1, .int n)] [] (CH mz tp tk rd hi sc pl dr wa (wA T CF SN 14 (24 + wj) mo be ce fg sv ou la) rc) else (BX8_cellIn_24) [(0, .ref 48), (1, .int n)] [.int 1] (CH mz tp tk rd hi sc pl dr wa (wA T CF SN 14 (24 + wj) mo be ce fg sv ou la) rc))) := by
  rcases (by omega : wj = 0 ∨ wj = 1 ∨ wj = 2 ∨ wj = 3 ∨ wj = 4) with rfl | rfl | rfl | rfl | rfl
  · exact rfl
  · exact rfl
  · exact rfl
  · exact rfl
  · exact rfl
theorem qX8_cellIn_23b {wj : Nat} (hwj : wj < 5) (n : Int32) : BX8_cellIn_23 [(0, .ref 48), (1, .int n)] [] (CH mz tp tk rd hi sc pl dr wa (wA T CF SN 14 (24 + wj) mo be ce fg sv ou la) rc) =
    (BX8_cellIn_24) [(0, .ref 48), (1, .int n)] [.int 0] (CH mz tp tk rd hi sc pl dr wa (wA T CF SN 14 (24 + wj) mo be ce fg sv ou la) rc) := by
  rcases (by omega : wj = 0 ∨ wj = 1 ∨ wj = 2 ∨ wj = 3 ∨ wj = 4) with rfl | rfl | rfl | rfl | rfl
  · exact rfl
  · exact rfl
  · exact rfl
  · exact rfl
  · exact rfl
theorem qX8_cellIn_24b {wj : Nat} (hwj : wj < 5) (n : Int32) (s0 : Int32) : BX8_cellIn_24 [(0, .ref 48), (1, .int n)] [.int s0] (CH mz tp tk rd hi sc pl dr wa (wA T CF SN 14 (24 + wj) mo be ce fg sv ou la) rc) =
    (if s0 = 0 then some (-2) else (if n < 0 then some (-2) else (if (201 : Int32) ≤ n then some (-2) else (if n < 0 ∨ 201 ≤ n.toNatClampNeg then none else some (T n.toNatClampNeg))))) := by
  rcases (by omega : wj = 0 ∨ wj = 1 ∨ wj = 2 ∨ wj = 3 ∨ wj = 4) with rfl | rfl | rfl | rfl | rfl
  · exact rfl
  · exact rfl
  · exact rfl
  · exact rfl
  · exact rfl
theorem eX8_outIn_sb : EX8_outIn [.ref 48] (CH mz tp tk rd hi sc pl dr wa (wA T CF SN 14 q mo be ce fg sv ou la) rc) = BX8_outIn_0 [(0, .ref 48)] [] (CH mz tp tk rd hi sc pl dr wa (wA T CF SN 14 q mo be ce fg sv ou la) rc) := rfl
theorem qX8_outIn_0b : BX8_outIn_0 [(0, .ref 48)] [] (CH mz tp tk rd hi sc pl dr wa (wA T CF SN 14 q mo be ce fg sv ou la) rc) =
    some ou := rfl
theorem eX8_countShouts_sb {wj : Nat} (hwj : wj < 5) : EX8_countShouts [.ref 48] (CH mz tp tk rd hi sc pl dr wa (wA T CF SN 14 (24 + wj) mo be ce fg sv ou la) rc) = BX8_countShouts_0 [(0, .ref 48)] [] (CH mz tp tk rd hi sc pl dr wa (wA T CF SN 14 (24 + wj) mo be ce fg sv ou la) rc) := by
  rcases (by omega : wj = 0 ∨ wj = 1 ∨ wj = 2 ∨ wj = 3 ∨ wj = 4) with rfl | rfl | rfl | rfl | rfl
  · exact rfl
  · exact rfl
  · exact rfl
  · exact rfl
  · exact rfl
theorem qX8_countShouts_0b {wj : Nat} (hwj : wj < 5) : BX8_countShouts_0 [(0, .ref 48)] [] (CH mz tp tk rd hi sc pl dr wa (wA T CF SN 14 (24 + wj) mo be ce fg sv ou la) rc) =
    (if ou = (-2) then some (if 0 < (pl.2.2.2.2.1 - ((pl.2.2.2.1 wj).2.2.2.2)) then (pl.2.2.2.2.1 - ((pl.2.2.2.1 wj).2.2.2.2)) else 0) else some (if 0 < (ou - ((pl.2.2.2.1 wj).2.2.2.2)) then (ou - ((pl.2.2.2.1 wj).2.2.2.2)) else 0)) := by
  rcases (by omega : wj = 0 ∨ wj = 1 ∨ wj = 2 ∨ wj = 3 ∨ wj = 4) with rfl | rfl | rfl | rfl | rfl
  · exact rfl
  · exact rfl
  · exact rfl
  · exact rfl
  · exact rfl
theorem eX8_countCells_sb {wj : Nat} (hwj : wj < 5) : EX8_countCells [.ref 48] (CH mz tp tk rd hi sc pl dr wa (wA T CF SN 14 (24 + wj) mo be ce fg sv ou la) rc) = BX8_countCells_0 [(0, .ref 48)] [] (CH mz tp tk rd hi sc pl dr wa (wA T CF SN 14 (24 + wj) mo be ce fg sv ou la) rc) := by
  rcases (by omega : wj = 0 ∨ wj = 1 ∨ wj = 2 ∨ wj = 3 ∨ wj = 4) with rfl | rfl | rfl | rfl | rfl
  · exact rfl
  · exact rfl
  · exact rfl
  · exact rfl
  · exact rfl
theorem qX8_countCells_0b {wj : Nat} (hwj : wj < 5) : BX8_countCells_0 [(0, .ref 48)] [] (CH mz tp tk rd hi sc pl dr wa (wA T CF SN 14 (24 + wj) mo be ce fg sv ou la) rc) =
    (if pl.2.2.2.2.1 < ((pl.2.2.2.1 wj).2.2.2.2) then some 0 else some (bcnt be)) := by
  rcases (by omega : wj = 0 ∨ wj = 1 ∨ wj = 2 ∨ wj = 3 ∨ wj = 4) with rfl | rfl | rfl | rfl | rfl
  · exact rfl
  · exact rfl
  · exact rfl
  · exact rfl
  · exact rfl
theorem eX8_isAtGate_sb : EX8_isAtGate [.ref 48] (CH mz tp tk rd hi sc pl dr wa (wA T CF SN 14 q mo be ce fg sv ou la) rc) = BX8_isAtGate_0 [(0, .ref 48)] [] (CH mz tp tk rd hi sc pl dr wa (wA T CF SN 14 q mo be ce fg sv ou la) rc) := rfl
theorem qX8_isAtGate_0b : BX8_isAtGate_0 [(0, .ref 48)] [] (CH mz tp tk rd hi sc pl dr wa (wA T CF SN 14 q mo be ce fg sv ou la) rc) =
    (BX8_isAtGate_11) [] [.int ce, .long pl.2.2.2.2.2.2.2.2.1] (CH mz tp tk rd hi sc pl dr wa (wA T CF SN 14 q mo be ce fg sv ou la) rc) := rfl
theorem qX8_isAtGate_11b (s0 : Int32) (s1 : Int64) {r : Bool} (h : EX10_isIn [.long s1, .int s0] (CH mz tp tk rd hi sc pl dr wa (wA T CF SN 14 q mo be ce fg sv ou la) rc) = some r) : BX8_isAtGate_11 [] [.int s0, .long s1] (CH mz tp tk rd hi sc pl dr wa (wA T CF SN 14 q mo be ce fg sv ou la) rc) =
    zb (b2i r) := (cal_eq h rfl rfl (chk_rf _ _ _)).trans rfl
theorem eX8_step_sb {wj : Nat} (hwj : wj < 5) : EX8_step [.ref 48] (CH mz tp tk rd hi sc pl dr wa (wA T CF SN 14 (24 + wj) mo be ce fg sv ou la) rc) = BX8_step_0 [(0, .ref 48)] [] (CH mz tp tk rd hi sc pl dr wa (wA T CF SN 14 (24 + wj) mo be ce fg sv ou la) rc) := by
  rcases (by omega : wj = 0 ∨ wj = 1 ∨ wj = 2 ∨ wj = 3 ∨ wj = 4) with rfl | rfl | rfl | rfl | rfl
  · exact rfl
  · exact rfl
  · exact rfl
  · exact rfl
  · exact rfl
theorem qX8_step_0b {wj : Nat} (hwj : wj < 5) : BX8_step_0 [(0, .ref 48)] [] (CH mz tp tk rd hi sc pl dr wa (wA T CF SN 14 (24 + wj) mo be ce fg sv ou la) rc) =
    (if ((pl.2.2.2.1 wj).2.1) = 0 then (BX8_step_44) [] [.int 1, .int (fg + 3), .ref 48] (CH mz tp tk rd hi sc pl dr wa (wA T CF SN 14 (24 + wj) mo be ce fg sv ou la) rc) else (if ((pl.2.2.2.1 wj).2.1) = 1 then (BX8_step_58) [] [.int (-1), .int (fg + 5), .ref 48] (CH mz tp tk rd hi sc pl dr wa (wA T CF SN 14 (24 + wj) mo be ce fg sv ou la) rc) else (if ((pl.2.2.2.1 wj).2.1) = 2 then (BX8_step_65) [] [.ref 48] (CH mz tp tk rd hi sc pl dr wa (wA T CF SN 14 (24 + wj) mo be ce fg sv ou la) rc) else (if ((pl.2.2.2.1 wj).2.1) = 3 then (BX8_step_72) [] [.ref 48] (CH mz tp tk rd hi sc pl dr wa (wA T CF SN 14 (24 + wj) mo be ce fg sv ou la) rc) else (BX8_step_79) [] [.ref 48] (CH mz tp tk rd hi sc pl dr wa (wA T CF SN 14 (24 + wj) mo be ce fg sv ou la) rc))))) := by
  rcases (by omega : wj = 0 ∨ wj = 1 ∨ wj = 2 ∨ wj = 3 ∨ wj = 4) with rfl | rfl | rfl | rfl | rfl
  · exact rfl
  · exact rfl
  · exact rfl
  · exact rfl
  · exact rfl
theorem qX8_step_79b {wj : Nat} (hwj : wj < 5) {T' CF' SN' : Nat → Int32} {mo' be' : Int64} {ce' fg' sv' ou' la' : Int32} (h : EX8_stepByLot [.ref 48] (CH mz tp tk rd hi sc pl dr wa (wA T CF SN 14 (24 + wj) mo be ce fg sv ou la) rc) = some (CH mz tp tk rd hi sc pl dr wa (wA T' CF' SN' 14 (24 + wj) mo' be' ce' fg' sv' ou' la') rc)) : BX8_step_79 [] [.ref 48] (CH mz tp tk rd hi sc pl dr wa (wA T CF SN 14 (24 + wj) mo be ce fg sv ou la) rc) =
    some (CH mz tp tk rd hi sc pl dr wa (wA T' CF' SN' 14 (24 + wj) mo' be' ce' fg' sv' ou' la') rc) := by
  rcases (by omega : wj = 0 ∨ wj = 1 ∨ wj = 2 ∨ wj = 3 ∨ wj = 4) with rfl | rfl | rfl | rfl | rfl
  · exact (cal_eq h rfl rfl rfl).trans rfl
  · exact (cal_eq h rfl rfl rfl).trans rfl
  · exact (cal_eq h rfl rfl rfl).trans rfl
  · exact (cal_eq h rfl rfl rfl).trans rfl
  · exact (cal_eq h rfl rfl rfl).trans rfl
theorem qX8_step_72b {wj : Nat} (hwj : wj < 5) {T' CF' SN' : Nat → Int32} {mo' be' : Int64} {ce' fg' sv' ou' la' : Int32} (h : EX8_stepToNoise [.ref 48] (CH mz tp tk rd hi sc pl dr wa (wA T CF SN 14 (24 + wj) mo be ce fg sv ou la) rc) = some (CH mz tp tk rd hi sc pl dr wa (wA T' CF' SN' 14 (24 + wj) mo' be' ce' fg' sv' ou' la') rc)) : BX8_step_72 [] [.ref 48] (CH mz tp tk rd hi sc pl dr wa (wA T CF SN 14 (24 + wj) mo be ce fg sv ou la) rc) =
    some (CH mz tp tk rd hi sc pl dr wa (wA T' CF' SN' 14 (24 + wj) mo' be' ce' fg' sv' ou' la') rc) := by
  rcases (by omega : wj = 0 ∨ wj = 1 ∨ wj = 2 ∨ wj = 3 ∨ wj = 4) with rfl | rfl | rfl | rfl | rfl
  · exact (cal_eq h rfl rfl rfl).trans rfl
  · exact (cal_eq h rfl rfl rfl).trans rfl
  · exact (cal_eq h rfl rfl rfl).trans rfl
  · exact (cal_eq h rfl rfl rfl).trans rfl
  · exact (cal_eq h rfl rfl rfl).trans rfl
theorem qX8_step_65b {wj : Nat} (hwj : wj < 5) {T' CF' SN' : Nat → Int32} {mo' be' : Int64} {ce' fg' sv' ou' la' : Int32} (h : EX8_stepOnce [.ref 48] (CH mz tp tk rd hi sc pl dr wa (wA T CF SN 14 (24 + wj) mo be ce fg sv ou la) rc) = some (CH mz tp tk rd hi sc pl dr wa (wA T' CF' SN' 14 (24 + wj) mo' be' ce' fg' sv' ou' la') rc)) : BX8_step_65 [] [.ref 48] (CH mz tp tk rd hi sc pl dr wa (wA T CF SN 14 (24 + wj) mo be ce fg sv ou la) rc) =
    some (CH mz tp tk rd hi sc pl dr wa (wA T' CF' SN' 14 (24 + wj) mo' be' ce' fg' sv' ou' la') rc) := by
  rcases (by omega : wj = 0 ∨ wj = 1 ∨ wj = 2 ∨ wj = 3 ∨ wj = 4) with rfl | rfl | rfl | rfl | rfl
  · exact (cal_eq h rfl rfl rfl).trans rfl
  · exact (cal_eq h rfl rfl rfl).trans rfl
  · exact (cal_eq h rfl rfl rfl).trans rfl
  · exact (cal_eq h rfl rfl rfl).trans rfl
  · exact (cal_eq h rfl rfl rfl).trans rfl
theorem qX8_step_58b {wj : Nat} (hwj : wj < 5) (s0 : Int32) (s1 : Int32) {T' CF' SN' : Nat → Int32} {mo' be' : Int64} {ce' fg' sv' ou' la' : Int32} (h : EX8_stepTurning [.ref 48, .int s1, .int s0] (CH mz tp tk rd hi sc pl dr wa (wA T CF SN 14 (24 + wj) mo be ce fg sv ou la) rc) = some (CH mz tp tk rd hi sc pl dr wa (wA T' CF' SN' 14 (24 + wj) mo' be' ce' fg' sv' ou' la') rc)) : BX8_step_58 [] [.int s0, .int s1, .ref 48] (CH mz tp tk rd hi sc pl dr wa (wA T CF SN 14 (24 + wj) mo be ce fg sv ou la) rc) =
    some (CH mz tp tk rd hi sc pl dr wa (wA T' CF' SN' 14 (24 + wj) mo' be' ce' fg' sv' ou' la') rc) := by
  rcases (by omega : wj = 0 ∨ wj = 1 ∨ wj = 2 ∨ wj = 3 ∨ wj = 4) with rfl | rfl | rfl | rfl | rfl
  · exact (cal_eq h rfl rfl rfl).trans rfl
  · exact (cal_eq h rfl rfl rfl).trans rfl
  · exact (cal_eq h rfl rfl rfl).trans rfl
  · exact (cal_eq h rfl rfl rfl).trans rfl
  · exact (cal_eq h rfl rfl rfl).trans rfl
theorem qX8_step_44b {wj : Nat} (hwj : wj < 5) (s0 : Int32) (s1 : Int32) {T' CF' SN' : Nat → Int32} {mo' be' : Int64} {ce' fg' sv' ou' la' : Int32} (h : EX8_stepTurning [.ref 48, .int s1, .int s0] (CH mz tp tk rd hi sc pl dr wa (wA T CF SN 14 (24 + wj) mo be ce fg sv ou la) rc) = some (CH mz tp tk rd hi sc pl dr wa (wA T' CF' SN' 14 (24 + wj) mo' be' ce' fg' sv' ou' la') rc)) : BX8_step_44 [] [.int s0, .int s1, .ref 48] (CH mz tp tk rd hi sc pl dr wa (wA T CF SN 14 (24 + wj) mo be ce fg sv ou la) rc) =
    some (CH mz tp tk rd hi sc pl dr wa (wA T' CF' SN' 14 (24 + wj) mo' be' ce' fg' sv' ou' la') rc) := by
  rcases (by omega : wj = 0 ∨ wj = 1 ∨ wj = 2 ∨ wj = 3 ∨ wj = 4) with rfl | rfl | rfl | rfl | rfl
  · exact (cal_eq h rfl rfl rfl).trans rfl
  · exact (cal_eq h rfl rfl rfl).trans rfl
  · exact (cal_eq h rfl rfl rfl).trans rfl
  · exact (cal_eq h rfl rfl rfl).trans rfl
  · exact (cal_eq h rfl rfl rfl).trans rfl
theorem eX8_mownTo_sb (sd : Int32) : EX8_mownTo [.ref 48, .int sd] (CH mz tp tk rd hi sc pl dr wa (wA T CF SN 14 q mo be ce fg sv ou la) rc) = BX8_mownTo_0 [(0, .ref 48), (1, .int sd)] [] (CH mz tp tk rd hi sc pl dr wa (wA T CF SN 14 q mo be ce fg sv ou la) rc) := rfl
theorem qX8_mownTo_0b (sd : Int32) : BX8_mownTo_0 [(0, .ref 48), (1, .int sd)] [] (CH mz tp tk rd hi sc pl dr wa (wA T CF SN 14 q mo be ce fg sv ou la) rc) =
    (BX8_mownTo_12) [(0, .ref 48)] [.int ce, .int sd, .ref 15] (CH mz tp tk rd hi sc pl dr wa (wA T CF SN 14 q mo be ce fg sv ou la) rc) := rfl
theorem qX8_mownTo_12b (s0 : Int32) (s1 : Int32) {r : Int32} (h : EX0_cellTo [.ref 15, .int s1, .int s0] (CH mz tp tk rd hi sc pl dr wa (wA T CF SN 14 q mo be ce fg sv ou la) rc) = some r) : BX8_mownTo_12 [(0, .ref 48)] [.int s0, .int s1, .ref 15] (CH mz tp tk rd hi sc pl dr wa (wA T CF SN 14 q mo be ce fg sv ou la) rc) =
    (if r = (-1) then some (-1) else (BX8_mownTo_26) [(2, .int r)] [.int r, .long mo] (CH mz tp tk rd hi sc pl dr wa (wA T CF SN 14 q mo be ce fg sv ou la) rc)) := (cal_eq h rfl rfl (chk_rf _ _ _)).trans rfl
theorem qX8_mownTo_26b (v2 : Int32) (s0 : Int32) (s1 : Int64) {r : Bool} (h : EX10_isIn [.long s1, .int s0] (CH mz tp tk rd hi sc pl dr wa (wA T CF SN 14 q mo be ce fg sv ou la) rc) = some r) : BX8_mownTo_26 [(2, .int v2)] [.int s0, .long s1] (CH mz tp tk rd hi sc pl dr wa (wA T CF SN 14 q mo be ce fg sv ou la) rc) =
    (if (b2i r) = 0 then some (-1) else some v2) := (cal_eq h rfl rfl (chk_rf _ _ _)).trans rfl
theorem eX8_enter_sb (nx : Int32) (fr : Int32) : EX8_enter [.ref 48, .int nx, .int fr] (CH mz tp tk rd hi sc pl dr wa (wA T CF SN 14 q mo be ce fg sv ou la) rc) = BX8_enter_0 [(0, .ref 48), (1, .int nx), (2, .int fr)] [] (CH mz tp tk rd hi sc pl dr wa (wA T CF SN 14 q mo be ce fg sv ou la) rc) := rfl
theorem qX8_enter_0b (nx : Int32) (fr : Int32) : BX8_enter_0 [(0, .ref 48), (1, .int nx), (2, .int fr)] [] (CH mz tp tk rd hi sc pl dr wa (wA T CF SN 14 q mo be ce fg sv ou la) rc) =
    (BX8_enter_5) [(0, .ref 48), (1, .int nx), (2, .int fr)] [.int nx, .long be] (CH mz tp tk rd hi sc pl dr wa (wA T CF SN 14 q mo be ce fg sv ou la) rc) := rfl
theorem qX8_enter_5b (nx : Int32) (fr : Int32) (s0 : Int32) (s1 : Int64) {r : Bool} (h : EX10_isIn [.long s1, .int s0] (CH mz tp tk rd hi sc pl dr wa (wA T CF SN 14 q mo be ce fg sv ou la) rc) = some r) : BX8_enter_5 [(0, .ref 48), (1, .int nx), (2, .int fr)] [.int s0, .long s1] (CH mz tp tk rd hi sc pl dr wa (wA T CF SN 14 q mo be ce fg sv ou la) rc) =
    (if (b2i r) = 0 then (if nx < 0 then some (CH mz tp tk rd hi sc pl dr wa (wA T CF SN 14 q mo (be ||| (bitL nx)) nx fg sv ou la) rc) else (if (48 : Int32) ≤ nx then some (CH mz tp tk rd hi sc pl dr wa (wA T CF SN 14 q mo (be ||| (bitL nx)) nx fg sv ou la) rc) else (if nx < 0 ∨ 48 ≤ nx.toNatClampNeg then none else some (CH mz tp tk rd hi sc pl dr wa (wA T (upd CF nx.toNatClampNeg fr) SN 14 q mo (be ||| (bitL nx)) nx fg sv ou la) rc)))) else some (CH mz tp tk rd hi sc pl dr wa (wA T CF SN 14 q mo (be ||| (bitL nx)) nx fg sv ou la) rc)) := (cal_eq h rfl rfl (chk_rf _ _ _)).trans rfl
theorem eX8_stepTurning_sb (f : Int32) (t : Int32) : EX8_stepTurning [.ref 48, .int f, .int t] (CH mz tp tk rd hi sc pl dr wa (wA T CF SN 14 q mo be ce fg sv ou la) rc) = BX8_stepTurning_0 [(0, .ref 48), (1, .int f), (2, .int t)] [] (CH mz tp tk rd hi sc pl dr wa (wA T CF SN 14 q mo be ce fg sv ou la) rc) := rfl
theorem qX8_stepTurning_0b (f : Int32) (t : Int32) : BX8_stepTurning_0 [(0, .ref 48), (1, .int f), (2, .int t)] [] (CH mz tp tk rd hi sc pl dr wa (wA T CF SN 14 q mo be ce fg sv ou la) rc) =
    lp (BX8_stepTurning_2) FU [(0, .ref 48), (1, .int f), (2, .int t), (3, .int 0)] [] (CH mz tp tk rd hi sc pl dr wa (wA T CF SN 14 q mo be ce fg sv ou la) rc) := rfl
theorem qX8_stepTurning_2b (k2 : KT HP) (f : Int32) (t : Int32) (v3 : Int32) : BX8_stepTurning_2 k2 [(0, .ref 48), (1, .int f), (2, .int t), (3, .int v3)] [] (CH mz tp tk rd hi sc pl dr wa (wA T CF SN 14 q mo be ce fg sv ou la) rc) =
    (if (4 : Int32) ≤ v3 then some (CH mz tp tk rd hi sc pl dr wa (wA T CF SN 14 q mo be ce fg sv ou la) rc) else (BX8_stepTurning_19 k2) [(0, .ref 48), (1, .int f), (2, .int t), (3, .int v3), (4, .int ((f + (t * v3)) - (f + (t * v3)) / 4 * 4))] [.int ((f + (t * v3)) - (f + (t * v3)) / 4 * 4), .ref 48] (CH mz tp tk rd hi sc pl dr wa (wA T CF SN 14 q mo be ce fg sv ou la) rc)) := rfl
theorem qX8_stepTurning_19b (k2 : KT HP) (f : Int32) (t : Int32) (v3 : Int32) (v4 : Int32) (s0 : Int32) {r : Int32} (h : EX8_mownTo [.ref 48, .int s0] (CH mz tp tk rd hi sc pl dr wa (wA T CF SN 14 q mo be ce fg sv ou la) rc) = some r) : BX8_stepTurning_19 k2 [(0, .ref 48), (1, .int f), (2, .int t), (3, .int v3), (4, .int v4)] [.int s0, .ref 48] (CH mz tp tk rd hi sc pl dr wa (wA T CF SN 14 q mo be ce fg sv ou la) rc) =
    (if r = (-1) then k2 [(0, .ref 48), (1, .int f), (2, .int t), (3, .int (v3 + 1))] [] (CH mz tp tk rd hi sc pl dr wa (wA T CF SN 14 q mo be ce fg sv ou la) rc) else (BX8_stepTurning_43) [] [.int ce, .int r, .ref 48] (CH mz tp tk rd hi sc pl dr wa (wA T CF SN 14 q mo be ce v4 sv ou la) rc)) := (cal_eq h rfl rfl (chk_rf _ _ _)).trans rfl
theorem qX8_stepTurning_43b (s0 : Int32) (s1 : Int32) {T' CF' SN' : Nat → Int32} {mo' be' : Int64} {ce' fg' sv' ou' la' : Int32} (h : EX8_enter [.ref 48, .int s1, .int s0] (CH mz tp tk rd hi sc pl dr wa (wA T CF SN 14 q mo be ce fg sv ou la) rc) = some (CH mz tp tk rd hi sc pl dr wa (wA T' CF' SN' 14 q mo' be' ce' fg' sv' ou' la') rc)) : BX8_stepTurning_43 [] [.int s0, .int s1, .ref 48] (CH mz tp tk rd hi sc pl dr wa (wA T CF SN 14 q mo be ce fg sv ou la) rc) =
    some (CH mz tp tk rd hi sc pl dr wa (wA T' CF' SN' 14 q mo' be' ce' fg' sv' ou' la') rc) := (cal_eq h rfl rfl rfl).trans rfl
theorem eX8_stepOnce_sb : EX8_stepOnce [.ref 48] (CH mz tp tk rd hi sc pl dr wa (wA T CF SN 14 q mo be ce fg sv ou la) rc) = BX8_stepOnce_0 [(0, .ref 48)] [] (CH mz tp tk rd hi sc pl dr wa (wA T CF SN 14 q mo be ce fg sv ou la) rc) := rfl
theorem qX8_stepOnce_0b : BX8_stepOnce_0 [(0, .ref 48)] [] (CH mz tp tk rd hi sc pl dr wa (wA T CF SN 14 q mo be ce fg sv ou la) rc) =
    lp (BX8_stepOnce_2) FU [(0, .ref 48), (1, .int 0)] [] (CH mz tp tk rd hi sc pl dr wa (wA T CF SN 14 q mo be ce fg sv ou la) rc) := rfl
theorem qX8_stepOnce_2b (k2 : KT HP) (v1 : Int32) : BX8_stepOnce_2 k2 [(0, .ref 48), (1, .int v1)] [] (CH mz tp tk rd hi sc pl dr wa (wA T CF SN 14 q mo be ce fg sv ou la) rc) =
    (if (4 : Int32) ≤ v1 then (if ce < 0 then (BX8_stepOnce_76) [(0, .ref 48)] [] (CH mz tp tk rd hi sc pl dr wa (wA T CF SN 14 q mo be ce fg sv ou la) rc) else (if (48 : Int32) ≤ ce then (BX8_stepOnce_76) [(0, .ref 48)] [] (CH mz tp tk rd hi sc pl dr wa (wA T CF SN 14 q mo be ce fg sv ou la) rc) else (if ce < 0 ∨ 48 ≤ ce.toNatClampNeg then none else (BX8_stepOnce_77) [(0, .ref 48)] [.int (CF ce.toNatClampNeg)] (CH mz tp tk rd hi sc pl dr wa (wA T CF SN 14 q mo be ce fg sv ou la) rc)))) else (BX8_stepOnce_9 k2) [(0, .ref 48), (1, .int v1)] [.int v1, .ref 48] (CH mz tp tk rd hi sc pl dr wa (wA T CF SN 14 q mo be ce fg sv ou la) rc)) := rfl
theorem qX8_stepOnce_76b : BX8_stepOnce_76 [(0, .ref 48)] [] (CH mz tp tk rd hi sc pl dr wa (wA T CF SN 14 q mo be ce fg sv ou la) rc) =
    (BX8_stepOnce_77) [(0, .ref 48)] [.int (-1)] (CH mz tp tk rd hi sc pl dr wa (wA T CF SN 14 q mo be ce fg sv ou la) rc) := rfl
theorem qX8_stepOnce_77b (s0 : Int32) : BX8_stepOnce_77 [(0, .ref 48)] [.int s0] (CH mz tp tk rd hi sc pl dr wa (wA T CF SN 14 q mo be ce fg sv ou la) rc) =
    (if s0 = (-1) then some (CH mz tp tk rd hi sc pl dr wa (wA T CF SN 14 q mo be ce fg sv ou la) rc) else (BX8_stepOnce_88) [(0, .ref 48), (1, .int s0)] [.int s0, .long mo] (CH mz tp tk rd hi sc pl dr wa (wA T CF SN 14 q mo be ce fg sv ou la) rc)) := rfl
theorem qX8_stepOnce_9b (k2 : KT HP) (v1 : Int32) (s0 : Int32) {r : Int32} (h : EX8_mownTo [.ref 48, .int s0] (CH mz tp tk rd hi sc pl dr wa (wA T CF SN 14 q mo be ce fg sv ou la) rc) = some r) : BX8_stepOnce_9 k2 [(0, .ref 48), (1, .int v1)] [.int s0, .ref 48] (CH mz tp tk rd hi sc pl dr wa (wA T CF SN 14 q mo be ce fg sv ou la) rc) =
    (if r = (-1) then k2 [(0, .ref 48), (1, .int (v1 + 1))] [] (CH mz tp tk rd hi sc pl dr wa (wA T CF SN 14 q mo be ce fg sv ou la) rc) else (BX8_stepOnce_23 k2) [(0, .ref 48), (1, .int v1), (2, .int r)] [.int r, .long be] (CH mz tp tk rd hi sc pl dr wa (wA T CF SN 14 q mo be ce fg sv ou la) rc)) := (cal_eq h rfl rfl (chk_rf _ _ _)).trans rfl
theorem qX8_stepOnce_88b (v1 : Int32) (s0 : Int32) (s1 : Int64) {r : Bool} (h : EX10_isIn [.long s1, .int s0] (CH mz tp tk rd hi sc pl dr wa (wA T CF SN 14 q mo be ce fg sv ou la) rc) = some r) : BX8_stepOnce_88 [(0, .ref 48), (1, .int v1)] [.int s0, .long s1] (CH mz tp tk rd hi sc pl dr wa (wA T CF SN 14 q mo be ce fg sv ou la) rc) =
    (if (b2i r) = 0 then some (CH mz tp tk rd hi sc pl dr wa (wA T CF SN 14 q mo be ce fg sv ou la) rc) else (BX8_stepOnce_100) [] [.int ce, .int v1, .ref 48] (CH mz tp tk rd hi sc pl dr wa (wA T CF SN 14 q mo be ce fg sv ou la) rc)) := (cal_eq h rfl rfl (chk_rf _ _ _)).trans rfl
theorem qX8_stepOnce_23b (k2 : KT HP) (v1 : Int32) (v2 : Int32) (s0 : Int32) (s1 : Int64) {r : Bool} (h : EX10_isIn [.long s1, .int s0] (CH mz tp tk rd hi sc pl dr wa (wA T CF SN 14 q mo be ce fg sv ou la) rc) = some r) : BX8_stepOnce_23 k2 [(0, .ref 48), (1, .int v1), (2, .int v2)] [.int s0, .long s1] (CH mz tp tk rd hi sc pl dr wa (wA T CF SN 14 q mo be ce fg sv ou la) rc) =
    (if (b2i r) = 0 then (BX8_stepOnce_35) [] [.int ce, .int v2, .ref 48] (CH mz tp tk rd hi sc pl dr wa (wA T CF SN 14 q mo be ce fg sv ou la) rc) else k2 [(0, .ref 48), (1, .int (v1 + 1))] [] (CH mz tp tk rd hi sc pl dr wa (wA T CF SN 14 q mo be ce fg sv ou la) rc)) := (cal_eq h rfl rfl (chk_rf _ _ _)).trans rfl
theorem qX8_stepOnce_100b (s0 : Int32) (s1 : Int32) {T' CF' SN' : Nat → Int32} {mo' be' : Int64} {ce' fg' sv' ou' la' : Int32} (h : EX8_enter [.ref 48, .int s1, .int s0] (CH mz tp tk rd hi sc pl dr wa (wA T CF SN 14 q mo be ce fg sv ou la) rc) = some (CH mz tp tk rd hi sc pl dr wa (wA T' CF' SN' 14 q mo' be' ce' fg' sv' ou' la') rc)) : BX8_stepOnce_100 [] [.int s0, .int s1, .ref 48] (CH mz tp tk rd hi sc pl dr wa (wA T CF SN 14 q mo be ce fg sv ou la) rc) =
    some (CH mz tp tk rd hi sc pl dr wa (wA T' CF' SN' 14 q mo' be' ce' fg' sv' ou' la') rc) := (cal_eq h rfl rfl rfl).trans rfl
theorem qX8_stepOnce_35b (s0 : Int32) (s1 : Int32) {T' CF' SN' : Nat → Int32} {mo' be' : Int64} {ce' fg' sv' ou' la' : Int32} (h : EX8_enter [.ref 48, .int s1, .int s0] (CH mz tp tk rd hi sc pl dr wa (wA T CF SN 14 q mo be ce fg sv ou la) rc) = some (CH mz tp tk rd hi sc pl dr wa (wA T' CF' SN' 14 q mo' be' ce' fg' sv' ou' la') rc)) : BX8_stepOnce_35 [] [.int s0, .int s1, .ref 48] (CH mz tp tk rd hi sc pl dr wa (wA T CF SN 14 q mo be ce fg sv ou la) rc) =
    some (CH mz tp tk rd hi sc pl dr wa (wA T' CF' SN' 14 q mo' be' ce' fg' sv' ou' la') rc) := (cal_eq h rfl rfl rfl).trans rfl
theorem eX8_stepToNoise_sb : EX8_stepToNoise [.ref 48] (CH mz tp tk rd hi sc pl dr wa (wA T CF SN 14 q mo be ce fg sv ou la) rc) = BX8_stepToNoise_0 [(0, .ref 48)] [] (CH mz tp tk rd hi sc pl dr wa (wA T CF SN 14 q mo be ce fg sv ou la) rc) := rfl
theorem qX8_stepToNoise_0b : BX8_stepToNoise_0 [(0, .ref 48)] [] (CH mz tp tk rd hi sc pl dr wa (wA T CF SN 14 q mo be ce fg sv ou la) rc) =
    (if ce = pl.2.2.2.2.2.2.2.2.2.1 then some (CH mz tp tk rd hi sc pl dr wa (wA T CF SN 14 q mo be ce fg sv ou la) rc) else lp (BX8_stepToNoise_22) FU [(0, .ref 48), (1, .int (-1)), (2, .int 48), (3, .int 0)] [] (CH mz tp tk rd hi sc pl dr wa (wA T CF SN 14 q mo be ce fg sv ou la) rc)) := rfl
theorem qX8_stepToNoise_22b (k22 : KT HP) (v1 : Int32) (v2 : Int32) (v3 : Int32) : BX8_stepToNoise_22 k22 [(0, .ref 48), (1, .int v1), (2, .int v2), (3, .int v3)] [] (CH mz tp tk rd hi sc pl dr wa (wA T CF SN 14 q mo be ce fg sv ou la) rc) =
    (if (4 : Int32) ≤ v3 then (if v1 = (-1) then some (CH mz tp tk rd hi sc pl dr wa (wA T CF SN 14 q mo be ce fg sv ou la) rc) else (BX8_stepToNoise_97) [] [.int ce, .int v1, .ref 48] (CH mz tp tk rd hi sc pl dr wa (wA T CF SN 14 q mo be ce fg sv ou la) rc)) else (BX8_stepToNoise_29 k22) [(0, .ref 48), (1, .int v1), (2, .int v2), (3, .int v3)] [.int v3, .ref 48] (CH mz tp tk rd hi sc pl dr wa (wA T CF SN 14 q mo be ce fg sv ou la) rc)) := rfl
theorem qX8_stepToNoise_97b (s0 : Int32) (s1 : Int32) {T' CF' SN' : Nat → Int32} {mo' be' : Int64} {ce' fg' sv' ou' la' : Int32} (h : EX8_enter [.ref 48, .int s1, .int s0] (CH mz tp tk rd hi sc pl dr wa (wA T CF SN 14 q mo be ce fg sv ou la) rc) = some (CH mz tp tk rd hi sc pl dr wa (wA T' CF' SN' 14 q mo' be' ce' fg' sv' ou' la') rc)) : BX8_stepToNoise_97 [] [.int s0, .int s1, .ref 48] (CH mz tp tk rd hi sc pl dr wa (wA T CF SN 14 q mo be ce fg sv ou la) rc) =
    some (CH mz tp tk rd hi sc pl dr wa (wA T' CF' SN' 14 q mo' be' ce' fg' sv' ou' la') rc) := (cal_eq h rfl rfl rfl).trans rfl
theorem qX8_stepToNoise_29b (k22 : KT HP) (v1 : Int32) (v2 : Int32) (v3 : Int32) (s0 : Int32) {r : Int32} (h : EX8_mownTo [.ref 48, .int s0] (CH mz tp tk rd hi sc pl dr wa (wA T CF SN 14 q mo be ce fg sv ou la) rc) = some r) : BX8_stepToNoise_29 k22 [(0, .ref 48), (1, .int v1), (2, .int v2), (3, .int v3)] [.int s0, .ref 48] (CH mz tp tk rd hi sc pl dr wa (wA T CF SN 14 q mo be ce fg sv ou la) rc) =
    (if r < 0 then (BX8_stepToNoise_59 k22) [(0, .ref 48), (1, .int v1), (2, .int v2), (3, .int v3), (4, .int r)] [] (CH mz tp tk rd hi sc pl dr wa (wA T CF SN 14 q mo be ce fg sv ou la) rc) else (if (48 : Int32) ≤ r then (BX8_stepToNoise_59 k22) [(0, .ref 48), (1, .int v1), (2, .int v2), (3, .int v3), (4, .int r)] [] (CH mz tp tk rd hi sc pl dr wa (wA T CF SN 14 q mo be ce fg sv ou la) rc) else (if r < 0 ∨ 48 ≤ r.toNatClampNeg then none else (BX8_stepToNoise_61 k22) [(0, .ref 48), (1, .int v1), (2, .int v2), (3, .int v3), (4, .int r)] [.int (SN r.toNatClampNeg)] (CH mz tp tk rd hi sc pl dr wa (wA T CF SN 14 q mo be ce fg sv ou la) rc)))) := (cal_eq h rfl rfl (chk_rf _ _ _)).trans rfl
theorem qX8_stepToNoise_59b (k22 : KT HP) (v1 : Int32) (v2 : Int32) (v3 : Int32) (v4 : Int32) : BX8_stepToNoise_59 k22 [(0, .ref 48), (1, .int v1), (2, .int v2), (3, .int v3), (4, .int v4)] [] (CH mz tp tk rd hi sc pl dr wa (wA T CF SN 14 q mo be ce fg sv ou la) rc) =
    (BX8_stepToNoise_61 k22) [(0, .ref 48), (1, .int v1), (2, .int v2), (3, .int v3), (4, .int v4)] [.int (-2)] (CH mz tp tk rd hi sc pl dr wa (wA T CF SN 14 q mo be ce fg sv ou la) rc) := rfl
theorem qX8_stepToNoise_61b (k22 : KT HP) (v1 : Int32) (v2 : Int32) (v3 : Int32) (v4 : Int32) (s0 : Int32) : BX8_stepToNoise_61 k22 [(0, .ref 48), (1, .int v1), (2, .int v2), (3, .int v3), (4, .int v4)] [.int s0] (CH mz tp tk rd hi sc pl dr wa (wA T CF SN 14 q mo be ce fg sv ou la) rc) =
    (if s0 < 0 then k22 [(0, .ref 48), (1, .int v1), (2, .int v2), (3, .int (v3 + 1))] [] (CH mz tp tk rd hi sc pl dr wa (wA T CF SN 14 q mo be ce fg sv ou la) rc) else (if v2 ≤ s0 then k22 [(0, .ref 48), (1, .int v1), (2, .int v2), (3, .int (v3 + 1))] [] (CH mz tp tk rd hi sc pl dr wa (wA T CF SN 14 q mo be ce fg sv ou la) rc) else k22 [(0, .ref 48), (1, .int v4), (2, .int s0), (3, .int (v3 + 1))] [] (CH mz tp tk rd hi sc pl dr wa (wA T CF SN 14 q mo be ce fg sv ou la) rc))) := rfl
theorem eX8_stepByLot_sb : EX8_stepByLot [.ref 48] (CH mz tp tk rd hi sc pl dr wa (wA T CF SN 14 q mo be ce fg sv ou la) rc) = BX8_stepByLot_0 [(0, .ref 48)] [] (CH mz tp tk rd hi sc pl dr wa (wA T CF SN 14 q mo be ce fg sv ou la) rc) := rfl
theorem qX8_stepByLot_0b : BX8_stepByLot_0 [(0, .ref 48)] [] (CH mz tp tk rd hi sc pl dr wa (wA T CF SN 14 q mo be ce fg sv ou la) rc) =
    (if (bcnt ((besd pl.1 (bitL ce)) &&& mo)) = 0 then some (CH mz tp tk rd hi sc pl dr wa (wA T CF SN 14 q mo be ce fg sv ou la) rc) else (if ¬ (bcnt ((besd pl.1 (bitL ce)) &&& mo)) = 0 then lp (BX8_stepByLot_44) FU [(0, .ref 48), (2, .int ((((75 * sv) + 74) - ((75 * sv) + 74) / 65537 * 65537) - (((75 * sv) + 74) - ((75 * sv) + 74) / 65537 * 65537) / (bcnt ((besd pl.1 (bitL ce)) &&& mo)) * (bcnt ((besd pl.1 (bitL ce)) &&& mo)))), (3, .int 0)] [] (CH mz tp tk rd hi sc pl dr wa (wA T CF SN 14 q mo be ce fg (((75 * sv) + 74) - ((75 * sv) + 74) / 65537 * 65537) ou la) rc) else none)) := rfl
theorem qX8_stepByLot_44b (k44 : KT HP) (v2 : Int32) (v3 : Int32) : BX8_stepByLot_44 k44 [(0, .ref 48), (2, .int v2), (3, .int v3)] [] (CH mz tp tk rd hi sc pl dr wa (wA T CF SN 14 q mo be ce fg sv ou la) rc) =
    (if (4 : Int32) ≤ v3 then some (CH mz tp tk rd hi sc pl dr wa (wA T CF SN 14 q mo be ce fg sv ou la) rc) else (BX8_stepByLot_51 k44) [(0, .ref 48), (2, .int v2), (3, .int v3)] [.int v3, .ref 48] (CH mz tp tk rd hi sc pl dr wa (wA T CF SN 14 q mo be ce fg sv ou la) rc)) := rfl
theorem qX8_stepByLot_51b (k44 : KT HP) (v2 : Int32) (v3 : Int32) (s0 : Int32) {r : Int32} (h : EX8_mownTo [.ref 48, .int s0] (CH mz tp tk rd hi sc pl dr wa (wA T CF SN 14 q mo be ce fg sv ou la) rc) = some r) : BX8_stepByLot_51 k44 [(0, .ref 48), (2, .int v2), (3, .int v3)] [.int s0, .ref 48] (CH mz tp tk rd hi sc pl dr wa (wA T CF SN 14 q mo be ce fg sv ou la) rc) =
    (if r = (-1) then k44 [(0, .ref 48), (2, .int v2), (3, .int (v3 + 1))] [] (CH mz tp tk rd hi sc pl dr wa (wA T CF SN 14 q mo be ce fg sv ou la) rc) else (if v2 = 0 then (BX8_stepByLot_73) [] [.int ce, .int r, .ref 48] (CH mz tp tk rd hi sc pl dr wa (wA T CF SN 14 q mo be ce fg sv ou la) rc) else k44 [(0, .ref 48), (2, .int (v2 + (-1))), (3, .int (v3 + 1))] [] (CH mz tp tk rd hi sc pl dr wa (wA T CF SN 14 q mo be ce fg sv ou la) rc))) := (cal_eq h rfl rfl (chk_rf _ _ _)).trans rfl
theorem qX8_stepByLot_73b (s0 : Int32) (s1 : Int32) {T' CF' SN' : Nat → Int32} {mo' be' : Int64} {ce' fg' sv' ou' la' : Int32} (h : EX8_enter [.ref 48, .int s1, .int s0] (CH mz tp tk rd hi sc pl dr wa (wA T CF SN 14 q mo be ce fg sv ou la) rc) = some (CH mz tp tk rd hi sc pl dr wa (wA T' CF' SN' 14 q mo' be' ce' fg' sv' ou' la') rc)) : BX8_stepByLot_73 [] [.int s0, .int s1, .ref 48] (CH mz tp tk rd hi sc pl dr wa (wA T CF SN 14 q mo be ce fg sv ou la) rc) =
    some (CH mz tp tk rd hi sc pl dr wa (wA T' CF' SN' 14 q mo' be' ce' fg' sv' ou' la') rc) := (cal_eq h rfl rfl rfl).trans rfl
end
section
variable (mz : MzS) (tp : TpS) (tk : TkS) (rd : RdS) (hi : HiS) (sc : ScS) (pl : PlS) (dr : PlS) (wa : WaS) (wb : WaS) (rc : (Nat → Int32))
theorem eX3_hasNoise_s : EX3_hasNoise [.ref 14] (CH mz tp tk rd hi sc pl dr wa wb rc) = BX3_hasNoise_0 [(0, .ref 14)] [] (CH mz tp tk rd hi sc pl dr wa wb rc) := rfl
theorem qX3_hasNoise_0 : BX3_hasNoise_0 [(0, .ref 14)] [] (CH mz tp tk rd hi sc pl dr wa wb rc) =
    (if pl.2.2.2.2.2.2.2.2.2.1 = (-2) then some false else some true) := rfl
theorem e_walker {j : Nat} (hj : j < 5) : EX3_walker [.ref 14, .int (nI j)] (CH mz tp tk rd hi sc pl dr wa wb rc) = some (24 + j) := by
  rcases (by omega : j = 0 ∨ j = 1 ∨ j = 2 ∨ j = 3 ∨ j = 4) with rfl | rfl | rfl | rfl | rfl <;> rfl
end
