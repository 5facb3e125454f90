section
variable (mz : MzS) (tp : TpS) (tk : TkS) (rd : RdS) (hi : HiS) (sc : ScS) (pl : PlS) (dr : PlS) (wa : WaS) (wb : WaS) (rc : (Nat → Int32))
theorem eX3_gateCell_s (j : Int32) : EX3_gateCell [.ref 14, .int j] (CH mz tp tk rd hi sc pl dr wa wb rc) = BX3_gateCell_0 [(0, .ref 14), (1, .int j)] [] (CH mz tp tk rd hi sc pl dr wa wb rc) := rfl
theorem qX3_gateCell_0 (j : Int32) : BX3_gateCell_0 [(0, .ref 14), (1, .int j)] [] (CH mz tp tk rd hi sc pl dr wa wb rc) =
    (if j < 0 then some (-2) else (if (4 : Int32) ≤ j then some (-2) else (if j < 0 ∨ 4 ≤ j.toNatClampNeg then none else some (pl.2.2.1.1 j.toNatClampNeg)))) := rfl
theorem eX3_heardCell_s (j : Int32) : EX3_heardCell [.ref 14, .int j] (CH mz tp tk rd hi sc pl dr wa wb rc) = BX3_heardCell_0 [(0, .ref 14), (1, .int j)] [] (CH mz tp tk rd hi sc pl dr wa wb rc) := rfl
theorem qX3_heardCell_0 (j : Int32) : BX3_heardCell_0 [(0, .ref 14), (1, .int j)] [] (CH mz tp tk rd hi sc pl dr wa wb rc) =
    (if j < 0 then some (-2) else (if (5 : Int32) ≤ j then some (-2) else (if j < 0 ∨ 5 ≤ j.toNatClampNeg then none else some (pl.2.2.1.2.1 j.toNatClampNeg)))) := rfl
theorem eX3_heardSteps_s (j : Int32) : EX3_heardSteps [.ref 14, .int j] (CH mz tp tk rd hi sc pl dr wa wb rc) = BX3_heardSteps_0 [(0, .ref 14), (1, .int j)] [] (CH mz tp tk rd hi sc pl dr wa wb rc) := rfl
theorem qX3_heardSteps_0 (j : Int32) : BX3_heardSteps_0 [(0, .ref 14), (1, .int j)] [] (CH mz tp tk rd hi sc pl dr wa wb rc) =
    (if j < 0 then some (-2) else (if (5 : Int32) ≤ j then some (-2) else (if j < 0 ∨ 5 ≤ j.toNatClampNeg then none else some (pl.2.2.1.2.2 j.toNatClampNeg)))) := rfl
theorem eX3_told_s (z : Int32) : EX3_told [.ref 14, .int z] (CH mz tp tk rd hi sc pl dr wa wb rc) = BX3_told_0 [(0, .ref 14), (1, .int z)] [] (CH mz tp tk rd hi sc pl dr wa wb rc) := rfl
theorem qX3_told_0 (z : Int32) : BX3_told_0 [(0, .ref 14), (1, .int z)] [] (CH mz tp tk rd hi sc pl dr wa wb rc) =
    (if z = 0 then some pl.1.2.1 else (if z = 1 then some pl.1.2.2.1 else (if z = 2 then some pl.2.2.2.2.1 else (if z = 3 then some pl.2.2.2.2.2.1 else (if z = 4 then some pl.2.2.2.2.2.2.2.1 else (if z = 5 then some pl.2.2.2.2.2.2.2.2.2.2.2 else (if z = 6 then some pl.2.2.2.2.2.2.2.2.2.2.1 else (if z = 7 then some pl.2.2.2.2.2.2.2.2.2.1 else some (-1))))))))) := rfl
theorem eX1_keepAct_s (m : Int64) (n : Int32) : EX1_keepAct [.ref 5, .long m, .int n] (CH mz tp tk rd hi sc pl dr wa wb rc) = BX1_keepAct_0 [(0, .ref 5), (1, .long m), (3, .int n)] [] (CH mz tp tk rd hi sc pl dr wa wb rc) := rfl
theorem qX1_keepAct_0 (m : Int64) (n : Int32) : BX1_keepAct_0 [(0, .ref 5), (1, .long m), (3, .int n)] [] (CH mz tp tk rd hi sc pl dr wa wb rc) =
    (if hi.2.2.2.2.1 < 20 then (BX1_keepAct_45) [(0, .ref 5), (1, .long m), (3, .int n)] [] (CH mz tp tk rd hi sc pl dr wa wb rc) else (BX1_keepAct_45) [(0, .ref 5), (1, .long m), (3, .int n)] [] (CH mz tp tk rd ((va_cpy hi.1 hi.1 1 0 19), (va_cpy hi.2.1 hi.2.1 1 0 19), hi.2.2.1, hi.2.2.2.1, 19, hi.2.2.2.2.2) sc pl dr wa wb rc)) := rfl
theorem qX1_keepAct_45 (m : Int64) (n : Int32) : BX1_keepAct_45 [(0, .ref 5), (1, .long m), (3, .int n)] [] (CH mz tp tk rd hi sc pl dr wa wb rc) =
    (if hi.2.2.2.2.1 < 0 then some (CH mz tp tk rd hi sc pl dr wa wb rc) else (if (20 : Int32) ≤ hi.2.2.2.2.1 then some (CH mz tp tk rd hi sc pl dr wa wb rc) else (if (20 : Int32) ≤ hi.2.2.2.2.1 then some (CH mz tp tk rd hi sc pl dr wa wb rc) else (if hi.2.2.2.2.1 < 0 ∨ 20 ≤ hi.2.2.2.2.1.toNatClampNeg then none else (if hi.2.2.2.2.1 < 0 ∨ 20 ≤ hi.2.2.2.2.1.toNatClampNeg then none else some (CH mz tp tk rd ((vp_updL hi.1 hi.2.2.2.2.1.toNatClampNeg m), (upd hi.2.1 hi.2.2.2.2.1.toNatClampNeg n), hi.2.2.1, hi.2.2.2.1, hi.2.2.2.2.1 + 1, hi.2.2.2.2.2) sc pl dr wa wb rc)))))) := rfl
theorem eX1_latestCells_s : EX1_latestCells [.ref 5] (CH mz tp tk rd hi sc pl dr wa wb rc) = BX1_latestCells_0 [(0, .ref 5)] [] (CH mz tp tk rd hi sc pl dr wa wb rc) := rfl
theorem qX1_latestCells_0 : BX1_latestCells_0 [(0, .ref 5)] [] (CH mz tp tk rd hi sc pl dr wa wb rc) =
    (if hi.2.2.2.2.1 ≤ 0 then some 0 else (if (20 : Int32) < hi.2.2.2.2.1 then some 0 else (if (hi.2.2.2.2.1 - 1) < 0 ∨ 20 ≤ (hi.2.2.2.2.1 - 1).toNatClampNeg then none else some (hi.1 ((hi.2.2.2.2.1 - 1).toNatClampNeg))))) := rfl
theorem eX1_latestSeed_s : EX1_latestSeed [.ref 5] (CH mz tp tk rd hi sc pl dr wa wb rc) = BX1_latestSeed_0 [(0, .ref 5)] [] (CH mz tp tk rd hi sc pl dr wa wb rc) := rfl
theorem qX1_latestSeed_0 : BX1_latestSeed_0 [(0, .ref 5)] [] (CH mz tp tk rd hi sc pl dr wa wb rc) =
    (if hi.2.2.2.2.1 ≤ 0 then some 0 else (if (20 : Int32) < hi.2.2.2.2.1 then some 0 else (if (hi.2.2.2.2.1 - 1) < 0 ∨ 20 ≤ (hi.2.2.2.2.1 - 1).toNatClampNeg then none else some (hi.2.1 ((hi.2.2.2.2.1 - 1).toNatClampNeg))))) := rfl
theorem eX1_dropLatest_s : EX1_dropLatest [.ref 5] (CH mz tp tk rd hi sc pl dr wa wb rc) = BX1_dropLatest_0 [(0, .ref 5)] [] (CH mz tp tk rd hi sc pl dr wa wb rc) := rfl
theorem qX1_dropLatest_0 : BX1_dropLatest_0 [(0, .ref 5)] [] (CH mz tp tk rd hi sc pl dr wa wb rc) =
    (if hi.2.2.2.2.1 ≤ 0 then some (CH mz tp tk rd hi sc pl dr wa wb rc) else some (CH mz tp tk rd (hi.1, hi.2.1, hi.2.2.1, hi.2.2.2.1, hi.2.2.2.2.1 - 1, hi.2.2.2.2.2) sc pl dr wa wb rc)) := rfl
theorem eX1_addMark_s (m : Int64) (n : Int32) : EX1_addMark [.ref 5, .long m, .int n] (CH mz tp tk rd hi sc pl dr wa wb rc) = BX1_addMark_0 [(0, .ref 5), (1, .long m), (3, .int n)] [] (CH mz tp tk rd hi sc pl dr wa wb rc) := rfl
theorem qX1_addMark_0 (m : Int64) (n : Int32) : BX1_addMark_0 [(0, .ref 5), (1, .long m), (3, .int n)] [] (CH mz tp tk rd hi sc pl dr wa wb rc) =
    (if hi.2.2.2.2.2 < 0 then some ((-1), (CH mz tp tk rd hi sc pl dr wa wb rc)) else (if (3 : Int32) ≤ hi.2.2.2.2.2 then some ((-1), (CH mz tp tk rd hi sc pl dr wa wb rc)) else (if hi.2.2.2.2.2 < 3 then (if hi.2.2.2.2.2 < 0 ∨ 3 ≤ hi.2.2.2.2.2.toNatClampNeg then none else (if hi.2.2.2.2.2 < 0 ∨ 3 ≤ hi.2.2.2.2.2.toNatClampNeg then none else some ((hi.2.2.2.2.2 + 1) - 1, (CH mz tp tk rd (hi.1, hi.2.1, (vp_updL hi.2.2.1 hi.2.2.2.2.2.toNatClampNeg m), (upd hi.2.2.2.1 hi.2.2.2.2.2.toNatClampNeg n), hi.2.2.2.2.1, hi.2.2.2.2.2 + 1) sc pl dr wa wb rc)))) else some ((-1), (CH mz tp tk rd hi sc pl dr wa wb rc))))) := rfl
theorem eX1_hasMark_s (z : Int32) : EX1_hasMark [.ref 5, .int z] (CH mz tp tk rd hi sc pl dr wa wb rc) = BX1_hasMark_0 [(0, .ref 5), (1, .int z)] [] (CH mz tp tk rd hi sc pl dr wa wb rc) := rfl
theorem qX1_hasMark_0 (z : Int32) : BX1_hasMark_0 [(0, .ref 5), (1, .int z)] [] (CH mz tp tk rd hi sc pl dr wa wb rc) =
    (if z < 0 then some false else (if hi.2.2.2.2.2 ≤ z then some false else some true)) := rfl
theorem eX1_markedCells_s (z : Int32) : EX1_markedCells [.ref 5, .int z] (CH mz tp tk rd hi sc pl dr wa wb rc) = BX1_markedCells_0 [(0, .ref 5), (1, .int z)] [] (CH mz tp tk rd hi sc pl dr wa wb rc) := rfl
theorem qX1_markedCells_0 (z : Int32) : BX1_markedCells_0 [(0, .ref 5), (1, .int z)] [] (CH mz tp tk rd hi sc pl dr wa wb rc) =
    (if z < 0 then some 0 else (if (3 : Int32) ≤ z then some 0 else (if z < 0 ∨ 3 ≤ z.toNatClampNeg then none else some (hi.2.2.1 z.toNatClampNeg)))) := rfl
theorem eX1_markedSeed_s (z : Int32) : EX1_markedSeed [.ref 5, .int z] (CH mz tp tk rd hi sc pl dr wa wb rc) = BX1_markedSeed_0 [(0, .ref 5), (1, .int z)] [] (CH mz tp tk rd hi sc pl dr wa wb rc) := rfl
theorem qX1_markedSeed_0 (z : Int32) : BX1_markedSeed_0 [(0, .ref 5), (1, .int z)] [] (CH mz tp tk rd hi sc pl dr wa wb rc) =
    (if z < 0 then some 0 else (if (3 : Int32) ≤ z then some 0 else (if z < 0 ∨ 3 ≤ z.toNatClampNeg then none else some (hi.2.2.2.1 z.toNatClampNeg)))) := rfl
theorem eX3_walkerCells_s : EX3_walkerCells [.ref 14] (CH mz tp tk rd hi sc pl dr wa wb rc) = BX3_walkerCells_0 [(0, .ref 14)] [] (CH mz tp tk rd hi sc pl dr wa wb rc) := rfl
theorem qX3_walkerCells_0 : BX3_walkerCells_0 [(0, .ref 14)] [] (CH mz tp tk rd hi sc pl dr wa wb rc) =
    lp (BX3_walkerCells_4) FU [(0, .ref 14), (1, .long 0), (3, .int 0)] [] (CH mz tp tk rd hi sc pl dr wa wb rc) := rfl
theorem qX3_walkerCells_4_0 (k4 : KT Int64) (v1 : Int64) : BX3_walkerCells_4 k4 [(0, .ref 14), (1, .long v1), (3, .int 0)] [] (CH mz tp tk rd hi sc pl dr wa wb rc) =
    (if pl.2.2.2.2.2.2.2.2.2.2.2 ≤ (0 : Int32) then some v1 else k4 [(0, .ref 14), (1, .long (v1 ||| (bitL ((pl.2.2.2.1 0).2.2.1)))), (3, .int 1)] [] (CH mz tp tk rd hi sc pl dr wa wb rc)) := rfl
theorem qX3_walkerCells_4_1 (k4 : KT Int64) (v1 : Int64) : BX3_walkerCells_4 k4 [(0, .ref 14), (1, .long v1), (3, .int 1)] [] (CH mz tp tk rd hi sc pl dr wa wb rc) =
    (if pl.2.2.2.2.2.2.2.2.2.2.2 ≤ (1 : Int32) then some v1 else k4 [(0, .ref 14), (1, .long (v1 ||| (bitL ((pl.2.2.2.1 1).2.2.1)))), (3, .int 2)] [] (CH mz tp tk rd hi sc pl dr wa wb rc)) := rfl
theorem qX3_walkerCells_4_2 (k4 : KT Int64) (v1 : Int64) : BX3_walkerCells_4 k4 [(0, .ref 14), (1, .long v1), (3, .int 2)] [] (CH mz tp tk rd hi sc pl dr wa wb rc) =
    (if pl.2.2.2.2.2.2.2.2.2.2.2 ≤ (2 : Int32) then some v1 else k4 [(0, .ref 14), (1, .long (v1 ||| (bitL ((pl.2.2.2.1 2).2.2.1)))), (3, .int 3)] [] (CH mz tp tk rd hi sc pl dr wa wb rc)) := rfl
theorem qX3_walkerCells_4_3 (k4 : KT Int64) (v1 : Int64) : BX3_walkerCells_4 k4 [(0, .ref 14), (1, .long v1), (3, .int 3)] [] (CH mz tp tk rd hi sc pl dr wa wb rc) =
    (if pl.2.2.2.2.2.2.2.2.2.2.2 ≤ (3 : Int32) then some v1 else k4 [(0, .ref 14), (1, .long (v1 ||| (bitL ((pl.2.2.2.1 3).2.2.1)))), (3, .int 4)] [] (CH mz tp tk rd hi sc pl dr wa wb rc)) := rfl
theorem qX3_walkerCells_4_4 (k4 : KT Int64) (v1 : Int64) : BX3_walkerCells_4 k4 [(0, .ref 14), (1, .long v1), (3, .int 4)] [] (CH mz tp tk rd hi sc pl dr wa wb rc) =
    (if pl.2.2.2.2.2.2.2.2.2.2.2 ≤ (4 : Int32) then some v1 else k4 [(0, .ref 14), (1, .long (v1 ||| (bitL ((pl.2.2.2.1 4).2.2.1)))), (3, .int 5)] [] (CH mz tp tk rd hi sc pl dr wa wb rc)) := rfl
theorem qX3_walkerCells_4_5 (k4 : KT Int64) (v1 : Int64) : BX3_walkerCells_4 k4 [(0, .ref 14), (1, .long v1), (3, .int 5)] [] (CH mz tp tk rd hi sc pl dr wa wb rc) =
    (if pl.2.2.2.2.2.2.2.2.2.2.2 ≤ (5 : Int32) then some v1 else some v1) := rfl
end
