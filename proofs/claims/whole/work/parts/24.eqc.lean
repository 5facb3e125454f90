/-! Names for what comes again and again. -/
abbrev bitL (c : Int32) : Int64 := (1 : Int64) <<< (c.toInt64 &&& 63)
def besd (g : GrS) (x : Int64) : Int64 := (((((x &&& (g.2.2.2.2.2.2 ^^^ (-1))) <<< ((1 : Int32).toInt64 &&& 63)) ||| ((x &&& (g.2.2.2.2.2.1 ^^^ (-1))).toUInt64 >>> ((1 : Int32).toInt64.toUInt64 &&& Int64.toUInt64 63)).toInt64) ||| (x <<< (g.2.1.toInt64 &&& 63))) ||| (x.toUInt64 >>> (g.2.1.toInt64.toUInt64 &&& Int64.toUInt64 63)).toInt64) &&& g.2.2.2.2.1
section
variable (hp : HP)
theorem eX10_isIn_s (m : Int64) (c : Int32) : EX10_isIn [.long m, .int c] hp = BX10_isIn_0 [(0, .long m), (2, .int c)] [] hp := rfl
theorem qX10_isIn_0 (m : Int64) (c : Int32) : BX10_isIn_0 [(0, .long m), (2, .int c)] [] hp =
    (if (lg_cmp (((m.toUInt64 >>> (c.toInt64.toUInt64 &&& Int64.toUInt64 63)).toInt64) &&& 1) 0) = 0 then some false else some true) := rfl
theorem eX10_nthCell_s (m : Int64) (n : Int32) : EX10_nthCell [.long m, .int n] hp = BX10_nthCell_0 [(0, .long m), (2, .int n)] [] hp := rfl
theorem qX10_nthCell_0 (m : Int64) (n : Int32) : BX10_nthCell_0 [(0, .long m), (2, .int n)] [] hp =
    lp (BX10_nthCell_5) FU [(0, .long m), (2, .int n), (3, .int 0), (4, .int 0)] [] hp := rfl
theorem qX10_nthCell_5 (k5 : KT Int32) (m : Int64) (n : Int32) (v3 : Int32) (v4 : Int32) : BX10_nthCell_5 k5 [(0, .long m), (2, .int n), (3, .int v3), (4, .int v4)] [] hp =
    (if (48 : Int32) ≤ v4 then some (-2) else (BX10_nthCell_15 k5) [(0, .long m), (2, .int n), (3, .int v3), (4, .int v4)] [.int v4, .long m] hp) := rfl
theorem qX10_nthCell_15 (k5 : KT Int32) (m : Int64) (n : Int32) (v3 : Int32) (v4 : Int32) (s0 : Int32) (s1 : Int64) {r : Bool} (h : EX10_isIn [.long s1, .int s0] hp = some r) : BX10_nthCell_15 k5 [(0, .long m), (2, .int n), (3, .int v3), (4, .int v4)] [.int s0, .long s1] hp =
    (if (b2i r) = 0 then k5 [(0, .long m), (2, .int n), (3, .int v3), (4, .int (v4 + 1))] [] hp else (if v3 = n then some v4 else k5 [(0, .long m), (2, .int n), (3, .int (v3 + 1)), (4, .int (v4 + 1))] [] hp)) := (cal_eq h rfl rfl (chk_rf _ _ _)).trans rfl
theorem eX10_draw_s (x : Int32) : EX10_draw [.int x] hp = BX10_draw_0 [(0, .int x)] [] hp := rfl
theorem qX10_draw_0 (x : Int32) : BX10_draw_0 [(0, .int x)] [] hp =
    some (((75 * x) + 74) - ((75 * x) + 74) / 65537 * 65537) := rfl
theorem eX12_in_s (x : Int32) (lo : Int32) (hi : Int32) : EX12_in [.int x, .int lo, .int hi] hp = BX12_in_0 [(0, .int x), (1, .int lo), (2, .int hi)] [] hp := rfl
theorem qX12_in_0 (x : Int32) (lo : Int32) (hi : Int32) : BX12_in_0 [(0, .int x), (1, .int lo), (2, .int hi)] [] hp =
    (if x < lo then some false else (if hi < x then some false else some true)) := rfl
theorem eX12_has_s (m : Int64) (c : Int32) : EX12_has [.long m, .int c] hp = BX12_has_0 [(0, .long m), (2, .int c)] [] hp := rfl
theorem qX12_has_0 (m : Int64) (c : Int32) : BX12_has_0 [(0, .long m), (2, .int c)] [] hp =
    (if (lg_cmp ((m >>> (c.toInt64 &&& 63)) &&& 1) 1) = 0 then some true else some false) := rfl
theorem eX12_bits_s (m : Int64) : EX12_bits [.long m] hp = BX12_bits_0 [(0, .long m)] [] hp := rfl
theorem qX12_bits_0 (m : Int64) : BX12_bits_0 [(0, .long m)] [] hp =
    lp (BX12_bits_4) FU [(2, .int 0), (3, .long m)] [] hp := rfl
theorem qX12_bits_4 (k4 : KT Int32) (v2 : Int32) (v3 : Int64) : BX12_bits_4 k4 [(2, .int v2), (3, .long v3)] [] hp =
    (if (lg_cmp v3 0) = 0 then some v2 else k4 [(2, .int (v2 + 1)), (3, .long (v3 &&& (v3 - 1)))] [] hp) := rfl
theorem eX12_first_s (m : Int64) : EX12_first [.long m] hp = BX12_first_0 [(0, .long m)] [] hp := rfl
theorem qX12_first_0 (m : Int64) : BX12_first_0 [(0, .long m)] [] hp =
    lp (BX12_first_2) FU [(0, .long m), (2, .int 0)] [] hp := rfl
theorem qX12_first_2 (k2 : KT Int32) (m : Int64) (v2 : Int32) : BX12_first_2 k2 [(0, .long m), (2, .int v2)] [] hp =
    (BX12_first_4 k2) [(0, .long m), (2, .int v2)] [.int v2, .long m] hp := rfl
theorem qX12_first_4 (k2 : KT Int32) (m : Int64) (v2 : Int32) (s0 : Int32) (s1 : Int64) {r : Bool} (h : EX12_has [.long s1, .int s0] hp = some r) : BX12_first_4 k2 [(0, .long m), (2, .int v2)] [.int s0, .long s1] hp =
    (if (b2i r) = 0 then k2 [(0, .long m), (2, .int (v2 + 1))] [] hp else some v2) := (cal_eq h rfl rfl (chk_rf _ _ _)).trans rfl
theorem eX12_drawn_s (x : Int32) : EX12_drawn [.int x] hp = BX12_drawn_0 [(0, .int x)] [] hp := rfl
theorem qX12_drawn_0 (x : Int32) : BX12_drawn_0 [(0, .int x)] [] hp =
    some ((((75 * x.toInt64) + 74) - ((75 * x.toInt64) + 74) / 65537 * 65537).toInt32) := rfl
theorem eX12_isLetter_s (x : Int32) : EX12_isLetter [.int x] hp = BX12_isLetter_0 [(0, .int x)] [] hp := rfl
theorem qX12_isLetter_0 (x : Int32) : BX12_isLetter_0 [(0, .int x)] [] hp =
    (if x < 97 then some false else (if (122 : Int32) < x then some false else some true)) := rfl
theorem eX12_isDigit_s (x : Int32) : EX12_isDigit [.int x] hp = BX12_isDigit_0 [(0, .int x)] [] hp := rfl
theorem qX12_isDigit_0 (x : Int32) : BX12_isDigit_0 [(0, .int x)] [] hp =
    (if x < 48 then some false else (if (57 : Int32) < x then some false else some true)) := rfl
end
section
variable (mz : MzS) (tp : TpS) (tk : TkS) (rd : RdS) (hi : HiS) (sc : ScS) (pl : PlS) (dr : PlS) (wa : WaS) (wb : WaS) (rc : (Nat → Int32))
theorem eX0_number_s (x : Int32) (y : Int32) : EX0_number [.ref 15, .int x, .int y] (CH mz tp tk rd hi sc pl dr wa wb rc) = BX0_number_0 [(0, .ref 15), (1, .int x), (2, .int y)] [] (CH mz tp tk rd hi sc pl dr wa wb rc) := rfl
theorem qX0_number_0 (x : Int32) (y : Int32) : BX0_number_0 [(0, .ref 15), (1, .int x), (2, .int y)] [] (CH mz tp tk rd hi sc pl dr wa wb rc) =
    some ((pl.1.2.1 * y) + x) := rfl
theorem eX0_isInside_s (x : Int32) (y : Int32) : EX0_isInside [.ref 15, .int x, .int y] (CH mz tp tk rd hi sc pl dr wa wb rc) = BX0_isInside_0 [(0, .ref 15), (1, .int x), (2, .int y)] [] (CH mz tp tk rd hi sc pl dr wa wb rc) := rfl
theorem qX0_isInside_0 (x : Int32) (y : Int32) : BX0_isInside_0 [(0, .ref 15), (1, .int x), (2, .int y)] [] (CH mz tp tk rd hi sc pl dr wa wb rc) =
    (if x < 0 then some false else (if pl.1.2.1 ≤ x then some false else (if y < 0 then some false else (if pl.1.2.2.1 ≤ y then some false else some true)))) := rfl
theorem eX0_cellTo_s (sd : Int32) (c : Int32) : EX0_cellTo [.ref 15, .int sd, .int c] (CH mz tp tk rd hi sc pl dr wa wb rc) = BX0_cellTo_0 [(0, .ref 15), (1, .int sd), (2, .int c)] [] (CH mz tp tk rd hi sc pl dr wa wb rc) := rfl
theorem qX0_cellTo_0 (sd : Int32) (c : Int32) : BX0_cellTo_0 [(0, .ref 15), (1, .int sd), (2, .int c)] [] (CH mz tp tk rd hi sc pl dr wa wb rc) =
    (if ((c * 4) + sd) < 0 then some (-1) else (if (192 : Int32) ≤ ((c * 4) + sd) then some (-1) else (if ((c * 4) + sd) < 0 ∨ 192 ≤ ((c * 4) + sd).toNatClampNeg then none else some (pl.1.1 (((c * 4) + sd).toNatClampNeg))))) := rfl
theorem eX0_besideAll_s (x : Int64) : EX0_besideAll [.ref 15, .long x] (CH mz tp tk rd hi sc pl dr wa wb rc) = BX0_besideAll_0 [(0, .ref 15), (1, .long x)] [] (CH mz tp tk rd hi sc pl dr wa wb rc) := rfl
theorem qX0_besideAll_0 (x : Int64) : BX0_besideAll_0 [(0, .ref 15), (1, .long x)] [] (CH mz tp tk rd hi sc pl dr wa wb rc) =
    some ((((((x &&& (pl.1.2.2.2.2.2.2 ^^^ (-1))) <<< ((1 : Int32).toInt64 &&& 63)) ||| (((x &&& (pl.1.2.2.2.2.2.1 ^^^ (-1))).toUInt64 >>> ((1 : Int32).toInt64.toUInt64 &&& Int64.toUInt64 63)).toInt64)) ||| (x <<< (pl.1.2.1.toInt64 &&& 63))) ||| ((x.toUInt64 >>> (pl.1.2.1.toInt64.toUInt64 &&& Int64.toUInt64 63)).toInt64)) &&& pl.1.2.2.2.2.1) := rfl
theorem eX0_countBeside_s (m : Int64) (c : Int32) : EX0_countBeside [.ref 15, .long m, .int c] (CH mz tp tk rd hi sc pl dr wa wb rc) = BX0_countBeside_0 [(0, .ref 15), (1, .long m), (3, .int c)] [] (CH mz tp tk rd hi sc pl dr wa wb rc) := rfl
theorem qX0_countBeside_0 (m : Int64) (c : Int32) : BX0_countBeside_0 [(0, .ref 15), (1, .long m), (3, .int c)] [] (CH mz tp tk rd hi sc pl dr wa wb rc) =
    some (bcnt ((besd pl.1 (bitL c)) &&& m)) := rfl
theorem eX0_flood_s (m : Int64) (f : Int64) : EX0_flood [.ref 15, .long m, .long f] (CH mz tp tk rd hi sc pl dr wa wb rc) = BX0_flood_0 [(0, .ref 15), (1, .long m), (3, .long f)] [] (CH mz tp tk rd hi sc pl dr wa wb rc) := rfl
theorem qX0_flood_0 (m : Int64) (f : Int64) : BX0_flood_0 [(0, .ref 15), (1, .long m), (3, .long f)] [] (CH mz tp tk rd hi sc pl dr wa wb rc) =
    lp (BX0_flood_9) FU [(0, .ref 15), (1, .long m), (5, .long f), (7, .long f), (9, .int 0)] [] (CH mz tp tk rd hi sc pl dr wa wb rc) := rfl
theorem qX0_flood_9 (k9 : KT Int64) (m : Int64) (v5 : Int64) (v7 : Int64) (v9 : Int32) : BX0_flood_9 k9 [(0, .ref 15), (1, .long m), (5, .long v5), (7, .long v7), (9, .int v9)] [] (CH mz tp tk rd hi sc pl dr wa wb rc) =
    (if (48 : Int32) ≤ v9 then some v5 else (if (lg_cmp v7 0) = 0 then some v5 else k9 [(0, .ref 15), (1, .long m), (5, .long (v5 ||| (((besd pl.1 v7) &&& m) &&& (v5 ^^^ (-1))))), (7, .long (((besd pl.1 v7) &&& m) &&& (v5 ^^^ (-1)))), (9, .int (v9 + 1))] [] (CH mz tp tk rd hi sc pl dr wa wb rc))) := rfl
theorem eX0_countParts_s (m : Int64) : EX0_countParts [.ref 15, .long m] (CH mz tp tk rd hi sc pl dr wa wb rc) = BX0_countParts_0 [(0, .ref 15), (1, .long m)] [] (CH mz tp tk rd hi sc pl dr wa wb rc) := rfl
theorem qX0_countParts_0 (m : Int64) : BX0_countParts_0 [(0, .ref 15), (1, .long m)] [] (CH mz tp tk rd hi sc pl dr wa wb rc) =
    lp (BX0_countParts_8) FU [(0, .ref 15), (1, .long m), (3, .int 0), (4, .long m), (6, .int 0)] [] (CH mz tp tk rd hi sc pl dr wa wb rc) := rfl
theorem qX0_countParts_8 (k8 : KT Int32) (m : Int64) (v3 : Int32) (v4 : Int64) (v6 : Int32) : BX0_countParts_8 k8 [(0, .ref 15), (1, .long m), (3, .int v3), (4, .long v4), (6, .int v6)] [] (CH mz tp tk rd hi sc pl dr wa wb rc) =
    (if (48 : Int32) ≤ v6 then some v3 else (if (lg_cmp v4 0) = 0 then some v3 else (BX0_countParts_32 k8) [(0, .ref 15), (1, .long m), (3, .int v3), (6, .int v6)] [.long (v4 &&& (-v4)), .long m, .ref 15, .long v4] (CH mz tp tk rd hi sc pl dr wa wb rc))) := rfl
theorem qX0_countParts_32 (k8 : KT Int32) (m : Int64) (v3 : Int32) (v6 : Int32) (s0 : Int64) (s1 : Int64) (s3 : Int64) {r : Int64} (h : EX0_flood [.ref 15, .long s1, .long s0] (CH mz tp tk rd hi sc pl dr wa wb rc) = some r) : BX0_countParts_32 k8 [(0, .ref 15), (1, .long m), (3, .int v3), (6, .int v6)] [.long s0, .long s1, .ref 15, .long s3] (CH mz tp tk rd hi sc pl dr wa wb rc) =
    k8 [(0, .ref 15), (1, .long m), (3, .int (v3 + 1)), (4, .long (s3 &&& (r ^^^ (-1)))), (6, .int (v6 + 1))] [] (CH mz tp tk rd hi sc pl dr wa wb rc) := (cal_eq h rfl rfl (chk_rf _ _ _)).trans rfl
theorem eX0_countRings_s (m : Int64) : EX0_countRings [.ref 15, .long m] (CH mz tp tk rd hi sc pl dr wa wb rc) = BX0_countRings_0 [(0, .ref 15), (1, .long m)] [] (CH mz tp tk rd hi sc pl dr wa wb rc) := rfl
theorem qX0_countRings_0 (m : Int64) : BX0_countRings_0 [(0, .ref 15), (1, .long m)] [] (CH mz tp tk rd hi sc pl dr wa wb rc) =
    (BX0_countRings_42) [] [.long m, .ref 15, .int (((bcnt (m &&& ((m &&& (pl.1.2.2.2.2.2.2 ^^^ (-1))) <<< ((1 : Int32).toInt64 &&& 63)))) + (bcnt (m &&& (m <<< (pl.1.2.1.toInt64 &&& 63))))) - (bcnt m))] (CH mz tp tk rd hi sc pl dr wa wb rc) := rfl
theorem qX0_countRings_42 (s0 : Int64) (s2 : Int32) {r : Int32} (h : EX0_countParts [.ref 15, .long s0] (CH mz tp tk rd hi sc pl dr wa wb rc) = some r) : BX0_countRings_42 [] [.long s0, .ref 15, .int s2] (CH mz tp tk rd hi sc pl dr wa wb rc) =
    some (s2 + r) := (cal_eq h rfl rfl (chk_rf _ _ _)).trans rfl
theorem eX0_countEnds_s (m : Int64) : EX0_countEnds [.ref 15, .long m] (CH mz tp tk rd hi sc pl dr wa wb rc) = BX0_countEnds_0 [(0, .ref 15), (1, .long m)] [] (CH mz tp tk rd hi sc pl dr wa wb rc) := rfl
theorem qX0_countEnds_0 (m : Int64) : BX0_countEnds_0 [(0, .ref 15), (1, .long m)] [] (CH mz tp tk rd hi sc pl dr wa wb rc) =
    lp (BX0_countEnds_5) FU [(0, .ref 15), (1, .long m), (3, .int 0), (4, .int 0)] [] (CH mz tp tk rd hi sc pl dr wa wb rc) := rfl
theorem qX0_countEnds_5 (k5 : KT Int32) (m : Int64) (v3 : Int32) (v4 : Int32) : BX0_countEnds_5 k5 [(0, .ref 15), (1, .long m), (3, .int v3), (4, .int v4)] [] (CH mz tp tk rd hi sc pl dr wa wb rc) =
    (if pl.1.2.2.2.1 ≤ v4 then some v3 else (BX0_countEnds_17 k5) [(0, .ref 15), (1, .long m), (3, .int v3), (4, .int v4)] [.int v4, .long m] (CH mz tp tk rd hi sc pl dr wa wb rc)) := rfl
theorem qX0_countEnds_17 (k5 : KT Int32) (m : Int64) (v3 : Int32) (v4 : Int32) (s0 : Int32) (s1 : Int64) {r : Bool} (h : EX10_isIn [.long s1, .int s0] (CH mz tp tk rd hi sc pl dr wa wb rc) = some r) : BX0_countEnds_17 k5 [(0, .ref 15), (1, .long m), (3, .int v3), (4, .int v4)] [.int s0, .long s1] (CH mz tp tk rd hi sc pl dr wa wb rc) =
    (if (b2i r) = 0 then k5 [(0, .ref 15), (1, .long m), (3, .int v3), (4, .int (v4 + 1))] [] (CH mz tp tk rd hi sc pl dr wa wb rc) else (if (bcnt ((besd pl.1 (bitL v4)) &&& m)) = 1 then k5 [(0, .ref 15), (1, .long m), (3, .int (v3 + 1)), (4, .int (v4 + 1))] [] (CH mz tp tk rd hi sc pl dr wa wb rc) else k5 [(0, .ref 15), (1, .long m), (3, .int v3), (4, .int (v4 + 1))] [] (CH mz tp tk rd hi sc pl dr wa wb rc))) := (cal_eq h rfl rfl (chk_rf _ _ _)).trans rfl
theorem eX0_isParting_s (m : Int64) (c : Int32) : EX0_isParting [.ref 15, .long m, .int c] (CH mz tp tk rd hi sc pl dr wa wb rc) = BX0_isParting_0 [(0, .ref 15), (1, .long m), (3, .int c)] [] (CH mz tp tk rd hi sc pl dr wa wb rc) := rfl
theorem qX0_isParting_0 (m : Int64) (c : Int32) : BX0_isParting_0 [(0, .ref 15), (1, .long m), (3, .int c)] [] (CH mz tp tk rd hi sc pl dr wa wb rc) =
    (BX0_isParting_27) [(0, .ref 15), (4, .long (m &&& ((bitL c) ^^^ (-1)))), (6, .long ((besd pl.1 (bitL c)) &&& (m &&& ((bitL c) ^^^ (-1)))))] [.int c, .long m] (CH mz tp tk rd hi sc pl dr wa wb rc) := rfl
theorem qX0_isParting_27 (v4 : Int64) (v6 : Int64) (s0 : Int32) (s1 : Int64) {r : Bool} (h : EX10_isIn [.long s1, .int s0] (CH mz tp tk rd hi sc pl dr wa wb rc) = some r) : BX0_isParting_27 [(0, .ref 15), (4, .long v4), (6, .long v6)] [.int s0, .long s1] (CH mz tp tk rd hi sc pl dr wa wb rc) =
    (if (b2i r) = 0 then some false else (BX0_isParting_44) [] [.long (v6 &&& (-v6)), .long v4, .ref 15, .long v6] (CH mz tp tk rd hi sc pl dr wa wb rc)) := (cal_eq h rfl rfl (chk_rf _ _ _)).trans rfl
theorem qX0_isParting_44 (s0 : Int64) (s1 : Int64) (s3 : Int64) {r : Int64} (h : EX0_flood [.ref 15, .long s1, .long s0] (CH mz tp tk rd hi sc pl dr wa wb rc) = some r) : BX0_isParting_44 [] [.long s0, .long s1, .ref 15, .long s3] (CH mz tp tk rd hi sc pl dr wa wb rc) =
    (if (lg_cmp (s3 &&& (r ^^^ (-1))) 0) = 0 then some false else some true) := (cal_eq h rfl rfl (chk_rf _ _ _)).trans rfl
theorem eX0_cellsAtSteps_s (m : Int64) (c : Int32) (n : Int32) : EX0_cellsAtSteps [.ref 15, .long m, .int c, .int n] (CH mz tp tk rd hi sc pl dr wa wb rc) = BX0_cellsAtSteps_0 [(0, .ref 15), (1, .long m), (3, .int c), (4, .int n)] [] (CH mz tp tk rd hi sc pl dr wa wb rc) := rfl
theorem qX0_cellsAtSteps_0 (m : Int64) (c : Int32) (n : Int32) : BX0_cellsAtSteps_0 [(0, .ref 15), (1, .long m), (3, .int c), (4, .int n)] [] (CH mz tp tk rd hi sc pl dr wa wb rc) =
    lp (BX0_cellsAtSteps_15) FU [(0, .ref 15), (1, .long m), (4, .int n), (5, .long ((bitL c) &&& m)), (7, .long ((bitL c) &&& m)), (9, .int 0)] [] (CH mz tp tk rd hi sc pl dr wa wb rc) := rfl
theorem qX0_cellsAtSteps_15 (k15 : KT Int64) (m : Int64) (n : Int32) (v5 : Int64) (v7 : Int64) (v9 : Int32) : BX0_cellsAtSteps_15 k15 [(0, .ref 15), (1, .long m), (4, .int n), (5, .long v5), (7, .long v7), (9, .int v9)] [] (CH mz tp tk rd hi sc pl dr wa wb rc) =
    (if n ≤ v9 then some v5 else k15 [(0, .ref 15), (1, .long m), (4, .int n), (5, .long (((besd pl.1 v5) &&& m) &&& (v7 ^^^ (-1)))), (7, .long (v7 ||| (((besd pl.1 v5) &&& m) &&& (v7 ^^^ (-1))))), (9, .int (v9 + 1))] [] (CH mz tp tk rd hi sc pl dr wa wb rc)) := rfl
theorem eX0_stepsBetween_s (m : Int64) (c : Int32) (d : Int32) : EX0_stepsBetween [.ref 15, .long m, .int c, .int d] (CH mz tp tk rd hi sc pl dr wa wb rc) = BX0_stepsBetween_0 [(0, .ref 15), (1, .long m), (3, .int c), (4, .int d)] [] (CH mz tp tk rd hi sc pl dr wa wb rc) := rfl
theorem qX0_stepsBetween_0 (m : Int64) (c : Int32) (d : Int32) : BX0_stepsBetween_0 [(0, .ref 15), (1, .long m), (3, .int c), (4, .int d)] [] (CH mz tp tk rd hi sc pl dr wa wb rc) =
    lp (BX0_stepsBetween_15) FU [(0, .ref 15), (1, .long m), (4, .int d), (5, .long ((bitL c) &&& m)), (7, .long ((bitL c) &&& m)), (9, .int 0)] [] (CH mz tp tk rd hi sc pl dr wa wb rc) := rfl
theorem qX0_stepsBetween_15 (k15 : KT Int32) (m : Int64) (d : Int32) (v5 : Int64) (v7 : Int64) (v9 : Int32) : BX0_stepsBetween_15 k15 [(0, .ref 15), (1, .long m), (4, .int d), (5, .long v5), (7, .long v7), (9, .int v9)] [] (CH mz tp tk rd hi sc pl dr wa wb rc) =
    (if (48 : Int32) ≤ v9 then some (-2) else (BX0_stepsBetween_26 k15) [(0, .ref 15), (1, .long m), (4, .int d), (5, .long v5), (7, .long v7), (9, .int v9)] [.int d, .long v5] (CH mz tp tk rd hi sc pl dr wa wb rc)) := rfl
theorem qX0_stepsBetween_26 (k15 : KT Int32) (m : Int64) (d : Int32) (v5 : Int64) (v7 : Int64) (v9 : Int32) (s0 : Int32) (s1 : Int64) {r : Bool} (h : EX10_isIn [.long s1, .int s0] (CH mz tp tk rd hi sc pl dr wa wb rc) = some r) : BX0_stepsBetween_26 k15 [(0, .ref 15), (1, .long m), (4, .int d), (5, .long v5), (7, .long v7), (9, .int v9)] [.int s0, .long s1] (CH mz tp tk rd hi sc pl dr wa wb rc) =
    (if (b2i r) = 0 then k15 [(0, .ref 15), (1, .long m), (4, .int d), (5, .long (((besd pl.1 v5) &&& m) &&& (v7 ^^^ (-1)))), (7, .long (v7 ||| (((besd pl.1 v5) &&& m) &&& (v7 ^^^ (-1))))), (9, .int (v9 + 1))] [] (CH mz tp tk rd hi sc pl dr wa wb rc) else some v9) := (cal_eq h rfl rfl (chk_rf _ _ _)).trans rfl
theorem eX0_longestWay_s (m : Int64) : EX0_longestWay [.ref 15, .long m] (CH mz tp tk rd hi sc pl dr wa wb rc) = BX0_longestWay_0 [(0, .ref 15), (1, .long m)] [] (CH mz tp tk rd hi sc pl dr wa wb rc) := rfl
theorem qX0_longestWay_0 (m : Int64) : BX0_longestWay_0 [(0, .ref 15), (1, .long m)] [] (CH mz tp tk rd hi sc pl dr wa wb rc) =
    lp (BX0_longestWay_6) FU [(0, .ref 15), (1, .long m), (3, .int (-2)), (4, .int 0)] [] (CH mz tp tk rd hi sc pl dr wa wb rc) := rfl
theorem qX0_longestWay_6 (k6 : KT Int32) (m : Int64) (v3 : Int32) (v4 : Int32) : BX0_longestWay_6 k6 [(0, .ref 15), (1, .long m), (3, .int v3), (4, .int v4)] [] (CH mz tp tk rd hi sc pl dr wa wb rc) =
    (if pl.1.2.2.2.1 ≤ v4 then some v3 else (BX0_longestWay_18 k6) [(0, .ref 15), (1, .long m), (3, .int v3), (4, .int v4)] [.int v4, .long m] (CH mz tp tk rd hi sc pl dr wa wb rc)) := rfl
theorem qX0_longestWay_18 (k6 : KT Int32) (m : Int64) (v3 : Int32) (v4 : Int32) (s0 : Int32) (s1 : Int64) {r : Bool} (h : EX10_isIn [.long s1, .int s0] (CH mz tp tk rd hi sc pl dr wa wb rc) = some r) : BX0_longestWay_18 k6 [(0, .ref 15), (1, .long m), (3, .int v3), (4, .int v4)] [.int s0, .long s1] (CH mz tp tk rd hi sc pl dr wa wb rc) =
    (if (b2i r) = 0 then k6 [(0, .ref 15), (1, .long m), (3, .int v3), (4, .int (v4 + 1))] [] (CH mz tp tk rd hi sc pl dr wa wb rc) else (BX0_longestWay_29 k6) [(0, .ref 15), (1, .long m), (4, .int v4)] [.int v4, .long m, .ref 15, .int v3] (CH mz tp tk rd hi sc pl dr wa wb rc)) := (cal_eq h rfl rfl (chk_rf _ _ _)).trans rfl
theorem qX0_longestWay_29 (k6 : KT Int32) (m : Int64) (v4 : Int32) (s0 : Int32) (s1 : Int64) (s3 : Int32) {r : Int32} (h : EX0_farthest [.ref 15, .long s1, .int s0] (CH mz tp tk rd hi sc pl dr wa wb rc) = some r) : BX0_longestWay_29 k6 [(0, .ref 15), (1, .long m), (4, .int v4)] [.int s0, .long s1, .ref 15, .int s3] (CH mz tp tk rd hi sc pl dr wa wb rc) =
    k6 [(0, .ref 15), (1, .long m), (3, .int (if s3 < r then r else s3)), (4, .int (v4 + 1))] [] (CH mz tp tk rd hi sc pl dr wa wb rc) := (cal_eq h rfl rfl (chk_rf _ _ _)).trans rfl
theorem eX0_farthest_s (m : Int64) (c : Int32) : EX0_farthest [.ref 15, .long m, .int c] (CH mz tp tk rd hi sc pl dr wa wb rc) = BX0_farthest_0 [(0, .ref 15), (1, .long m), (3, .int c)] [] (CH mz tp tk rd hi sc pl dr wa wb rc) := rfl
theorem qX0_farthest_0 (m : Int64) (c : Int32) : BX0_farthest_0 [(0, .ref 15), (1, .long m), (3, .int c)] [] (CH mz tp tk rd hi sc pl dr wa wb rc) =
    lp (BX0_farthest_18) FU [(0, .ref 15), (1, .long m), (4, .long ((bitL c) &&& m)), (6, .long ((bitL c) &&& m)), (8, .int 0), (9, .int 0)] [] (CH mz tp tk rd hi sc pl dr wa wb rc) := rfl
theorem qX0_farthest_18 (k18 : KT Int32) (m : Int64) (v4 : Int64) (v6 : Int64) (v8 : Int32) (v9 : Int32) : BX0_farthest_18 k18 [(0, .ref 15), (1, .long m), (4, .long v4), (6, .long v6), (8, .int v8), (9, .int v9)] [] (CH mz tp tk rd hi sc pl dr wa wb rc) =
    (if (48 : Int32) ≤ v9 then some v8 else (if (lg_cmp v4 0) = 0 then some v8 else k18 [(0, .ref 15), (1, .long m), (4, .long (((besd pl.1 v4) &&& m) &&& (v6 ^^^ (-1)))), (6, .long (v6 ||| (((besd pl.1 v4) &&& m) &&& (v6 ^^^ (-1))))), (8, .int v9), (9, .int (v9 + 1))] [] (CH mz tp tk rd hi sc pl dr wa wb rc))) := rfl
theorem eX0_weekLater_s (m : Int64) (g : Int64) (n : Int32) : EX0_weekLater [.ref 15, .long m, .long g, .int n] (CH mz tp tk rd hi sc pl dr wa wb rc) = BX0_weekLater_0 [(0, .ref 15), (1, .long m), (3, .long g), (5, .int n)] [] (CH mz tp tk rd hi sc pl dr wa wb rc) := rfl
theorem qX0_weekLater_0 (m : Int64) (g : Int64) (n : Int32) : BX0_weekLater_0 [(0, .ref 15), (1, .long m), (3, .long g), (5, .int n)] [] (CH mz tp tk rd hi sc pl dr wa wb rc) =
    lp (BX0_weekLater_6) FU [(0, .ref 15), (1, .long m), (3, .long g), (5, .int n), (6, .long m), (8, .int 0)] [] (CH mz tp tk rd hi sc pl dr wa wb rc) := rfl
theorem qX0_weekLater_6 (k6 : KT Int64) (m : Int64) (g : Int64) (n : Int32) (v6 : Int64) (v8 : Int32) : BX0_weekLater_6 k6 [(0, .ref 15), (1, .long m), (3, .long g), (5, .int n), (6, .long v6), (8, .int v8)] [] (CH mz tp tk rd hi sc pl dr wa wb rc) =
    (if pl.1.2.2.2.1 ≤ v8 then some v6 else (BX0_weekLater_24 k6) [(0, .ref 15), (1, .long m), (3, .long g), (5, .int n), (6, .long v6), (8, .int v8)] [.int v8, .long (m &&& (g ^^^ (-1)))] (CH mz tp tk rd hi sc pl dr wa wb rc)) := rfl
theorem qX0_weekLater_24 (k6 : KT Int64) (m : Int64) (g : Int64) (n : Int32) (v6 : Int64) (v8 : Int32) (s0 : Int32) (s1 : Int64) {r : Bool} (h : EX10_isIn [.long s1, .int s0] (CH mz tp tk rd hi sc pl dr wa wb rc) = some r) : BX0_weekLater_24 k6 [(0, .ref 15), (1, .long m), (3, .long g), (5, .int n), (6, .long v6), (8, .int v8)] [.int s0, .long s1] (CH mz tp tk rd hi sc pl dr wa wb rc) =
    (if (b2i r) = 0 then k6 [(0, .ref 15), (1, .long m), (3, .long g), (5, .int n), (6, .long v6), (8, .int (v8 + 1))] [] (CH mz tp tk rd hi sc pl dr wa wb rc) else (if (4 - (bcnt ((besd pl.1 (bitL v8)) &&& m))) < n then k6 [(0, .ref 15), (1, .long m), (3, .long g), (5, .int n), (6, .long v6), (8, .int (v8 + 1))] [] (CH mz tp tk rd hi sc pl dr wa wb rc) else k6 [(0, .ref 15), (1, .long m), (3, .long g), (5, .int n), (6, .long (v6 &&& ((bitL v8) ^^^ (-1)))), (8, .int (v8 + 1))] [] (CH mz tp tk rd hi sc pl dr wa wb rc))) := (cal_eq h rfl rfl (chk_rf _ _ _)).trans rfl
theorem eX0_seenFromWall_s (m : Int64) (c : Int32) : EX0_seenFromWall [.ref 15, .long m, .int c] (CH mz tp tk rd hi sc pl dr wa wb rc) = BX0_seenFromWall_0 [(0, .ref 15), (1, .long m), (3, .int c)] [] (CH mz tp tk rd hi sc pl dr wa wb rc) := rfl
theorem qX0_seenFromWall_0 (m : Int64) (c : Int32) : BX0_seenFromWall_0 [(0, .ref 15), (1, .long m), (3, .int c)] [] (CH mz tp tk rd hi sc pl dr wa wb rc) =
    (BX0_seenFromWall_5) [(0, .ref 15), (1, .long m), (3, .int c)] [.long 0, .int 0, .int c, .long m, .ref 15] (CH mz tp tk rd hi sc pl dr wa wb rc) := rfl
theorem qX0_seenFromWall_5 (m : Int64) (c : Int32) (s0 : Int64) (s1 : Int32) (s2 : Int32) (s3 : Int64) {r : Bool} (h : EX0_isSeenAlong [.ref 15, .long s3, .int s2, .int s1, .long s0] (CH mz tp tk rd hi sc pl dr wa wb rc) = some r) : BX0_seenFromWall_5 [(0, .ref 15), (1, .long m), (3, .int c)] [.long s0, .int s1, .int s2, .long s3, .ref 15] (CH mz tp tk rd hi sc pl dr wa wb rc) =
    (if (b2i r) = 0 then (BX0_seenFromWall_16) [(0, .ref 15), (1, .long m), (3, .int c)] [.int 0] (CH mz tp tk rd hi sc pl dr wa wb rc) else (BX0_seenFromWall_16) [(0, .ref 15), (1, .long m), (3, .int c)] [.int 1] (CH mz tp tk rd hi sc pl dr wa wb rc)) := (cal_eq h rfl rfl (chk_rf _ _ _)).trans rfl
theorem qX0_seenFromWall_16 (m : Int64) (c : Int32) (s0 : Int32) : BX0_seenFromWall_16 [(0, .ref 15), (1, .long m), (3, .int c)] [.int s0] (CH mz tp tk rd hi sc pl dr wa wb rc) =
    (BX0_seenFromWall_28) [(0, .ref 15), (1, .long m), (3, .int c)] [.long pl.1.2.2.2.2.2.1, .int (-1), .int c, .long m, .ref 15, .int s0] (CH mz tp tk rd hi sc pl dr wa wb rc) := rfl
theorem qX0_seenFromWall_28 (m : Int64) (c : Int32) (s0 : Int64) (s1 : Int32) (s2 : Int32) (s3 : Int64) (s5 : Int32) {r : Bool} (h : EX0_isSeenAlong [.ref 15, .long s3, .int s2, .int s1, .long s0] (CH mz tp tk rd hi sc pl dr wa wb rc) = some r) : BX0_seenFromWall_28 [(0, .ref 15), (1, .long m), (3, .int c)] [.long s0, .int s1, .int s2, .long s3, .ref 15, .int s5] (CH mz tp tk rd hi sc pl dr wa wb rc) =
    (if (b2i r) = 0 then (BX0_seenFromWall_39) [(0, .ref 15), (1, .long m), (3, .int c)] [.int 0, .int s5] (CH mz tp tk rd hi sc pl dr wa wb rc) else (BX0_seenFromWall_39) [(0, .ref 15), (1, .long m), (3, .int c)] [.int 2, .int s5] (CH mz tp tk rd hi sc pl dr wa wb rc)) := (cal_eq h rfl rfl (chk_rf _ _ _)).trans rfl
theorem qX0_seenFromWall_39 (m : Int64) (c : Int32) (s0 : Int32) (s1 : Int32) : BX0_seenFromWall_39 [(0, .ref 15), (1, .long m), (3, .int c)] [.int s0, .int s1] (CH mz tp tk rd hi sc pl dr wa wb rc) =
    (BX0_seenFromWall_52) [] [.long pl.1.2.2.2.2.2.2, .int 1, .int c, .long m, .ref 15, .int (s1 ||| s0)] (CH mz tp tk rd hi sc pl dr wa wb rc) := rfl
theorem qX0_seenFromWall_52 (s0 : Int64) (s1 : Int32) (s2 : Int32) (s3 : Int64) (s5 : Int32) {r : Bool} (h : EX0_isSeenAlong [.ref 15, .long s3, .int s2, .int s1, .long s0] (CH mz tp tk rd hi sc pl dr wa wb rc) = some r) : BX0_seenFromWall_52 [] [.long s0, .int s1, .int s2, .long s3, .ref 15, .int s5] (CH mz tp tk rd hi sc pl dr wa wb rc) =
    (if (b2i r) = 0 then some (s5 ||| 0) else some (s5 ||| 4)) := (cal_eq h rfl rfl (chk_rf _ _ _)).trans rfl
theorem eX0_isSeenAlong_s (m : Int64) (c : Int32) (sl : Int32) (ed : Int64) : EX0_isSeenAlong [.ref 15, .long m, .int c, .int sl, .long ed] (CH mz tp tk rd hi sc pl dr wa wb rc) = BX0_isSeenAlong_0 [(0, .ref 15), (1, .long m), (3, .int c), (4, .int sl), (5, .long ed)] [] (CH mz tp tk rd hi sc pl dr wa wb rc) := rfl
theorem qX0_isSeenAlong_0 (m : Int64) (c : Int32) (sl : Int32) (ed : Int64) : BX0_isSeenAlong_0 [(0, .ref 15), (1, .long m), (3, .int c), (4, .int sl), (5, .long ed)] [] (CH mz tp tk rd hi sc pl dr wa wb rc) =
    lp (BX0_isSeenAlong_6) FU [(0, .ref 15), (1, .long m), (4, .int sl), (5, .long ed), (7, .int c), (8, .int 0)] [] (CH mz tp tk rd hi sc pl dr wa wb rc) := rfl
theorem qX0_isSeenAlong_6 (k6 : KT Bool) (m : Int64) (sl : Int32) (ed : Int64) (v7 : Int32) (v8 : Int32) : BX0_isSeenAlong_6 k6 [(0, .ref 15), (1, .long m), (4, .int sl), (5, .long ed), (7, .int v7), (8, .int v8)] [] (CH mz tp tk rd hi sc pl dr wa wb rc) =
    (if (6 : Int32) ≤ v8 then some true else (if v7 < pl.1.2.1 then some true else (BX0_isSeenAlong_26 k6) [(0, .ref 15), (1, .long m), (4, .int sl), (5, .long ed), (7, .int v7), (8, .int v8)] [.int v7, .long ed] (CH mz tp tk rd hi sc pl dr wa wb rc))) := rfl
theorem qX0_isSeenAlong_26 (k6 : KT Bool) (m : Int64) (sl : Int32) (ed : Int64) (v7 : Int32) (v8 : Int32) (s0 : Int32) (s1 : Int64) {r : Bool} (h : EX10_isIn [.long s1, .int s0] (CH mz tp tk rd hi sc pl dr wa wb rc) = some r) : BX0_isSeenAlong_26 k6 [(0, .ref 15), (1, .long m), (4, .int sl), (5, .long ed), (7, .int v7), (8, .int v8)] [.int s0, .long s1] (CH mz tp tk rd hi sc pl dr wa wb rc) =
    (if (b2i r) = 0 then (BX0_isSeenAlong_49 k6) [(0, .ref 15), (1, .long m), (4, .int sl), (5, .long ed), (7, .int ((v7 - pl.1.2.1) + sl)), (8, .int v8)] [.int ((v7 - pl.1.2.1) + sl), .long m] (CH mz tp tk rd hi sc pl dr wa wb rc) else some true) := (cal_eq h rfl rfl (chk_rf _ _ _)).trans rfl
theorem qX0_isSeenAlong_49 (k6 : KT Bool) (m : Int64) (sl : Int32) (ed : Int64) (v7 : Int32) (v8 : Int32) (s0 : Int32) (s1 : Int64) {r : Bool} (h : EX10_isIn [.long s1, .int s0] (CH mz tp tk rd hi sc pl dr wa wb rc) = some r) : BX0_isSeenAlong_49 k6 [(0, .ref 15), (1, .long m), (4, .int sl), (5, .long ed), (7, .int v7), (8, .int v8)] [.int s0, .long s1] (CH mz tp tk rd hi sc pl dr wa wb rc) =
    (if (b2i r) = 0 then some false else k6 [(0, .ref 15), (1, .long m), (4, .int sl), (5, .long ed), (7, .int v7), (8, .int (v8 + 1))] [] (CH mz tp tk rd hi sc pl dr wa wb rc)) := (cal_eq h rfl rfl (chk_rf _ _ _)).trans rfl
end
