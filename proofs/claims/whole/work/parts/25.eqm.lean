/-! The model's cells by their places. thrown, trouble, where, taped, fault, mown, seed, acts, marks -/
abbrev MpS : Type := Int32 × Int32 × Int32 × Int32 × Int32 × Int64 × Int32 × Int32 × Int32
/-- size, spot, sort, place, sign, number, letters, word; wrongAt, rowMown, rowStand; cell, facing, own, outAt, stuck, bestPays -/
abbrev MsS : Type := (Int32 × Int32 × Int32 × Int32 × Int32 × Int32 × Int32 × Int64) × (Int32 × Int64 × Int64) × (Int32 × Int32 × Int32 × Int32 × Int32 × Int32)
/-- tape, spelt, far, queue, cameFrom, toNoise, row, otherRow, been, least, cellsToMow, pastMown, keptMown, pastSeed, keptSeed -/
abbrev MaS : Type := (Nat → Int32) × (Nat → Int32) × (Nat → Int32) × (Nat → Int32) × (Nat → Int32) × (Nat → Int32) × (Nat → Int32) × (Nat → Int32) × (Nat → Int32) × (Nat → Int32) × (Nat → Int32) × (Nat → Int64) × (Nat → Int64) × (Nat → Int32) × (Nat → Int32)
/-- wide, high, dusk, pays, shuts, rows, wants, moons, gates, heards, walkers, noise; mown, wantMown, wantStand, moonMown, moonStand, gateSet; gate, heard, heardFrom, kind, start, faces, leaves, name -/
abbrev MeS : Type := (Int32 × Int32 × Int32 × Int32 × Int32 × Int32 × Int32 × Int32 × Int32 × Int32 × Int32 × Int32) × (Int64 × Int64 × Int64 × Int64 × Int64 × Int64) × ((Nat → Int32) × (Nat → Int32) × (Nat → Int32) × (Nat → Int32) × (Nat → Int32) × (Nat → Int32) × (Nat → Int32) × (Nat → Int64))
def M0 (mp : MpS) (mq : MsS) (ma : MaS) (rdv : Value) : HP :=
  [.inr (12, [.int mp.1, .int mp.2.1, .int mp.2.2.1, .null, rdv, .ref 1, .int mp.2.2.2.1, .int mq.1.1, .int mq.1.2.1, .int mq.1.2.2.1, .int mq.1.2.2.2.1, .int mq.1.2.2.2.2.1, .int mq.1.2.2.2.2.2.1, .int mq.1.2.2.2.2.2.2.1, .int mp.2.2.2.2.1, .int mq.2.1.1, .ref 2, .long mq.1.2.2.2.2.2.2.2, .long mq.2.1.2.1, .long mq.2.1.2.2, .long mp.2.2.2.2.2.1, .int mp.2.2.2.2.2.2.1, .ref 3, .ref 4, .int mq.2.2.1, .int mq.2.2.2.1, .int mq.2.2.2.2.1, .ref 5, .ref 6, .ref 7, .ref 8, .int mq.2.2.2.2.2.1, .ref 9, .int mq.2.2.2.2.2.2.1, .ref 10, .ref 11, .int mq.2.2.2.2.2.2.2, .ref 12, .ref 13, .ref 14, .ref 15, .int mp.2.2.2.2.2.2.2.1, .int mp.2.2.2.2.2.2.2.2]),
   aB 900 ma.1,
   aI 8 ma.2.1,
   aI 48 ma.2.2.1,
   aI 48 ma.2.2.2.1,
   aI 48 ma.2.2.2.2.1,
   aI 48 ma.2.2.2.2.2.1,
   aI 201 ma.2.2.2.2.2.2.1,
   aI 201 ma.2.2.2.2.2.2.2.1,
   aI 192 ma.2.2.2.2.2.2.2.2.1,
   aI 49152 ma.2.2.2.2.2.2.2.2.2.1,
   aI 12 ma.2.2.2.2.2.2.2.2.2.2.1,
   aJ 20 ma.2.2.2.2.2.2.2.2.2.2.2.1,
   aJ 3 ma.2.2.2.2.2.2.2.2.2.2.2.2.1,
   aI 20 ma.2.2.2.2.2.2.2.2.2.2.2.2.2.1,
   aI 3 ma.2.2.2.2.2.2.2.2.2.2.2.2.2.2]
def M1 (mp : MpS) (mq : MsS) (ma : MaS) (me : MeS) (rdv : Value) : HP :=
  [.inr (12, [.int mp.1, .int mp.2.1, .int mp.2.2.1, .ref 16, rdv, .ref 1, .int mp.2.2.2.1, .int mq.1.1, .int mq.1.2.1, .int mq.1.2.2.1, .int mq.1.2.2.2.1, .int mq.1.2.2.2.2.1, .int mq.1.2.2.2.2.2.1, .int mq.1.2.2.2.2.2.2.1, .int mp.2.2.2.2.1, .int mq.2.1.1, .ref 2, .long mq.1.2.2.2.2.2.2.2, .long mq.2.1.2.1, .long mq.2.1.2.2, .long mp.2.2.2.2.2.1, .int mp.2.2.2.2.2.2.1, .ref 3, .ref 4, .int mq.2.2.1, .int mq.2.2.2.1, .int mq.2.2.2.2.1, .ref 5, .ref 6, .ref 7, .ref 8, .int mq.2.2.2.2.2.1, .ref 9, .int mq.2.2.2.2.2.2.1, .ref 10, .ref 11, .int mq.2.2.2.2.2.2.2, .ref 12, .ref 13, .ref 14, .ref 15, .int mp.2.2.2.2.2.2.2.1, .int mp.2.2.2.2.2.2.2.2]),
   aB 900 ma.1,
   aI 8 ma.2.1,
   aI 48 ma.2.2.1,
   aI 48 ma.2.2.2.1,
   aI 48 ma.2.2.2.2.1,
   aI 48 ma.2.2.2.2.2.1,
   aI 201 ma.2.2.2.2.2.2.1,
   aI 201 ma.2.2.2.2.2.2.2.1,
   aI 192 ma.2.2.2.2.2.2.2.2.1,
   aI 49152 ma.2.2.2.2.2.2.2.2.2.1,
   aI 12 ma.2.2.2.2.2.2.2.2.2.2.1,
   aJ 20 ma.2.2.2.2.2.2.2.2.2.2.2.1,
   aJ 3 ma.2.2.2.2.2.2.2.2.2.2.2.2.1,
   aI 20 ma.2.2.2.2.2.2.2.2.2.2.2.2.2.1,
   aI 3 ma.2.2.2.2.2.2.2.2.2.2.2.2.2.2,
   .inr (11, [.int me.1.1, .int me.1.2.1, .int me.1.2.2.1, .int me.1.2.2.2.1, .int me.1.2.2.2.2.1, .int me.1.2.2.2.2.2.1, .int me.1.2.2.2.2.2.2.1, .int me.1.2.2.2.2.2.2.2.1, .int me.1.2.2.2.2.2.2.2.2.1, .int me.1.2.2.2.2.2.2.2.2.2.1, .int me.1.2.2.2.2.2.2.2.2.2.2.1, .int me.1.2.2.2.2.2.2.2.2.2.2.2, .long me.2.1.1, .long me.2.1.2.1, .long me.2.1.2.2.1, .long me.2.1.2.2.2.1, .long me.2.1.2.2.2.2.1, .long me.2.1.2.2.2.2.2, .ref 17, .ref 18, .ref 19, .ref 20, .ref 21, .ref 22, .ref 23, .ref 24]),
   aI 4 me.2.2.1,
   aI 5 me.2.2.2.1,
   aI 5 me.2.2.2.2.1,
   aI 5 me.2.2.2.2.2.1,
   aI 5 me.2.2.2.2.2.2.1,
   aI 5 me.2.2.2.2.2.2.2.1,
   aI 5 me.2.2.2.2.2.2.2.2.1,
   aJ 5 me.2.2.2.2.2.2.2.2.2]
section
variable (mp : MpS) (mq : MsS) (ma : MaS) (me : MeS) (rdv : Value)
theorem eX11_cells_s : EX11_cells [.ref 16] (M1 mp mq ma me rdv) = BX11_cells_0 [(0, .ref 16)] [] (M1 mp mq ma me rdv) := rfl
theorem qX11_cells_0 : BX11_cells_0 [(0, .ref 16)] [] (M1 mp mq ma me rdv) =
    some (me.1.1 * me.1.2.1) := rfl
theorem eX11_to_s (c : Int32) (sd : Int32) : EX11_to [.ref 16, .int c, .int sd] (M1 mp mq ma me rdv) = BX11_to_0 [(0, .ref 16), (1, .int c), (2, .int sd)] [] (M1 mp mq ma me rdv) := rfl
theorem qX11_to_0 (c : Int32) (sd : Int32) : BX11_to_0 [(0, .ref 16), (1, .int c), (2, .int sd)] [] (M1 mp mq ma me rdv) =
    (if ¬ me.1.1 = 0 then (if sd = 0 then (if c < me.1.1 then some (-1) else some (c - me.1.1)) else (if sd = 1 then (if me.1.1 ≤ ((c - c / me.1.1 * me.1.1) + 1) then some (-1) else some (c + 1)) else (if sd = 2 then (if (me.1.1 * me.1.2.1) ≤ (c + me.1.1) then some (-1) else some (c + me.1.1)) else (if (c - c / me.1.1 * me.1.1) ≤ 0 then some (-1) else some (c - 1))))) else none) := rfl
theorem eX11_isStart_s (c : Int32) : EX11_isStart [.ref 16, .int c] (M1 mp mq ma me rdv) = BX11_isStart_0 [(0, .ref 16), (1, .int c)] [] (M1 mp mq ma me rdv) := rfl
theorem qX11_isStart_0 (c : Int32) : BX11_isStart_0 [(0, .ref 16), (1, .int c)] [] (M1 mp mq ma me rdv) =
    lp (BX11_isStart_2) FU [(0, .ref 16), (1, .int c), (2, .int 0)] [] (M1 mp mq ma me rdv) := rfl
theorem qX11_isStart_2 (k2 : KT Bool) (c : Int32) (v2 : Int32) : BX11_isStart_2 k2 [(0, .ref 16), (1, .int c), (2, .int v2)] [] (M1 mp mq ma me rdv) =
    (if me.1.2.2.2.2.2.2.2.2.2.2.1 ≤ v2 then some false else (if v2 < 0 ∨ 5 ≤ v2.toNatClampNeg then none else (if (me.2.2.2.2.2.2.1 v2.toNatClampNeg) = c then some true else k2 [(0, .ref 16), (1, .int c), (2, .int (v2 + 1))] [] (M1 mp mq ma me rdv)))) := rfl
theorem eX12_good_s (x1 : Int32) : EX12_good [.ref 0, .int x1] (M1 mp mq ma me rdv) = BX12_good_0 [(0, .ref 0), (1, .int x1)] [] (M1 mp mq ma me rdv) := rfl
theorem qX12_good_0 (x1 : Int32) : BX12_good_0 [(0, .ref 0), (1, .int x1)] [] (M1 mp mq ma me rdv) =
    some (x1, (M1 (mp.1, 0, (-1), mp.2.2.2.1, mp.2.2.2.2.1, mp.2.2.2.2.2.1, mp.2.2.2.2.2.2.1, mp.2.2.2.2.2.2.2.1, mp.2.2.2.2.2.2.2.2) mq ma me rdv)) := rfl
theorem eX12_refused_s (x1 : Int32) : EX12_refused [.ref 0, .int x1] (M1 mp mq ma me rdv) = BX12_refused_0 [(0, .ref 0), (1, .int x1)] [] (M1 mp mq ma me rdv) := rfl
theorem qX12_refused_0 (x1 : Int32) : BX12_refused_0 [(0, .ref 0), (1, .int x1)] [] (M1 mp mq ma me rdv) =
    some ((-1), (M1 (mp.1, x1, (-1), mp.2.2.2.1, mp.2.2.2.2.1, mp.2.2.2.2.2.1, mp.2.2.2.2.2.2.1, mp.2.2.2.2.2.2.2.1, mp.2.2.2.2.2.2.2.2) mq ma me rdv)) := rfl
theorem eX12_granted_s : EX12_granted [.ref 0] (M1 mp mq ma me rdv) = BX12_granted_0 [(0, .ref 0)] [] (M1 mp mq ma me rdv) := rfl
theorem qX12_granted_0 : BX12_granted_0 [(0, .ref 0)] [] (M1 mp mq ma me rdv) =
    some (true, (M1 (mp.1, 0, (-1), mp.2.2.2.1, mp.2.2.2.2.1, mp.2.2.2.2.2.1, mp.2.2.2.2.2.2.1, mp.2.2.2.2.2.2.2.1, mp.2.2.2.2.2.2.2.2) mq ma me rdv)) := rfl
theorem eX12_denied_s (x1 : Int32) : EX12_denied [.ref 0, .int x1] (M1 mp mq ma me rdv) = BX12_denied_0 [(0, .ref 0), (1, .int x1)] [] (M1 mp mq ma me rdv) := rfl
theorem qX12_denied_0 (x1 : Int32) : BX12_denied_0 [(0, .ref 0), (1, .int x1)] [] (M1 mp mq ma me rdv) =
    some (false, (M1 (mp.1, x1, (-1), mp.2.2.2.1, mp.2.2.2.2.1, mp.2.2.2.2.2.1, mp.2.2.2.2.2.2.1, mp.2.2.2.2.2.2.2.1, mp.2.2.2.2.2.2.2.2) mq ma me rdv)) := rfl
theorem eX12_besideOf_s (x1 : Int64) (x2 : Int32) : EX12_besideOf [.ref 0, .long x1, .int x2] (M1 mp mq ma me rdv) = BX12_besideOf_0 [(0, .ref 0), (1, .long x1), (3, .int x2)] [] (M1 mp mq ma me rdv) := rfl
theorem qX12_besideOf_0 (x1 : Int64) (x2 : Int32) : BX12_besideOf_0 [(0, .ref 0), (1, .long x1), (3, .int x2)] [] (M1 mp mq ma me rdv) =
    lp (BX12_besideOf_6) FU [(0, .ref 0), (1, .long x1), (3, .int x2), (4, .long 0), (6, .int 0)] [] (M1 mp mq ma me rdv) := rfl
theorem qX12_besideOf_6 (k6 : KT Int64) (x1 : Int64) (x2 : Int32) (v4 : Int64) (v6 : Int32) : BX12_besideOf_6 k6 [(0, .ref 0), (1, .long x1), (3, .int x2), (4, .long v4), (6, .int v6)] [] (M1 mp mq ma me rdv) =
    (if (4 : Int32) ≤ v6 then some v4 else (BX12_besideOf_19 k6) [(0, .ref 0), (1, .long x1), (3, .int x2), (4, .long v4), (6, .int v6)] [.int v6, .int x2, .ref 16] (M1 mp mq ma me rdv)) := rfl
theorem qX12_besideOf_19 (k6 : KT Int64) (x1 : Int64) (x2 : Int32) (v4 : Int64) (v6 : Int32) (s0 : Int32) (s1 : Int32) {r : Int32} (h : EX11_to [.ref 16, .int s1, .int s0] (M1 mp mq ma me rdv) = some r) : BX12_besideOf_19 k6 [(0, .ref 0), (1, .long x1), (3, .int x2), (4, .long v4), (6, .int v6)] [.int s0, .int s1, .ref 16] (M1 mp mq ma me rdv) =
    (if r = (-1) then k6 [(0, .ref 0), (1, .long x1), (3, .int x2), (4, .long v4), (6, .int (v6 + 1))] [] (M1 mp mq ma me rdv) else (BX12_besideOf_33 k6) [(0, .ref 0), (1, .long x1), (3, .int x2), (4, .long v4), (6, .int v6), (7, .int r)] [.int r, .long x1] (M1 mp mq ma me rdv)) := (cal_eq h rfl rfl (chk_rf _ _ _)).trans rfl
theorem qX12_besideOf_33 (k6 : KT Int64) (x1 : Int64) (x2 : Int32) (v4 : Int64) (v6 : Int32) (v7 : Int32) (s0 : Int32) (s1 : Int64) {r : Bool} (h : EX12_has [.long s1, .int s0] (M1 mp mq ma me rdv) = some r) : BX12_besideOf_33 k6 [(0, .ref 0), (1, .long x1), (3, .int x2), (4, .long v4), (6, .int v6), (7, .int v7)] [.int s0, .long s1] (M1 mp mq ma me rdv) =
    (if (b2i r) = 0 then k6 [(0, .ref 0), (1, .long x1), (3, .int x2), (4, .long v4), (6, .int (v6 + 1))] [] (M1 mp mq ma me rdv) else k6 [(0, .ref 0), (1, .long x1), (3, .int x2), (4, .long (v4 ||| ((1 : Int64) <<< (v7.toInt64 &&& 63)))), (6, .int (v6 + 1))] [] (M1 mp mq ma me rdv)) := (cal_eq h rfl rfl (chk_rf _ _ _)).trans rfl
theorem eX12_laysFar_s (x1 : Int64) (x2 : Int32) : EX12_laysFar [.ref 0, .long x1, .int x2] (M1 mp mq ma me rdv) = BX12_laysFar_0 [(0, .ref 0), (1, .long x1), (3, .int x2)] [] (M1 mp mq ma me rdv) := rfl
theorem qX12_laysFar_0 (x1 : Int64) (x2 : Int32) : BX12_laysFar_0 [(0, .ref 0), (1, .long x1), (3, .int x2)] [] (M1 mp mq ma me rdv) =
    lp (BX12_laysFar_3) FU [(0, .ref 0), (1, .long x1), (3, .int x2), (4, .int 0)] [] (M1 mp mq ma me rdv) := rfl
theorem qX12_laysFar_3 (k3 : KT HP) (x1 : Int64) (x2 : Int32) (v4 : Int32) : BX12_laysFar_3 k3 [(0, .ref 0), (1, .long x1), (3, .int x2), (4, .int v4)] [] (M1 mp mq ma me rdv) =
    (if (48 : Int32) ≤ v4 then (BX12_laysFar_27) [(0, .ref 0), (1, .long x1), (3, .int x2)] [.int x2, .long x1] (M1 mp mq ma me rdv) else (if v4 < 0 ∨ 48 ≤ v4.toNatClampNeg then none else k3 [(0, .ref 0), (1, .long x1), (3, .int x2), (4, .int (v4 + 1))] [] (M1 mp mq (ma.1, ma.2.1, (upd ma.2.2.1 v4.toNatClampNeg (-2)), ma.2.2.2.1, ma.2.2.2.2.1, ma.2.2.2.2.2.1, ma.2.2.2.2.2.2.1, ma.2.2.2.2.2.2.2.1, ma.2.2.2.2.2.2.2.2.1, ma.2.2.2.2.2.2.2.2.2.1, ma.2.2.2.2.2.2.2.2.2.2.1, ma.2.2.2.2.2.2.2.2.2.2.2.1, ma.2.2.2.2.2.2.2.2.2.2.2.2.1, ma.2.2.2.2.2.2.2.2.2.2.2.2.2.1, ma.2.2.2.2.2.2.2.2.2.2.2.2.2.2) me rdv))) := rfl
theorem qX12_laysFar_27 (x1 : Int64) (x2 : Int32) (s0 : Int32) (s1 : Int64) {r : Bool} (h : EX12_has [.long s1, .int s0] (M1 mp mq ma me rdv) = some r) : BX12_laysFar_27 [(0, .ref 0), (1, .long x1), (3, .int x2)] [.int s0, .long s1] (M1 mp mq ma me rdv) =
    (if (b2i r) = 0 then some (M1 mp mq ma me rdv) else (if x2 < 0 ∨ 48 ≤ x2.toNatClampNeg then none else lp (BX12_laysFar_54) FU [(0, .ref 0), (1, .long x1), (4, .int 1), (5, .int 0)] [] (M1 mp mq (ma.1, ma.2.1, (upd ma.2.2.1 x2.toNatClampNeg 0), (upd ma.2.2.2.1 0 x2), ma.2.2.2.2.1, ma.2.2.2.2.2.1, ma.2.2.2.2.2.2.1, ma.2.2.2.2.2.2.2.1, ma.2.2.2.2.2.2.2.2.1, ma.2.2.2.2.2.2.2.2.2.1, ma.2.2.2.2.2.2.2.2.2.2.1, ma.2.2.2.2.2.2.2.2.2.2.2.1, ma.2.2.2.2.2.2.2.2.2.2.2.2.1, ma.2.2.2.2.2.2.2.2.2.2.2.2.2.1, ma.2.2.2.2.2.2.2.2.2.2.2.2.2.2) me rdv))) := (cal_eq h rfl rfl (chk_rf _ _ _)).trans rfl
theorem qX12_laysFar_54 (k54 : KT HP) (x1 : Int64) (v4 : Int32) (v5 : Int32) : BX12_laysFar_54 k54 [(0, .ref 0), (1, .long x1), (4, .int v4), (5, .int v5)] [] (M1 mp mq ma me rdv) =
    (if v4 ≤ v5 then some (M1 mp mq ma me rdv) else lp (BX12_laysFar_64 k54) FU [(0, .ref 0), (1, .long x1), (4, .int v4), (5, .int v5), (6, .int 0)] [] (M1 mp mq ma me rdv)) := rfl
theorem qX12_laysFar_64 (k54 : KT HP) (k64 : KT HP) (x1 : Int64) (v4 : Int32) (v5 : Int32) (v6 : Int32) : BX12_laysFar_64 k54 k64 [(0, .ref 0), (1, .long x1), (4, .int v4), (5, .int v5), (6, .int v6)] [] (M1 mp mq ma me rdv) =
    (if (4 : Int32) ≤ v6 then k54 [(0, .ref 0), (1, .long x1), (4, .int v4), (5, .int (v5 + 1))] [] (M1 mp mq ma me rdv) else (if v5 < 0 ∨ 48 ≤ v5.toNatClampNeg then none else (BX12_laysFar_83 k54 k64) [(0, .ref 0), (1, .long x1), (4, .int v4), (5, .int v5), (6, .int v6)] [.int v6, .int (ma.2.2.2.1 v5.toNatClampNeg), .ref 16] (M1 mp mq ma me rdv))) := rfl
theorem qX12_laysFar_83 (k54 : KT HP) (k64 : KT HP) (x1 : Int64) (v4 : Int32) (v5 : Int32) (v6 : Int32) (s0 : Int32) (s1 : Int32) {r : Int32} (h : EX11_to [.ref 16, .int s1, .int s0] (M1 mp mq ma me rdv) = some r) : BX12_laysFar_83 k54 k64 [(0, .ref 0), (1, .long x1), (4, .int v4), (5, .int v5), (6, .int v6)] [.int s0, .int s1, .ref 16] (M1 mp mq ma me rdv) =
    (if r = (-1) then k64 [(0, .ref 0), (1, .long x1), (4, .int v4), (5, .int v5), (6, .int (v6 + 1))] [] (M1 mp mq ma me rdv) else (BX12_laysFar_97 k54 k64) [(0, .ref 0), (1, .long x1), (4, .int v4), (5, .int v5), (6, .int v6), (7, .int r)] [.int r, .long x1] (M1 mp mq ma me rdv)) := (cal_eq h rfl rfl (chk_rf _ _ _)).trans rfl
theorem qX12_laysFar_97 (k54 : KT HP) (k64 : KT HP) (x1 : Int64) (v4 : Int32) (v5 : Int32) (v6 : Int32) (v7 : Int32) (s0 : Int32) (s1 : Int64) {r : Bool} (h : EX12_has [.long s1, .int s0] (M1 mp mq ma me rdv) = some r) : BX12_laysFar_97 k54 k64 [(0, .ref 0), (1, .long x1), (4, .int v4), (5, .int v5), (6, .int v6), (7, .int v7)] [.int s0, .long s1] (M1 mp mq ma me rdv) =
    (if (b2i r) = 0 then k64 [(0, .ref 0), (1, .long x1), (4, .int v4), (5, .int v5), (6, .int (v6 + 1))] [] (M1 mp mq ma me rdv) else (if v7 < 0 ∨ 48 ≤ v7.toNatClampNeg then none else (if (ma.2.2.1 v7.toNatClampNeg) = (-2) then (if v5 < 0 ∨ 48 ≤ v5.toNatClampNeg then none else (if (ma.2.2.2.1 v5.toNatClampNeg) < 0 ∨ 48 ≤ (ma.2.2.2.1 v5.toNatClampNeg).toNatClampNeg then none else (if v7 < 0 ∨ 48 ≤ v7.toNatClampNeg then none else (if v4 < 0 ∨ 48 ≤ v4.toNatClampNeg then none else k64 [(0, .ref 0), (1, .long x1), (4, .int (v4 + 1)), (5, .int v5), (6, .int (v6 + 1))] [] (M1 mp mq (ma.1, ma.2.1, (upd ma.2.2.1 v7.toNatClampNeg ((ma.2.2.1 ((ma.2.2.2.1 v5.toNatClampNeg).toNatClampNeg)) + 1)), (upd ma.2.2.2.1 v4.toNatClampNeg v7), ma.2.2.2.2.1, ma.2.2.2.2.2.1, ma.2.2.2.2.2.2.1, ma.2.2.2.2.2.2.2.1, ma.2.2.2.2.2.2.2.2.1, ma.2.2.2.2.2.2.2.2.2.1, ma.2.2.2.2.2.2.2.2.2.2.1, ma.2.2.2.2.2.2.2.2.2.2.2.1, ma.2.2.2.2.2.2.2.2.2.2.2.2.1, ma.2.2.2.2.2.2.2.2.2.2.2.2.2.1, ma.2.2.2.2.2.2.2.2.2.2.2.2.2.2) me rdv))))) else k64 [(0, .ref 0), (1, .long x1), (4, .int v4), (5, .int v5), (6, .int (v6 + 1))] [] (M1 mp mq ma me rdv)))) := (cal_eq h rfl rfl (chk_rf _ _ _)).trans rfl
theorem eX12_partsOf_s (x1 : Int64) : EX12_partsOf [.ref 0, .long x1] (M1 mp mq ma me rdv) = BX12_partsOf_0 [(0, .ref 0), (1, .long x1)] [] (M1 mp mq ma me rdv) := rfl
theorem qX12_partsOf_0 (x1 : Int64) : BX12_partsOf_0 [(0, .ref 0), (1, .long x1)] [] (M1 mp mq ma me rdv) =
    lp (BX12_partsOf_5) FU [(0, .ref 0), (3, .long x1), (5, .int 0)] [] (M1 mp mq ma me rdv) := rfl
theorem qX12_partsOf_5 (k5 : KT (Int32 × HP)) (v3 : Int64) (v5 : Int32) : BX12_partsOf_5 k5 [(0, .ref 0), (3, .long v3), (5, .int v5)] [] (M1 mp mq ma me rdv) =
    (if (lg_cmp v3 0) = 0 then some (v5, (M1 mp mq ma me rdv)) else (BX12_partsOf_14 k5) [(0, .ref 0), (3, .long v3), (5, .int v5)] [.long v3, .long v3, .ref 0] (M1 mp mq ma me rdv)) := rfl
theorem qX12_partsOf_14 (k5 : KT (Int32 × HP)) (v3 : Int64) (v5 : Int32) (s0 : Int64) (s1 : Int64) {r : Int32} (h : EX12_first [.long s0] (M1 mp mq ma me rdv) = some r) : BX12_partsOf_14 k5 [(0, .ref 0), (3, .long v3), (5, .int v5)] [.long s0, .long s1, .ref 0] (M1 mp mq ma me rdv) =
    (BX12_partsOf_17 k5) [(0, .ref 0), (3, .long v3), (5, .int v5)] [.int r, .long s1, .ref 0] (M1 mp mq ma me rdv) := (cal_eq h rfl rfl (chk_rf _ _ _)).trans rfl
theorem qX12_partsOf_17 (k5 : KT (Int32 × HP)) (v3 : Int64) (v5 : Int32) (s0 : Int32) (s1 : Int64) {mp' : MpS} {mq' : MsS} {ma' : MaS} {me' : MeS} (h : EX12_laysFar [.ref 0, .long s1, .int s0] (M1 mp mq ma me rdv) = some (M1 mp' mq' ma' me' rdv)) : BX12_partsOf_17 k5 [(0, .ref 0), (3, .long v3), (5, .int v5)] [.int s0, .long s1, .ref 0] (M1 mp mq ma me rdv) =
    lp (BX12_partsOf_23 k5) FU [(0, .ref 0), (3, .long v3), (5, .int v5), (6, .int 0)] [] (M1 mp' mq' ma' me' rdv) := (cal_eq h rfl rfl rfl).trans rfl
theorem qX12_partsOf_23 (k5 : KT (Int32 × HP)) (k23 : KT (Int32 × HP)) (v3 : Int64) (v5 : Int32) (v6 : Int32) : BX12_partsOf_23 k5 k23 [(0, .ref 0), (3, .long v3), (5, .int v5), (6, .int v6)] [] (M1 mp mq ma me rdv) =
    (if (me.1.1 * me.1.2.1) ≤ v6 then k5 [(0, .ref 0), (3, .long v3), (5, .int (v5 + 1))] [] (M1 mp mq ma me rdv) else (if v6 < 0 ∨ 48 ≤ v6.toNatClampNeg then none else (if (ma.2.2.1 v6.toNatClampNeg) = (-2) then k23 [(0, .ref 0), (3, .long v3), (5, .int v5), (6, .int (v6 + 1))] [] (M1 mp mq ma me rdv) else k23 [(0, .ref 0), (3, .long (v3 &&& (((1 : Int64) <<< (v6.toInt64 &&& 63)) ^^^ (-1)))), (5, .int v5), (6, .int (v6 + 1))] [] (M1 mp mq ma me rdv)))) := rfl
theorem eX12_splitsAt_s (x1 : Int32) : EX12_splitsAt [.ref 0, .int x1] (M1 mp mq ma me rdv) = BX12_splitsAt_0 [(0, .ref 0), (1, .int x1)] [] (M1 mp mq ma me rdv) := rfl
theorem qX12_splitsAt_0 (x1 : Int32) : BX12_splitsAt_0 [(0, .ref 0), (1, .int x1)] [] (M1 mp mq ma me rdv) =
    (BX12_splitsAt_5) [(0, .ref 0), (1, .int x1)] [.int x1, .long mp.2.2.2.2.2.1] (M1 mp mq ma me rdv) := rfl
theorem qX12_splitsAt_5 (x1 : Int32) (s0 : Int32) (s1 : Int64) {r : Bool} (h : EX12_has [.long s1, .int s0] (M1 mp mq ma me rdv) = some r) : BX12_splitsAt_5 [(0, .ref 0), (1, .int x1)] [.int s0, .long s1] (M1 mp mq ma me rdv) =
    (if (b2i r) = 0 then some (false, (M1 mp mq ma me rdv)) else (BX12_splitsAt_24) [(0, .ref 0)] [.long (mp.2.2.2.2.2.1 &&& (((1 : Int64) <<< (x1.toInt64 &&& 63)) ^^^ (-1))), .ref 0] (M1 mp mq ma me rdv)) := (cal_eq h rfl rfl (chk_rf _ _ _)).trans rfl
theorem qX12_splitsAt_24 (s0 : Int64) {r : Int32} {mp' : MpS} {mq' : MsS} {ma' : MaS} {me' : MeS} (h : EX12_partsOf [.ref 0, .long s0] (M1 mp mq ma me rdv) = some (r, (M1 mp' mq' ma' me' rdv))) : BX12_splitsAt_24 [(0, .ref 0)] [.long s0, .ref 0] (M1 mp mq ma me rdv) =
    (BX12_splitsAt_32) [] [.long mp'.2.2.2.2.2.1, .ref 0, .int r] (M1 mp' mq' ma' me' rdv) := (cal_eq h rfl rfl rfl).trans rfl
theorem qX12_splitsAt_32 (s0 : Int64) (s2 : Int32) {r : Int32} {mp' : MpS} {mq' : MsS} {ma' : MaS} {me' : MeS} (h : EX12_partsOf [.ref 0, .long s0] (M1 mp mq ma me rdv) = some (r, (M1 mp' mq' ma' me' rdv))) : BX12_splitsAt_32 [] [.long s0, .ref 0, .int s2] (M1 mp mq ma me rdv) =
    (if s2 ≤ r then some (false, (M1 mp' mq' ma' me' rdv)) else some (true, (M1 mp' mq' ma' me' rdv))) := (cal_eq h rfl rfl rfl).trans rfl
theorem eX12_isCell_s (x1 : Int32) (x2 : Int32) : EX12_isCell [.ref 0, .int x1, .int x2] (M1 mp mq ma me rdv) = BX12_isCell_0 [(0, .ref 0), (1, .int x1), (2, .int x2)] [] (M1 mp mq ma me rdv) := rfl
theorem qX12_isCell_0 (x1 : Int32) (x2 : Int32) : BX12_isCell_0 [(0, .ref 0), (1, .int x1), (2, .int x2)] [] (M1 mp mq ma me rdv) =
    (BX12_isCell_18) [(0, .ref 0), (2, .int x2)] [.int (me.1.1 - 1), .int 0, .int x1] (M1 mp mq ma me rdv) := rfl
theorem qX12_isCell_18 (x2 : Int32) (s0 : Int32) (s1 : Int32) (s2 : Int32) {r : Bool} (h : EX12_in [.int s2, .int s1, .int s0] (M1 mp mq ma me rdv) = some r) : BX12_isCell_18 [(0, .ref 0), (2, .int x2)] [.int s0, .int s1, .int s2] (M1 mp mq ma me rdv) =
    (if (b2i r) = 0 then some false else (BX12_isCell_35) [] [.int (me.1.2.1 - 1), .int 0, .int x2] (M1 mp mq ma me rdv)) := (cal_eq h rfl rfl (chk_rf _ _ _)).trans rfl
theorem qX12_isCell_35 (s0 : Int32) (s1 : Int32) (s2 : Int32) {r : Bool} (h : EX12_in [.int s2, .int s1, .int s0] (M1 mp mq ma me rdv) = some r) : BX12_isCell_35 [] [.int s0, .int s1, .int s2] (M1 mp mq ma me rdv) =
    (if (b2i r) = 0 then some false else some true) := (cal_eq h rfl rfl (chk_rf _ _ _)).trans rfl
theorem eX12_cellOf_s (x1 : Int32) (x2 : Int32) : EX12_cellOf [.ref 0, .int x1, .int x2] (M1 mp mq ma me rdv) = BX12_cellOf_0 [(0, .ref 0), (1, .int x1), (2, .int x2)] [] (M1 mp mq ma me rdv) := rfl
theorem qX12_cellOf_0 (x1 : Int32) (x2 : Int32) : BX12_cellOf_0 [(0, .ref 0), (1, .int x1), (2, .int x2)] [] (M1 mp mq ma me rdv) =
    some ((me.1.1 * x2) + x1) := rfl
theorem eX12_isNumber_s (x1 : Int32) : EX12_isNumber [.ref 0, .int x1] (M1 mp mq ma me rdv) = BX12_isNumber_0 [(0, .ref 0), (1, .int x1)] [] (M1 mp mq ma me rdv) := rfl
theorem qX12_isNumber_0 (x1 : Int32) : BX12_isNumber_0 [(0, .ref 0), (1, .int x1)] [] (M1 mp mq ma me rdv) =
    (if x1 < 0 then some false else (if (me.1.1 * me.1.2.1) ≤ x1 then some false else some true)) := rfl
theorem eX12_isWalker_s (x1 : Int32) : EX12_isWalker [.ref 0, .int x1] (M1 mp mq ma me rdv) = BX12_isWalker_0 [(0, .ref 0), (1, .int x1)] [] (M1 mp mq ma me rdv) := rfl
theorem qX12_isWalker_0 (x1 : Int32) : BX12_isWalker_0 [(0, .ref 0), (1, .int x1)] [] (M1 mp mq ma me rdv) =
    (if x1 < 0 then some false else (if me.1.2.2.2.2.2.2.2.2.2.2.1 ≤ x1 then some false else some true)) := rfl
theorem eX12_isGate_s (x1 : Int32) : EX12_isGate [.ref 0, .int x1] (M1 mp mq ma me rdv) = BX12_isGate_0 [(0, .ref 0), (1, .int x1)] [] (M1 mp mq ma me rdv) := rfl
theorem qX12_isGate_0 (x1 : Int32) : BX12_isGate_0 [(0, .ref 0), (1, .int x1)] [] (M1 mp mq ma me rdv) =
    (BX12_isGate_8) [] [.int x1, .long me.2.1.2.2.2.2.2] (M1 mp mq ma me rdv) := rfl
theorem qX12_isGate_8 (s0 : Int32) (s1 : Int64) {r : Bool} (h : EX12_has [.long s1, .int s0] (M1 mp mq ma me rdv) = some r) : BX12_isGate_8 [] [.int s0, .long s1] (M1 mp mq ma me rdv) =
    zb (b2i r) := (cal_eq h rfl rfl (chk_rf _ _ _)).trans rfl
theorem eX12_weekOf_s (x1 : Int64) : EX12_weekOf [.ref 0, .long x1] (M1 mp mq ma me rdv) = BX12_weekOf_0 [(0, .ref 0), (1, .long x1)] [] (M1 mp mq ma me rdv) := rfl
theorem qX12_weekOf_0 (x1 : Int64) : BX12_weekOf_0 [(0, .ref 0), (1, .long x1)] [] (M1 mp mq ma me rdv) =
    lp (BX12_weekOf_5) FU [(0, .ref 0), (1, .long x1), (3, .long x1), (5, .int 0)] [] (M1 mp mq ma me rdv) := rfl
theorem qX12_weekOf_5 (k5 : KT Int64) (x1 : Int64) (v3 : Int64) (v5 : Int32) : BX12_weekOf_5 k5 [(0, .ref 0), (1, .long x1), (3, .long v3), (5, .int v5)] [] (M1 mp mq ma me rdv) =
    (if (me.1.1 * me.1.2.1) ≤ v5 then some v3 else (BX12_weekOf_20 k5) [(0, .ref 0), (1, .long x1), (3, .long v3), (5, .int v5)] [.int v5, .long x1] (M1 mp mq ma me rdv)) := rfl
theorem qX12_weekOf_20 (k5 : KT Int64) (x1 : Int64) (v3 : Int64) (v5 : Int32) (s0 : Int32) (s1 : Int64) {r : Bool} (h : EX12_has [.long s1, .int s0] (M1 mp mq ma me rdv) = some r) : BX12_weekOf_20 k5 [(0, .ref 0), (1, .long x1), (3, .long v3), (5, .int v5)] [.int s0, .long s1] (M1 mp mq ma me rdv) =
    (if (b2i r) = 0 then k5 [(0, .ref 0), (1, .long x1), (3, .long v3), (5, .int (v5 + 1))] [] (M1 mp mq ma me rdv) else (BX12_weekOf_29 k5) [(0, .ref 0), (1, .long x1), (3, .long v3), (5, .int v5)] [.int v5, .ref 0] (M1 mp mq ma me rdv)) := (cal_eq h rfl rfl (chk_rf _ _ _)).trans rfl
theorem qX12_weekOf_29 (k5 : KT Int64) (x1 : Int64) (v3 : Int64) (v5 : Int32) (s0 : Int32) {r : Bool} (h : EX12_isGate [.ref 0, .int s0] (M1 mp mq ma me rdv) = some r) : BX12_weekOf_29 k5 [(0, .ref 0), (1, .long x1), (3, .long v3), (5, .int v5)] [.int s0, .ref 0] (M1 mp mq ma me rdv) =
    (if (b2i r) = 0 then (BX12_weekOf_40 k5) [(0, .ref 0), (1, .long x1), (3, .long v3), (5, .int v5)] [.int v5, .long x1, .ref 0, .int 4] (M1 mp mq ma me rdv) else k5 [(0, .ref 0), (1, .long x1), (3, .long v3), (5, .int (v5 + 1))] [] (M1 mp mq ma me rdv)) := (cal_eq h rfl rfl (chk_rf _ _ _)).trans rfl
theorem qX12_weekOf_40 (k5 : KT Int64) (x1 : Int64) (v3 : Int64) (v5 : Int32) (s0 : Int32) (s1 : Int64) (s3 : Int32) {r : Int64} (h : EX12_besideOf [.ref 0, .long s1, .int s0] (M1 mp mq ma me rdv) = some r) : BX12_weekOf_40 k5 [(0, .ref 0), (1, .long x1), (3, .long v3), (5, .int v5)] [.int s0, .long s1, .ref 0, .int s3] (M1 mp mq ma me rdv) =
    (BX12_weekOf_43 k5) [(0, .ref 0), (1, .long x1), (3, .long v3), (5, .int v5)] [.long r, .int s3] (M1 mp mq ma me rdv) := (cal_eq h rfl rfl (chk_rf _ _ _)).trans rfl
theorem qX12_weekOf_43 (k5 : KT Int64) (x1 : Int64) (v3 : Int64) (v5 : Int32) (s0 : Int64) (s1 : Int32) {r : Int32} (h : EX12_bits [.long s0] (M1 mp mq ma me rdv) = some r) : BX12_weekOf_43 k5 [(0, .ref 0), (1, .long x1), (3, .long v3), (5, .int v5)] [.long s0, .int s1] (M1 mp mq ma me rdv) =
    (if (s1 - r) < me.1.2.2.2.2.1 then k5 [(0, .ref 0), (1, .long x1), (3, .long v3), (5, .int (v5 + 1))] [] (M1 mp mq ma me rdv) else k5 [(0, .ref 0), (1, .long x1), (3, .long (v3 &&& (((1 : Int64) <<< (v5.toInt64 &&& 63)) ^^^ (-1)))), (5, .int (v5 + 1))] [] (M1 mp mq ma me rdv)) := (cal_eq h rfl rfl (chk_rf _ _ _)).trans rfl
theorem eX12_hasWay_s (x1 : Int64) : EX12_hasWay [.ref 0, .long x1] (M1 mp mq ma me rdv) = BX12_hasWay_0 [(0, .ref 0), (1, .long x1)] [] (M1 mp mq ma me rdv) := rfl
theorem qX12_hasWay_0 (x1 : Int64) : BX12_hasWay_0 [(0, .ref 0), (1, .long x1)] [] (M1 mp mq ma me rdv) =
    lp (BX12_hasWay_2) FU [(0, .ref 0), (1, .long x1), (3, .int 0)] [] (M1 mp mq ma me rdv) := rfl
theorem qX12_hasWay_2 (k2 : KT (Bool × HP)) (x1 : Int64) (v3 : Int32) : BX12_hasWay_2 k2 [(0, .ref 0), (1, .long x1), (3, .int v3)] [] (M1 mp mq ma me rdv) =
    (if me.1.2.2.2.2.2.2.2.2.2.2.1 ≤ v3 then some (false, (M1 mp mq ma me rdv)) else (if v3 < 0 ∨ 5 ≤ v3.toNatClampNeg then none else (BX12_hasWay_24 k2) [(0, .ref 0), (1, .long x1), (3, .int v3)] [.int (me.2.2.2.2.2.2.1 v3.toNatClampNeg), .long x1, .ref 0] (M1 mp mq ma me rdv))) := rfl
theorem qX12_hasWay_24 (k2 : KT (Bool × HP)) (x1 : Int64) (v3 : Int32) (s0 : Int32) (s1 : Int64) {mp' : MpS} {mq' : MsS} {ma' : MaS} {me' : MeS} (h : EX12_laysFar [.ref 0, .long s1, .int s0] (M1 mp mq ma me rdv) = some (M1 mp' mq' ma' me' rdv)) : BX12_hasWay_24 k2 [(0, .ref 0), (1, .long x1), (3, .int v3)] [.int s0, .long s1, .ref 0] (M1 mp mq ma me rdv) =
    lp (BX12_hasWay_30 k2) FU [(0, .ref 0), (1, .long x1), (3, .int v3), (4, .int 0)] [] (M1 mp' mq' ma' me' rdv) := (cal_eq h rfl rfl rfl).trans rfl
theorem qX12_hasWay_30 (k2 : KT (Bool × HP)) (k30 : KT (Bool × HP)) (x1 : Int64) (v3 : Int32) (v4 : Int32) : BX12_hasWay_30 k2 k30 [(0, .ref 0), (1, .long x1), (3, .int v3), (4, .int v4)] [] (M1 mp mq ma me rdv) =
    (if me.1.2.2.2.2.2.2.2.2.1 ≤ v4 then k2 [(0, .ref 0), (1, .long x1), (3, .int (v3 + 1))] [] (M1 mp mq ma me rdv) else (if v4 < 0 ∨ 4 ≤ v4.toNatClampNeg then none else (if (me.2.2.1 v4.toNatClampNeg) < 0 ∨ 48 ≤ (me.2.2.1 v4.toNatClampNeg).toNatClampNeg then none else (if (ma.2.2.1 ((me.2.2.1 v4.toNatClampNeg).toNatClampNeg)) = (-2) then k30 [(0, .ref 0), (1, .long x1), (3, .int v3), (4, .int (v4 + 1))] [] (M1 mp mq ma me rdv) else some (true, (M1 mp mq ma me rdv)))))) := rfl
theorem eX12_isFree_s (x1 : Int32) (x2 : Int32) : EX12_isFree [.ref 0, .int x1, .int x2] (M1 mp mq ma me rdv) = BX12_isFree_0 [(0, .ref 0), (1, .int x1), (2, .int x2)] [] (M1 mp mq ma me rdv) := rfl
theorem qX12_isFree_0 (x1 : Int32) (x2 : Int32) : BX12_isFree_0 [(0, .ref 0), (1, .int x1), (2, .int x2)] [] (M1 mp mq ma me rdv) =
    (if ¬ me.1.1 = 0 then (if ¬ me.1.1 = 0 then lp (BX12_isFree_25) FU [(0, .ref 0), (2, .int x2), (3, .int ((x1 - x1 / me.1.1 * me.1.1) + x2)), (4, .int ((x1 / me.1.1) - 1))] [] (M1 mp mq ma me rdv) else none) else none) := rfl
theorem qX12_isFree_25 (k25 : KT Bool) (x2 : Int32) (v3 : Int32) (v4 : Int32) : BX12_isFree_25 k25 [(0, .ref 0), (2, .int x2), (3, .int v3), (4, .int v4)] [] (M1 mp mq ma me rdv) =
    (if v4 < 0 then some true else (BX12_isFree_41 k25) [(0, .ref 0), (2, .int x2), (3, .int v3), (4, .int v4)] [.int (me.1.1 - 1), .int 0, .int v3] (M1 mp mq ma me rdv)) := rfl
theorem qX12_isFree_41 (k25 : KT Bool) (x2 : Int32) (v3 : Int32) (v4 : Int32) (s0 : Int32) (s1 : Int32) (s2 : Int32) {r : Bool} (h : EX12_in [.int s2, .int s1, .int s0] (M1 mp mq ma me rdv) = some r) : BX12_isFree_41 k25 [(0, .ref 0), (2, .int x2), (3, .int v3), (4, .int v4)] [.int s0, .int s1, .int s2] (M1 mp mq ma me rdv) =
    (if (b2i r) = 0 then some true else (BX12_isFree_58 k25) [(0, .ref 0), (2, .int x2), (3, .int v3), (4, .int v4)] [.int ((me.1.1 * v4) + v3), .long mp.2.2.2.2.2.1] (M1 mp mq ma me rdv)) := (cal_eq h rfl rfl (chk_rf _ _ _)).trans rfl
theorem qX12_isFree_58 (k25 : KT Bool) (x2 : Int32) (v3 : Int32) (v4 : Int32) (s0 : Int32) (s1 : Int64) {r : Bool} (h : EX12_has [.long s1, .int s0] (M1 mp mq ma me rdv) = some r) : BX12_isFree_58 k25 [(0, .ref 0), (2, .int x2), (3, .int v3), (4, .int v4)] [.int s0, .long s1] (M1 mp mq ma me rdv) =
    (if (b2i r) = 0 then some false else k25 [(0, .ref 0), (2, .int x2), (3, .int (v3 + x2)), (4, .int (v4 + (-1)))] [] (M1 mp mq ma me rdv)) := (cal_eq h rfl rfl (chk_rf _ _ _)).trans rfl
theorem eX12_seenNow_s (x1 : Int32) : EX12_seenNow [.ref 0, .int x1] (M1 mp mq ma me rdv) = BX12_seenNow_0 [(0, .ref 0), (1, .int x1)] [] (M1 mp mq ma me rdv) := rfl
theorem qX12_seenNow_0 (x1 : Int32) : BX12_seenNow_0 [(0, .ref 0), (1, .int x1)] [] (M1 mp mq ma me rdv) =
    (BX12_seenNow_3) [(0, .ref 0), (1, .int x1)] [.int 0, .int x1, .ref 0] (M1 mp mq ma me rdv) := rfl
theorem qX12_seenNow_3 (x1 : Int32) (s0 : Int32) (s1 : Int32) {r : Bool} (h : EX12_isFree [.ref 0, .int s1, .int s0] (M1 mp mq ma me rdv) = some r) : BX12_seenNow_3 [(0, .ref 0), (1, .int x1)] [.int s0, .int s1, .ref 0] (M1 mp mq ma me rdv) =
    (if (b2i r) = 0 then (BX12_seenNow_14) [(0, .ref 0), (1, .int x1)] [.int 0] (M1 mp mq ma me rdv) else (BX12_seenNow_14) [(0, .ref 0), (1, .int x1)] [.int 1] (M1 mp mq ma me rdv)) := (cal_eq h rfl rfl (chk_rf _ _ _)).trans rfl
theorem qX12_seenNow_14 (x1 : Int32) (s0 : Int32) : BX12_seenNow_14 [(0, .ref 0), (1, .int x1)] [.int s0] (M1 mp mq ma me rdv) =
    (BX12_seenNow_17) [(0, .ref 0), (1, .int x1)] [.int (-1), .int x1, .ref 0, .int s0] (M1 mp mq ma me rdv) := rfl
theorem qX12_seenNow_17 (x1 : Int32) (s0 : Int32) (s1 : Int32) (s3 : Int32) {r : Bool} (h : EX12_isFree [.ref 0, .int s1, .int s0] (M1 mp mq ma me rdv) = some r) : BX12_seenNow_17 [(0, .ref 0), (1, .int x1)] [.int s0, .int s1, .ref 0, .int s3] (M1 mp mq ma me rdv) =
    (if (b2i r) = 0 then (BX12_seenNow_28) [(0, .ref 0), (1, .int x1)] [.int 0, .int s3] (M1 mp mq ma me rdv) else (BX12_seenNow_28) [(0, .ref 0), (1, .int x1)] [.int 2, .int s3] (M1 mp mq ma me rdv)) := (cal_eq h rfl rfl (chk_rf _ _ _)).trans rfl
theorem qX12_seenNow_28 (x1 : Int32) (s0 : Int32) (s1 : Int32) : BX12_seenNow_28 [(0, .ref 0), (1, .int x1)] [.int s0, .int s1] (M1 mp mq ma me rdv) =
    (BX12_seenNow_32) [] [.int 1, .int x1, .ref 0, .int (s1 ||| s0)] (M1 mp mq ma me rdv) := rfl
theorem qX12_seenNow_32 (s0 : Int32) (s1 : Int32) (s3 : Int32) {r : Bool} (h : EX12_isFree [.ref 0, .int s1, .int s0] (M1 mp mq ma me rdv) = some r) : BX12_seenNow_32 [] [.int s0, .int s1, .ref 0, .int s3] (M1 mp mq ma me rdv) =
    (if (b2i r) = 0 then some (s3 ||| 0) else some (s3 ||| 4)) := (cal_eq h rfl rfl (chk_rf _ _ _)).trans rfl
theorem eX12_placesNow_s : EX12_placesNow [.ref 0] (M1 mp mq ma me rdv) = BX12_placesNow_0 [(0, .ref 0)] [] (M1 mp mq ma me rdv) := rfl
theorem qX12_placesNow_0 : BX12_placesNow_0 [(0, .ref 0)] [] (M1 mp mq ma me rdv) =
    lp (BX12_placesNow_7) FU [(0, .ref 0), (1, .long mp.2.2.2.2.2.1), (3, .int 0)] [] (M1 mp mq ma me rdv) := rfl
theorem qX12_placesNow_7 (k7 : KT (Int64 × HP)) (v1 : Int64) (v3 : Int32) : BX12_placesNow_7 k7 [(0, .ref 0), (1, .long v1), (3, .int v3)] [] (M1 mp mq ma me rdv) =
    (if me.1.2.2.2.2.2.2.2.2.2.1 ≤ v3 then some (v1, (M1 mp mq ma me rdv)) else (if v3 < 0 ∨ 5 ≤ v3.toNatClampNeg then none else (BX12_placesNow_32 k7) [(0, .ref 0), (1, .long v1), (3, .int v3)] [.int (me.2.2.2.2.1 v3.toNatClampNeg), .long mp.2.2.2.2.2.1, .ref 0] (M1 mp mq ma me rdv))) := rfl
theorem qX12_placesNow_32 (k7 : KT (Int64 × HP)) (v1 : Int64) (v3 : Int32) (s0 : Int32) (s1 : Int64) {mp' : MpS} {mq' : MsS} {ma' : MaS} {me' : MeS} (h : EX12_laysFar [.ref 0, .long s1, .int s0] (M1 mp mq ma me rdv) = some (M1 mp' mq' ma' me' rdv)) : BX12_placesNow_32 k7 [(0, .ref 0), (1, .long v1), (3, .int v3)] [.int s0, .long s1, .ref 0] (M1 mp mq ma me rdv) =
    lp (BX12_placesNow_38 k7) FU [(0, .ref 0), (1, .long v1), (3, .int v3), (4, .int 0)] [] (M1 mp' mq' ma' me' rdv) := (cal_eq h rfl rfl rfl).trans rfl
theorem qX12_placesNow_38 (k7 : KT (Int64 × HP)) (k38 : KT (Int64 × HP)) (v1 : Int64) (v3 : Int32) (v4 : Int32) : BX12_placesNow_38 k7 k38 [(0, .ref 0), (1, .long v1), (3, .int v3), (4, .int v4)] [] (M1 mp mq ma me rdv) =
    (if (me.1.1 * me.1.2.1) ≤ v4 then k7 [(0, .ref 0), (1, .long v1), (3, .int (v3 + 1))] [] (M1 mp mq ma me rdv) else (if v4 < 0 ∨ 48 ≤ v4.toNatClampNeg then none else (if v3 < 0 ∨ 5 ≤ v3.toNatClampNeg then none else (if (ma.2.2.1 v4.toNatClampNeg) = (me.2.2.2.1 v3.toNatClampNeg) then k38 [(0, .ref 0), (1, .long v1), (3, .int v3), (4, .int (v4 + 1))] [] (M1 mp mq ma me rdv) else k38 [(0, .ref 0), (1, .long (v1 &&& (((1 : Int64) <<< (v4.toInt64 &&& 63)) ^^^ (-1)))), (3, .int v3), (4, .int (v4 + 1))] [] (M1 mp mq ma me rdv))))) := rfl
theorem eX12_unlikeNow_s (x1 : Int32) : EX12_unlikeNow [.ref 0, .int x1] (M1 mp mq ma me rdv) = BX12_unlikeNow_0 [(0, .ref 0), (1, .int x1)] [] (M1 mp mq ma me rdv) := rfl
theorem qX12_unlikeNow_0 (x1 : Int32) : BX12_unlikeNow_0 [(0, .ref 0), (1, .int x1)] [] (M1 mp mq ma me rdv) =
    (if x1 = 0 then some ((me.2.1.2.1 &&& (mp.2.2.2.2.2.1 ^^^ (-1))) ||| (me.2.1.2.2.1 &&& mp.2.2.2.2.2.1)) else some ((me.2.1.2.2.2.1 &&& (mp.2.2.2.2.2.1 ^^^ (-1))) ||| (me.2.1.2.2.2.2.1 &&& mp.2.2.2.2.2.1))) := rfl
theorem eX12_clashNow_s : EX12_clashNow [.ref 0] (M1 mp mq ma me rdv) = BX12_clashNow_0 [(0, .ref 0)] [] (M1 mp mq ma me rdv) := rfl
theorem qX12_clashNow_0 : BX12_clashNow_0 [(0, .ref 0)] [] (M1 mp mq ma me rdv) =
    some ((me.2.1.2.1 &&& me.2.1.2.2.2.2.1) ||| (me.2.1.2.2.1 &&& me.2.1.2.2.2.1)) := rfl
theorem eX12_toMowNow_s : EX12_toMowNow [.ref 0] (M1 mp mq ma me rdv) = BX12_toMowNow_0 [(0, .ref 0)] [] (M1 mp mq ma me rdv) := rfl
theorem qX12_toMowNow_0 : BX12_toMowNow_0 [(0, .ref 0)] [] (M1 mp mq ma me rdv) =
    some (me.2.1.2.1 &&& (mp.2.2.2.2.2.1 ^^^ (-1))) := rfl
end
