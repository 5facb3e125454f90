/-! The class' cells by their places, as the constructor lays them. -/
abbrev GrS : Type := (Nat → Int32) × Int32 × Int32 × Int32 × Int64 × Int64 × Int64
abbrev PiS : Type := Int64 × Int64 × Int32
abbrev WkS : Type := Int64 × Int32 × Int32 × Int32 × Int32
/-- ground; rows, wants, moons; gates, spots, spotSteps; walkers; dusk pays shuts gateCount gateCells noise heardCount walkerCount -/
abbrev PlS : Type := GrS × (PiS × PiS × PiS) × ((Nat → Int32) × (Nat → Int32) × (Nat → Int32)) × (Nat → WkS) × (Int32 × Int32 × Int32 × Int32 × Int64 × Int32 × Int32 × Int32)
/-- track cameFrom stepsToNoise; plan walker; mown been cell facing seed outMinute lastMinute -/
abbrev WaS : Type := ((Nat → Int32) × (Nat → Int32) × (Nat → Int32)) × (Nat × Nat) × (Int64 × Int64 × Int32 × Int32 × Int32 × Int32 × Int32)
/-- laid cells seedNow latestTrouble latestFault faultPlace -/
abbrev MzS : Type := Int32 × Int64 × Int32 × Int32 × Int32 × Int32
abbrev TpS : Type := (Nat → Int32) × Int32
/-- end next kind start value code -/
abbrev TkS : Type := Int32 × Int32 × Int32 × Int32 × Int32 × Int64
/-- fault faultPlace number cell cellPlace -/
abbrev RdS : Type := Int32 × Int32 × Int32 × Int32 × Int32
/-- actCells actSeeds markCells markSeeds acts marks -/
abbrev HiS : Type := (Nat → Int64) × (Nat → Int32) × (Nat → Int64) × (Nat → Int32) × Int32 × Int32
abbrev ScS : Type := (Nat → Int32) × (Nat → Int32) × (Nat → Int32)
abbrev aI (n : Nat) (f : Nat → Int32) : AE := .inl (1, n, .inl f)
abbrev aB (n : Nat) (f : Nat → Int32) : AE := .inl (0, n, .inl f)
abbrev aJ (n : Nat) (f : Nat → Int64) : AE := .inl (2, n, .inr (.inl f))
abbrev aQ (n : Nat) (f : Nat → Option Nat) : AE := .inl (3, n, .inr (.inr (.inr (.inr f))))
abbrev cGr (q : Nat) (g : GrS) : List AE := [.inr (0, [.ref (q + 1), .int g.2.1, .int g.2.2.1, .int g.2.2.2.1, .long g.2.2.2.2.1, .long g.2.2.2.2.2.1, .long g.2.2.2.2.2.2]), aI 192 g.1]
abbrev cPi (x : PiS) : AE := .inr (2, [.long x.1, .long x.2.1, .int x.2.2])
abbrev cWk (x : WkS) : AE := .inr (9, [.long x.1, .int x.2.1, .int x.2.2.1, .int x.2.2.2.1, .int x.2.2.2.2])
def wkf (q : Nat) : Nat → Option Nat := fun j => match j with
  | 0 => some q
  | 1 => some (q + 1)
  | 2 => some (q + 2)
  | 3 => some (q + 3)
  | 4 => some (q + 4)
  | _ => none
abbrev PlX : Type := Int32 × Int32 × Int32 × Int32 × Int64 × Int32 × Int32 × Int32
def CH (mz : MzS) (tp : TpS) (tk : TkS) (rd : RdS) (hi : HiS) (sc : ScS) (pl dr : PlS) (wa wb : WaS) (rc : Nat → Int32) : HP :=
  [.inr (10, [.ref 1, .ref 3, .ref 5, .ref 10, .ref 44, .ref 48, .ref 52, .ref 14, .ref 29, .int mz.1, .long mz.2.1, .int mz.2.2.1, .int mz.2.2.2.1, .int mz.2.2.2.2.1, .int mz.2.2.2.2.2]),
   .inr (6, [.ref 2, .int tp.2]), aB 900 tp.1,
   .inr (4, [.ref 4, .int rd.1, .int rd.2.1, .int rd.2.2.1, .int rd.2.2.2.1, .int rd.2.2.2.2]),
   .inr (7, [.ref 1, .int tk.1, .int tk.2.1, .int tk.2.2.1, .int tk.2.2.2.1, .int tk.2.2.2.2.1, .long tk.2.2.2.2.2]),
   .inr (1, [.ref 6, .ref 7, .ref 8, .ref 9, .int hi.2.2.2.2.1, .int hi.2.2.2.2.2]), aJ 20 hi.1, aI 20 hi.2.1, aJ 3 hi.2.2.1, aI 3 hi.2.2.2.1,
   .inr (5, [.ref 11, .ref 12, .ref 13]), aI 12 sc.1, aI 4096 sc.2.1, aI 4096 sc.2.2,
   .inr (3, [.ref 15, .ref 17, .ref 18, .ref 19, .ref 20, .ref 21, .ref 22, .ref 23, .int pl.2.2.2.2.1, .int pl.2.2.2.2.2.1, .int pl.2.2.2.2.2.2.1, .int pl.2.2.2.2.2.2.2.1, .long pl.2.2.2.2.2.2.2.2.1, .int pl.2.2.2.2.2.2.2.2.2.1, .int pl.2.2.2.2.2.2.2.2.2.2.1, .int pl.2.2.2.2.2.2.2.2.2.2.2]),
   .inr (0, [.ref 16, .int pl.1.2.1, .int pl.1.2.2.1, .int pl.1.2.2.2.1, .long pl.1.2.2.2.2.1, .long pl.1.2.2.2.2.2.1, .long pl.1.2.2.2.2.2.2]), aI 192 pl.1.1,
   cPi pl.2.1.1, cPi pl.2.1.2.1, cPi pl.2.1.2.2, aI 4 pl.2.2.1.1, aI 5 pl.2.2.1.2.1, aI 5 pl.2.2.1.2.2, aQ 5 (wkf 24),
   cWk (pl.2.2.2.1 0), cWk (pl.2.2.2.1 1), cWk (pl.2.2.2.1 2), cWk (pl.2.2.2.1 3), cWk (pl.2.2.2.1 4),
   .inr (3, [.ref 30, .ref 32, .ref 33, .ref 34, .ref 35, .ref 36, .ref 37, .ref 38, .int dr.2.2.2.2.1, .int dr.2.2.2.2.2.1, .int dr.2.2.2.2.2.2.1, .int dr.2.2.2.2.2.2.2.1, .long dr.2.2.2.2.2.2.2.2.1, .int dr.2.2.2.2.2.2.2.2.2.1, .int dr.2.2.2.2.2.2.2.2.2.2.1, .int dr.2.2.2.2.2.2.2.2.2.2.2]),
   .inr (0, [.ref 31, .int dr.1.2.1, .int dr.1.2.2.1, .int dr.1.2.2.2.1, .long dr.1.2.2.2.2.1, .long dr.1.2.2.2.2.2.1, .long dr.1.2.2.2.2.2.2]), aI 192 dr.1.1,
   cPi dr.2.1.1, cPi dr.2.1.2.1, cPi dr.2.1.2.2, aI 4 dr.2.2.1.1, aI 5 dr.2.2.1.2.1, aI 5 dr.2.2.1.2.2, aQ 5 (wkf 39),
   cWk (dr.2.2.2.1 0), cWk (dr.2.2.2.1 1), cWk (dr.2.2.2.1 2), cWk (dr.2.2.2.1 3), cWk (dr.2.2.2.1 4),
   .inr (8, [.ref 45, .ref 46, .ref 47, .ref wa.2.1.1, .ref wa.2.1.2, .long wa.2.2.1, .long wa.2.2.2.1, .int wa.2.2.2.2.1, .int wa.2.2.2.2.2.1, .int wa.2.2.2.2.2.2.1, .int wa.2.2.2.2.2.2.2.1, .int wa.2.2.2.2.2.2.2.2]), aI 201 wa.1.1, aI 48 wa.1.2.1, aI 48 wa.1.2.2,
   .inr (8, [.ref 49, .ref 50, .ref 51, .ref wb.2.1.1, .ref wb.2.1.2, .long wb.2.2.1, .long wb.2.2.2.1, .int wb.2.2.2.2.1, .int wb.2.2.2.2.2.1, .int wb.2.2.2.2.2.2.1, .int wb.2.2.2.2.2.2.2.1, .int wb.2.2.2.2.2.2.2.2]), aI 201 wb.1.1, aI 48 wb.1.2.1, aI 48 wb.1.2.2,
   aI 48 rc]
theorem cal_eq {β γ : Type} {f : List Value → HP → Option γ} {fc : γ → HP → Option Value × HP} {k : KT β} {lv : LV} {st av : List Value} {hp : HP} {o : γ} {n : Nat} {rc : Option Nat} (h : f av hp = some o) (h1 : (st.take n).reverse = av) (h2 : (Nat.ble n st.length && (Nat.ble (catsum (st.drop n)) 8 && recvOK rc (st.take n).reverse hp)) = true) (h3 : chk hp.length (fc o hp).2.length lv (st.drop n) = true) : oCal n rc f fc k lv st hp = k lv ((fc o hp).1.toList ++ st.drop n) (fc o hp).2 := by
  unfold oCal
  rw [h2]
  dsimp only
  rw [h1, h]
  dsimp only [Option.bind_some]
  rw [h3]
theorem chk_rf (n : Nat) (lv : LV) (st : List Value) : chk n n lv st = true := by
  unfold chk
  rw [Nat.beq_refl]
  rfl
