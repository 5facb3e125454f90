/-! Words for both. -/
theorem e_cellTo {mz : MzS} {tp : TpS} {tk : TkS} {rd : RdS} {hi : HiS} {sc : ScS} {pl dr : PlS} {wa wb : WaS} {rc : Nat → Int32} {w h : Nat} (H : WH w h) (G : GrOK pl.1 w h) {c s : Nat} (hc : c < w * h) (hs : s < 4) : EX0_cellTo [.ref 15, .int (nI s), .int (nI c)] (CH mz tp tk rd hi sc pl dr wa wb rc) = some (oI (nb w h c s)) := by
  have hn := H.n
  have e : nI c * 4 + nI s = nI (4 * c + s) := by rw [l4, pk_mul, nI_add, Nat.mul_comm]
  rw [eX0_cellTo_s, qX0_cellTo_0, e, if_neg (nI_pos (by omega)), l192, if_le (by omega) (by omega), if_neg (by omega), if_neg (nI_in (by omega : 4 * c + s < 192) (by omega)), nI_clamp (by omega), G.2.2.2.2.2.2 c s hc hs]
def TNok (tn : Nat → Int32) : Prop := ∀ k, k < 48 → tn k = -2 ∨ ∃ a, a < 48 ∧ tn k = nI a
def few (tn : Nat → Int32) : Option Nat → Int32
  | none => 48
  | some d => tn d
theorem bst_s (w h : Nat) (m : Int64) (tn : Nat → Int32) (c s : Nat) : bst w h m tn c (s + 1) = match mto w h m c s with
    | none => bst w h m tn c s
    | some d => if tn d = -2 then bst w h m tn c s else match bst w h m tn c s with
      | none => some d
      | some e => if tn d < tn e then some d else some e := rfl
theorem lot_s (w h : Nat) (m : Int64) (c i s l : Nat) : lot w h m c (i + 1) s l = match mto w h m c s with
    | none => lot w h m c i (s + 1) l
    | some d => if l = 0 then some d else lot w h m c i (s + 1) (l - 1) := rfl
theorem drawc {v : Nat} (hv : v < 65537) : ((75 * nI v) + 74) - ((75 * nI v) + 74) / 65537 * 65537 = nI (drw v) := by
  have e : (75 * nI v) + 74 = nI (75 * v + 74) := by
    rw [show (75 : Int32) = nI 75 from rfl, show (74 : Int32) = nI 74 from rfl, pk_mul, nI_add]
  rw [e, show (65537 : Int32) = nI 65537 from rfl, pk_rem (by omega) (by omega) (by omega)]
  rfl
theorem sd_L : ∀ f, f < 4 → ∀ i, i < 4 → ((nI f + 3) + (1 * nI i)) - ((nI f + 3) + (1 * nI i)) / 4 * 4 = nI (sdT 0 f i) := by decide +kernel
theorem sd_R : ∀ f, f < 4 → ∀ i, i < 4 → ((nI f + 5) + ((-1) * nI i)) - ((nI f + 5) + ((-1) * nI i)) / 4 * 4 = nI (sdT 1 f i) := by decide +kernel
theorem oIn {α : Type} (x y : α) : (if oI none = -1 then x else y) = x := if_pos rfl
