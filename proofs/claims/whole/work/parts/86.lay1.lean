/-! The draft's ground. -/
theorem tb_all : ∀ n, n < 49 → ∀ k, k < 64 → tb (bitL (nI n) - 1) k = decide (k < n) := by decide +kernel
section
variable {mz : MzS} {tp : TpS} {tk : TkS} {rd : RdS} {hi : HiS} {sc : ScS} {pl : PlS} {wa wb : WaS} {rc : Nat → Int32}
theorem c_layB {g : GrS} {d : (PiS × PiS × PiS) × ((Nat → Int32) × (Nat → Int32) × (Nat → Int32)) × (Nat → WkS) × (Int32 × Int32 × Int32 × Int32 × Int64 × Int32 × Int32 × Int32)} {w : Nat} (hw : g.2.1 = nI w) {x y s : Nat} (hb : (w * y + x) * 4 + s < 192) (ox oy : Int32) {r : Bool} {v : Int32} (hv : v = if r = true then g.2.1 * oy + ox else -1) (h : EX0_isInside [.ref 30, .int ox, .int oy] (CH mz tp tk rd hi sc pl (g, d) wa wb rc) = some r) : EX0_layBeside [.ref 30, .int (nI x), .int (nI y), .int (nI s), .int ox, .int oy] (CH mz tp tk rd hi sc pl (g, d) wa wb rc) = some (CH mz tp tk rd hi sc pl ((upd g.1 ((w * y + x) * 4 + s) v, g.2), d) wa wb rc) := by
  have e : ((g.2.1 * nI y + nI x) * 4 + nI s) = nI ((w * y + x) * 4 + s) := by
    rw [hw, pk_mul, nI_add, show (4 : Int32) = nI 4 from rfl, pk_mul, nI_add]
  rw [eX0_layBeside_s, qX0_layBeside_0]
  dsimp only
  rw [e, if_neg (nI_pos (by omega)), if_neg (show ¬ (192 : Int32) ≤ nI ((w * y + x) * 4 + s) from nI_ge (b := 192) hb (by omega)), qX0_layBeside_38 (h := h), if_b2i, if_neg (nI_in (by omega) (by omega)), if_neg (nI_in (by omega) (by omega)), nI_clamp (by omega), hv]
  cases r <;> rfl
theorem c_inside {g : GrS} {d : (PiS × PiS × PiS) × ((Nat → Int32) × (Nat → Int32) × (Nat → Int32)) × (Nat → WkS) × (Int32 × Int32 × Int32 × Int32 × Int64 × Int32 × Int32 × Int32)} {w h : Nat} (hw : g.2.1 = nI w) (hh : g.2.2.1 = nI h) (hw8 : w ≤ 8) (hh6 : h ≤ 6) {x y : Nat} (hx : x ≤ 8) (hy : y ≤ 6) : EX0_isInside [.ref 30, .int (nI x), .int (nI y)] (CH mz tp tk rd hi sc pl (g, d) wa wb rc) = some (decide (x < w ∧ y < h)) := by
  rw [eX0_isInside_s_d, qX0_isInside_0_d]
  dsimp only
  rw [hw, hh, if_neg (nI_pos (by omega)), if_neg (nI_pos (by omega)), if_le (by omega) (by omega), if_le (by omega) (by omega)]
  by_cases h1 : x < w
  · by_cases h2 : y < h
    · rw [if_neg (by omega), if_neg (by omega), decide_eq_true ⟨h1, h2⟩]
    · rw [if_neg (by omega), if_pos (by omega), decide_eq_false (by omega)]
  · rw [if_pos (by omega), decide_eq_false (by omega)]
theorem c_inM1 {g : GrS} {d : (PiS × PiS × PiS) × ((Nat → Int32) × (Nat → Int32) × (Nat → Int32)) × (Nat → WkS) × (Int32 × Int32 × Int32 × Int32 × Int64 × Int32 × Int32 × Int32)} (y : Int32) : EX0_isInside [.ref 30, .int (-1), .int y] (CH mz tp tk rd hi sc pl (g, d) wa wb rc) = some false := by
  rw [eX0_isInside_s_d, qX0_isInside_0_d, if_pos (by decide)]
theorem c_inM2 {g : GrS} {d : (PiS × PiS × PiS) × ((Nat → Int32) × (Nat → Int32) × (Nat → Int32)) × (Nat → WkS) × (Int32 × Int32 × Int32 × Int32 × Int64 × Int32 × Int32 × Int32)} (x : Int32) : EX0_isInside [.ref 30, .int x, .int (-1)] (CH mz tp tk rd hi sc pl (g, d) wa wb rc) = some false := by
  rw [eX0_isInside_s_d, qX0_isInside_0_d]
  by_cases h1 : x < 0
  · rw [if_pos h1]
  · rw [if_neg h1, if_pos (show (-1 : Int32) < 0 by decide)]
    split <;> rfl
theorem nb_xy {w h x y : Nat} (hx : x < w) : nb w h (w * y + x) 0 = (if 0 < y then some (w * (y - 1) + x) else none) ∧ nb w h (w * y + x) 1 = (if x + 1 < w then some (w * y + (x + 1)) else none) ∧ nb w h (w * y + x) 2 = (if y + 1 < h then some (w * (y + 1) + x) else none) ∧ nb w h (w * y + x) 3 = (if 0 < x then some (w * y + (x - 1)) else none) := by
  have hm : (w * y + x) % w = x := by rw [Nat.mul_add_mod, Nat.mod_eq_of_lt hx]
  refine ⟨?_, ?_, ?_, ?_⟩
  · show (if w ≤ w * y + x then some (w * y + x - w) else none) = _
    by_cases h0 : 0 < y
    · obtain ⟨z, rfl⟩ : ∃ z, y = z + 1 := ⟨y - 1, by omega⟩
      rw [if_pos h0, if_pos (by rw [Nat.mul_succ]; omega), Nat.mul_succ, Nat.add_sub_cancel, show w * z + w + x - w = w * z + x by omega]
    · have : y = 0 := by omega
      subst this
      rw [if_neg h0, if_neg (by rw [Nat.mul_zero]; omega)]
  · show (if (w * y + x) % w + 1 < w then some (w * y + x + 1) else none) = _
    rw [hm]; rfl
  · show (if w * y + x + w < w * h then some (w * y + x + w) else none) = _
    by_cases h0 : y + 1 < h
    · have : w * (y + 2) ≤ w * h := Nat.mul_le_mul_left w (by omega)
      rw [Nat.mul_add] at this
      rw [if_pos h0, if_pos (by omega), Nat.mul_succ, show w * y + x + w = w * y + w + x by omega]
    · have : w * h ≤ w * (y + 1) := Nat.mul_le_mul_left w (by omega)
      rw [Nat.mul_succ] at this
      rw [if_neg h0, if_neg (by omega)]
  · show (if 0 < (w * y + x) % w then some (w * y + x - 1) else none) = _
    rw [hm]
    by_cases h0 : 0 < x
    · rw [if_pos h0, if_pos h0, show w * y + x - 1 = w * y + (x - 1) by omega]
    · rw [if_neg h0, if_neg h0]
theorem nI_s1 {x : Nat} (h : 0 < x) : nI x - 1 = nI (x - 1) := by
  obtain ⟨z, rfl⟩ : ∃ z, x = z + 1 := ⟨x - 1, by omega⟩
  exact nI_pred z
/-- one cell's four sides -/
theorem c_layC {ct : Nat → Int32} {n_ : Int32} {al F L : Int64} {d : (PiS × PiS × PiS) × ((Nat → Int32) × (Nat → Int32) × (Nat → Int32)) × (Nat → WkS) × (Int32 × Int32 × Int32 × Int32 × Int64 × Int32 × Int32 × Int32)} {w h : Nat} (H : WH w h) {x y : Nat} (hx : x < w) (hy : y < h) (k42 k88 : KT HP) : BX0_lay_88 k42 k88 [(0, .ref 30), (1, .int (nI w)), (2, .int (nI h)), (3, .int (nI y)), (4, .int (nI x))] [] (CH mz tp tk rd hi sc pl ((ct, nI w, nI h, n_, al, F, L), d) wa wb rc) = k88 [(0, .ref 30), (1, .int (nI w)), (2, .int (nI h)), (3, .int (nI y)), (4, .int (nI (x + 1)))] [] (CH mz tp tk rd hi sc pl ((upd (upd (upd (upd ct ((w * y + x) * 4 + 0) (oI (nb w h (w * y + x) 0))) ((w * y + x) * 4 + 1) (oI (nb w h (w * y + x) 1))) ((w * y + x) * 4 + 2) (oI (nb w h (w * y + x) 2))) ((w * y + x) * 4 + 3) (oI (nb w h (w * y + x) 3)), nI w, nI h, n_, al, F, L), d) wa wb rc) := by
  obtain ⟨n0, n1, n2, n3⟩ := nb_xy (h := h) (y := y) hx
  obtain ⟨h1, h2, h3, h4⟩ := H
  have hc : w * y + x < w * h := by
    have : w * (y + 1) ≤ w * h := Nat.mul_le_mul_left w (by omega)
    rw [Nat.mul_succ] at this
    omega
  have hn : w * h ≤ 48 := Nat.mul_le_mul h2 h4
  have b0 : ∀ ct, EX0_layBeside [.ref 30, .int (nI x), .int (nI y), .int 0, .int (nI x), .int (nI y - 1)] (CH mz tp tk rd hi sc pl ((ct, nI w, nI h, n_, al, F, L), d) wa wb rc) = some (CH mz tp tk rd hi sc pl ((upd ct ((w * y + x) * 4 + 0) (oI (nb w h (w * y + x) 0)), nI w, nI h, n_, al, F, L), d) wa wb rc) := fun ct => by
    by_cases h0 : 0 < y
    · rw [nI_s1 h0]
      refine c_layB (g := (ct, nI w, nI h, n_, al, F, L)) (w := w) (s := 0) rfl (by omega) _ _ ?_ (c_inside rfl rfl h2 h4 (by omega) (by omega))
      rw [n0, if_pos h0, if_pos (decide_eq_true ⟨hx, by omega⟩)]
      show nI _ = nI w * nI (y - 1) + nI x
      rw [pk_mul, nI_add]
    · have : y = 0 := by omega
      subst this
      refine c_layB (g := (ct, nI w, nI h, n_, al, F, L)) (w := w) (y := 0) (s := 0) (r := false) rfl (by omega) _ _ ?_ (c_inM2 _)
      rw [n0, if_neg h0]
      rfl
  have b1 : ∀ ct, EX0_layBeside [.ref 30, .int (nI x), .int (nI y), .int 1, .int (nI x + 1), .int (nI y)] (CH mz tp tk rd hi sc pl ((ct, nI w, nI h, n_, al, F, L), d) wa wb rc) = some (CH mz tp tk rd hi sc pl ((upd ct ((w * y + x) * 4 + 1) (oI (nb w h (w * y + x) 1)), nI w, nI h, n_, al, F, L), d) wa wb rc) := fun ct => by
    rw [nI_1]
    refine c_layB (g := (ct, nI w, nI h, n_, al, F, L)) (w := w) (s := 1) rfl (by omega) _ _ ?_ (c_inside rfl rfl h2 h4 (by omega) (by omega))
    rw [n1]
    by_cases h0 : x + 1 < w
    · rw [if_pos h0, if_pos (decide_eq_true ⟨h0, hy⟩)]
      show nI _ = nI w * nI y + nI (x + 1)
      rw [pk_mul, nI_add]
    · rw [if_neg h0, if_neg (by rw [decide_eq_false (fun hh => h0 hh.1)]; decide)]
      rfl
  have b2 : ∀ ct, EX0_layBeside [.ref 30, .int (nI x), .int (nI y), .int 2, .int (nI x), .int (nI y + 1)] (CH mz tp tk rd hi sc pl ((ct, nI w, nI h, n_, al, F, L), d) wa wb rc) = some (CH mz tp tk rd hi sc pl ((upd ct ((w * y + x) * 4 + 2) (oI (nb w h (w * y + x) 2)), nI w, nI h, n_, al, F, L), d) wa wb rc) := fun ct => by
    rw [nI_1]
    refine c_layB (g := (ct, nI w, nI h, n_, al, F, L)) (w := w) (s := 2) rfl (by omega) _ _ ?_ (c_inside rfl rfl h2 h4 (by omega) (by omega))
    rw [n2]
    by_cases h0 : y + 1 < h
    · rw [if_pos h0, if_pos (decide_eq_true ⟨hx, h0⟩)]
      show nI _ = nI w * nI (y + 1) + nI x
      rw [pk_mul, nI_add]
    · rw [if_neg h0, if_neg (by rw [decide_eq_false (fun hh => h0 hh.2)]; decide)]
      rfl
  have b3 : ∀ ct, EX0_layBeside [.ref 30, .int (nI x), .int (nI y), .int 3, .int (nI x - 1), .int (nI y)] (CH mz tp tk rd hi sc pl ((ct, nI w, nI h, n_, al, F, L), d) wa wb rc) = some (CH mz tp tk rd hi sc pl ((upd ct ((w * y + x) * 4 + 3) (oI (nb w h (w * y + x) 3)), nI w, nI h, n_, al, F, L), d) wa wb rc) := fun ct => by
    by_cases h0 : 0 < x
    · rw [nI_s1 h0]
      refine c_layB (g := (ct, nI w, nI h, n_, al, F, L)) (w := w) (s := 3) rfl (by omega) _ _ ?_ (c_inside rfl rfl h2 h4 (by omega) (by omega))
      rw [n3, if_pos h0, if_pos (decide_eq_true ⟨by omega, hy⟩)]
      show nI _ = nI w * nI y + nI (x - 1)
      rw [pk_mul, nI_add]
    · have : x = 0 := by omega
      subst this
      refine c_layB (g := (ct, nI w, nI h, n_, al, F, L)) (w := w) (x := 0) (s := 3) (r := false) rfl (by omega) _ _ ?_ (c_inM1 _)
      rw [n3, if_neg h0]
      rfl
  rw [qX0_lay_88, if_le (by omega) (by omega), if_neg (by omega), qX0_lay_104 (h := b0 ct), qX0_lay_117 (h := b1 _), qX0_lay_130 (h := b2 _), qX0_lay_143 (h := b3 _), nI_1]
end
