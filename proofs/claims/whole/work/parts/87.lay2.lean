/-! The draft's ground, whole. -/
section
variable {mz : MzS} {tp : TpS} {tk : TkS} {rd : RdS} {hi : HiS} {sc : ScS} {pl : PlS} {wa wb : WaS} {rc : Nat → Int32}
abbrev PlR : Type := (PiS × PiS × PiS) × ((Nat → Int32) × (Nat → Int32) × (Nat → Int32)) × (Nat → WkS) × (Int32 × Int32 × Int32 × Int32 × Int64 × Int32 × Int32 × Int32)
def CtOK (w h c : Nat) (ct : Nat → Int32) : Prop := ∀ k s, k < c → s < 4 → ct (4 * k + s) = oI (nb w h k s)
theorem c_layRow {ct : Nat → Int32} {n_ : Int32} {al F L : Int64} {d : PlR} {w h : Nat} (H : WH w h) {y : Nat} (hy : y < h) (hct : CtOK w h (w * y) ct) : ∃ ct2, CtOK w h (w * (y + 1)) ct2 ∧ ∀ k42, lp (BX0_lay_88 k42) FU [(0, .ref 30), (1, .int (nI w)), (2, .int (nI h)), (3, .int (nI y)), (4, .int 0)] [] (CH mz tp tk rd hi sc pl ((ct, nI w, nI h, n_, al, F, L), d) wa wb rc) = k42 [(0, .ref 30), (1, .int (nI w)), (2, .int (nI h)), (3, .int (nI (y + 1)))] [] (CH mz tp tk rd hi sc pl ((ct2, nI w, nI h, n_, al, F, L), d) wa wb rc) := by
  have hw8 := H.2.1
  have LI := lp_inv2 (B := BX0_lay_88) (fun x lv hp => ∃ ct2, CtOK w h (w * y + x) ct2 ∧ lv = [(0, .ref 30), (1, .int (nI w)), (2, .int (nI h)), (3, .int (nI y)), (4, .int (nI x))] ∧ hp = CH mz tp tk rd hi sc pl ((ct2, nI w, nI h, n_, al, F, L), d) wa wb rc) (Q := fun r => ∃ ct2, CtOK w h (w * (y + 1)) ct2 ∧ r = fun k42 => k42 [(0, .ref 30), (1, .int (nI w)), (2, .int (nI h)), (3, .int (nI (y + 1)))] [] (CH mz tp tk rd hi sc pl ((ct2, nI w, nI h, n_, al, F, L), d) wa wb rc)) (t := w) (N := FU) (by have := FU_ge; omega) (fun x lv hp hx P => ?_) (fun lv hp P => ?_) (lv := [(0, .ref 30), (1, .int (nI w)), (2, .int (nI h)), (3, .int (nI y)), (4, .int 0)]) (hp := CH mz tp tk rd hi sc pl ((ct, nI w, nI h, n_, al, F, L), d) wa wb rc) ⟨ct, hct, rfl, rfl⟩
  · obtain ⟨r, ⟨ct2, h1, rfl⟩, e⟩ := LI
    exact ⟨ct2, h1, e⟩
  · obtain ⟨ct2, h1, rfl, rfl⟩ := P
    refine Or.inl ⟨_, _, ⟨_, ?_, rfl, rfl⟩, fun a k => c_layC H hx hy a k⟩
    intro k s hk hs
    by_cases e : k = w * y + x
    · subst e
      rcases (by omega : s = 0 ∨ s = 1 ∨ s = 2 ∨ s = 3) with rfl | rfl | rfl | rfl
      · rw [pk_un (by omega), pk_un (by omega), pk_un (by omega), show 4 * (w * y + x) + 0 = (w * y + x) * 4 + 0 by omega, pk_us]
      · rw [pk_un (by omega), pk_un (by omega), show 4 * (w * y + x) + 1 = (w * y + x) * 4 + 1 by omega, pk_us]
      · rw [pk_un (by omega), show 4 * (w * y + x) + 2 = (w * y + x) * 4 + 2 by omega, pk_us]
      · rw [show 4 * (w * y + x) + 3 = (w * y + x) * 4 + 3 by omega, pk_us]
    · rw [pk_un (by omega), pk_un (by omega), pk_un (by omega), pk_un (by omega)]
      exact h1 k s (by omega) hs
  · obtain ⟨ct2, h1, rfl, rfl⟩ := P
    refine ⟨_, ⟨ct2, by rw [Nat.mul_succ]; exact h1, rfl⟩, fun a k => ?_⟩
    rw [qX0_lay_88, if_pos (nI_le (Nat.le_refl _) (by omega)), nI_1]
theorem mod_row {w y k r : Nat} (hr : r < w) : (k < w * (y + 1) ∧ k % w = r) ↔ (k < w * y ∧ k % w = r) ∨ k = w * y + r := by
  rw [Nat.mul_succ]
  constructor
  · rintro ⟨h1, h2⟩
    by_cases h3 : k < w * y
    · exact Or.inl ⟨h3, h2⟩
    · right
      obtain ⟨z, rfl⟩ := Nat.le.dest (Nat.not_lt.mp h3)
      rw [Nat.mul_add_mod, Nat.mod_eq_of_lt (by omega)] at h2
      omega
  · rintro (⟨h1, h2⟩ | h1)
    · exact ⟨by omega, h2⟩
    · subst h1
      exact ⟨by omega, by rw [Nat.mul_add_mod, Nat.mod_eq_of_lt hr]⟩
theorem c_lay {dr : PlS} {w h : Nat} (H : WH w h) : ∃ g, GrOK g w h ∧ EX0_lay [.ref 30, .int (nI w), .int (nI h)] (CH mz tp tk rd hi sc pl dr wa wb rc) = some (CH mz tp tk rd hi sc pl (g, dr.2) wa wb rc) := by
  have hn := H.n
  obtain ⟨h1, h2, h3, h4⟩ := id H
  rw [eX0_lay_s, qX0_lay_0, pk_mul]
  have LI := lp_inv (B := BX0_lay_42) (fun y lv hp => ∃ ct F L, CtOK w h (w * y) ct ∧ (∀ k, tb F k = decide (k < w * y ∧ k % w = 0)) ∧ (∀ k, tb L k = decide (k < w * y ∧ k % w = w - 1)) ∧ lv = [(0, .ref 30), (1, .int (nI w)), (2, .int (nI h)), (3, .int (nI y))] ∧ hp = CH mz tp tk rd hi sc pl ((ct, nI w, nI h, nI (w * h), bitL (nI (w * h)) - 1, F, L), dr.2) wa wb rc) (Q := fun r => ∃ g, GrOK g w h ∧ r = some (CH mz tp tk rd hi sc pl (g, dr.2) wa wb rc)) (t := h) (N := FU) (by have := FU_ge; omega) (fun y lv hp hy P => ?_) (fun lv hp P => ?_) (lv := [(0, .ref 30), (1, .int (nI w)), (2, .int (nI h)), (3, .int 0)]) (hp := CH mz tp tk rd hi sc pl ((dr.1.1, nI w, nI h, nI (w * h), bitL (nI (w * h)) - 1, 0, 0), dr.2) wa wb rc) ⟨dr.1.1, 0, 0, fun k s hk => by omega, fun k => by rw [tb_0, decide_eq_false (by omega)], fun k => by rw [tb_0, decide_eq_false (by omega)], rfl, rfl⟩
  · obtain ⟨r, ⟨g, hg, hr⟩, e⟩ := LI
    exact ⟨g, hg, e.trans hr⟩
  · obtain ⟨ct, F, L, c1, c2, c3, rfl, rfl⟩ := P
    have hrow : w * (y + 1) ≤ w * h := Nat.mul_le_mul_left w (by omega)
    rw [Nat.mul_succ] at hrow
    obtain ⟨ct2, g1, g2⟩ := c_layRow (mz := mz) (tp := tp) (tk := tk) (rd := rd) (hi := hi) (sc := sc) (pl := pl) (wa := wa) (wb := wb) (rc := rc) (n_ := nI (w * h)) (al := bitL (nI (w * h)) - 1) (F := F ||| bitL (nI w * nI y + 0)) (L := L ||| bitL (nI w * nI y + (nI w - 1))) (d := dr.2) H hy c1
    refine Or.inl ⟨_, _, ⟨ct2, F ||| bitL (nI w * nI y + 0), L ||| bitL (nI w * nI y + (nI w - 1)), g1, fun k => ?_, fun k => ?_, rfl, rfl⟩, fun k => ?_⟩
    · rw [tb_or, c2, show (0 : Int32) = nI 0 from rfl, pk_mul, nI_add, tb_bit _ (by omega), ← Bool.decide_or]
      exact decide_eq_decide.mpr (mod_row (by omega)).symm
    · rw [tb_or, c3, nI_s1 (by omega), pk_mul, nI_add, tb_bit _ (by omega), ← Bool.decide_or]
      exact decide_eq_decide.mpr (mod_row (by omega)).symm
    · rw [qX0_lay_42, if_le (by omega) (by omega), if_neg (by omega)]
      exact g2 k
  · obtain ⟨ct, F, L, c1, c2, c3, rfl, rfl⟩ := P
    refine ⟨_, ⟨(ct, nI w, nI h, nI (w * h), bitL (nI (w * h)) - 1, F, L), ⟨rfl, rfl, rfl, fun k => ?_, c2, c3, c1⟩, rfl⟩, fun k => ?_⟩
    · by_cases hk : k < 64
      · exact tb_all _ (by omega) k hk
      · rw [tb_big (by omega), decide_eq_false (by omega)]
    · rw [qX0_lay_42, if_pos (nI_le (Nat.le_refl _) (by omega))]
theorem c_lay0 {dr : PlS} : EX0_lay [.ref 30, .int 0, .int 0] (CH mz tp tk rd hi sc pl dr wa wb rc) = some (CH mz tp tk rd hi sc pl ((dr.1.1, 0, 0, 0, bitL 0 - 1, 0, 0), dr.2) wa wb rc) := by
  rw [eX0_lay_s, qX0_lay_0]
  refine lp_run (fun _ => [(0, .ref 30), (1, .int 0), (2, .int 0), (3, .int 0)]) (fun _ => CH mz tp tk rd hi sc pl ((dr.1.1, 0, 0, 0, bitL 0 - 1, 0, 0), dr.2) wa wb rc) (t := 0) (by have := FU_ge; omega) (fun j hj => by omega) (fun k => ?_)
  rw [qX0_lay_42, if_pos (by decide)]
theorem c_empty {dr : PlS} : EX3_empty [.ref 29] (CH mz tp tk rd hi sc pl dr wa wb rc) = some (CH mz tp tk rd hi sc pl ((dr.1.1, 0, 0, 0, bitL 0 - 1, 0, 0), ((0, 0, 0), (0, 0, 0), (0, 0, 0)), dr.2.2.1, dr.2.2.2.1, (dr.2.2.2.2.1, dr.2.2.2.2.2.1, dr.2.2.2.2.2.2.1, 0, 0, (-2), 0, 0)) wa wb rc) := by
  rw [eX3_empty_s, qX3_empty_0, qX3_empty_6 (h := c_lay0)]
end
