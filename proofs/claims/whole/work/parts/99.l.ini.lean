/-! The two makers. -/
def vEq (v u : Value) : Bool := match v, u with
  | .int x, .int y => decide (x = y)
  | .long x, .long y => decide (x = y)
  | .ref x, .ref y => Nat.beq x y
  | .null, .null => true
  | _, _ => false
def lEq : List Value → List Value → Bool
  | [], [] => true
  | v :: r, u :: s => vEq v u && lEq r s
  | _, _ => false
def cEq (x y : AE) : Bool := match x, y with
  | .inl (k, n, .inl _), .inl (k2, n2, .inl _) => Nat.beq k k2 && Nat.beq n n2
  | .inl (k, n, .inr (.inl _)), .inl (k2, n2, .inr (.inl _)) => Nat.beq k k2 && Nat.beq n n2
  | .inl (k, n, .inr (.inr (.inr (.inr f)))), .inl (k2, n2, .inr (.inr (.inr (.inr g)))) => Nat.beq k k2 && (Nat.beq n n2 && (List.range n).all (fun j => decide (f j = g j)))
  | .inr (c, fs), .inr (d, gs) => Nat.beq c d && lEq fs gs
  | _, _ => false
def hEq : HP → HP → Bool
  | [], [] => true
  | x :: r, y :: s => cEq x y && hEq r s
  | _, _ => false
theorem vEq_of {v u : Value} (h : vEq v u = true) : v = u := by
  cases v <;> cases u <;> first | rfl | (cases h; done) | skip
  · exact congrArg Value.int (of_decide_eq_true h)
  · exact congrArg Value.long (of_decide_eq_true h)
  · exact congrArg Value.ref (Nat.eq_of_beq_eq_true h)
theorem lEq_of : ∀ {a b : List Value}, lEq a b = true → a = b
  | [], [], _ => rfl
  | v :: r, u :: s, h => by
    have h : (vEq v u && lEq r s) = true := h
    rw [Bool.and_eq_true] at h
    rw [vEq_of h.1, lEq_of h.2]
  | [], _ :: _, h => nomatch h
  | _ :: _, [], h => nomatch h
theorem hEq_at : ∀ {a b : HP}, hEq a b = true → ∀ (i : Nat) (x : AE), b[i]? = some x → ∃ y, a[i]? = some y ∧ cEq y x = true
  | [], [], _, i, x, hx => by simp at hx
  | z :: r, w :: s, h, 0, x, hx => by
    have h : (cEq z w && hEq r s) = true := h
    rw [Bool.and_eq_true] at h
    cases hx
    exact ⟨z, rfl, h.1⟩
  | z :: r, w :: s, h, i + 1, x, hx => by
    have h : (cEq z w && hEq r s) = true := h
    rw [Bool.and_eq_true] at h
    exact hEq_at h.2 i x hx
  | [], _ :: _, h, _, _, _ => nomatch h
  | _ :: _, [], h, _, _, _ => nomatch h
def gI (hp : HP) (k : Nat) : Nat → Int32 := match hp[k]? with
  | some (.inl (_, _, .inl f)) => f
  | _ => fun _ => 0
def gJ (hp : HP) (k : Nat) : Nat → Int64 := match hp[k]? with
  | some (.inl (_, _, .inr (.inl f))) => f
  | _ => fun _ => 0
theorem cO {hp t : HP} (h : hEq hp t = true) {i c : Nat} {fs : List Value} (hx : t[i]? = some (.inr (c, fs))) : hp[i]? = some (.inr (c, fs)) := by
  obtain ⟨y, h1, h2⟩ := hEq_at h i _ hx
  rw [h1]
  match y, h2 with
  | .inr (d, gs), h2 =>
    have h2 : (Nat.beq d c && lEq gs fs) = true := h2
    rw [Bool.and_eq_true] at h2
    rw [Nat.eq_of_beq_eq_true h2.1, lEq_of h2.2]
  | .inl (k, n, .inl f), h2 => cases h2
  | .inl (k, n, .inr (.inl f)), h2 => cases h2
  | .inl (k, n, .inr (.inr (.inl f))), h2 => cases h2
  | .inl (k, n, .inr (.inr (.inr (.inl f)))), h2 => cases h2
  | .inl (k, n, .inr (.inr (.inr (.inr f)))), h2 => cases h2
theorem cI {hp t : HP} (h : hEq hp t = true) {i k n : Nat} {f : Nat → Int32} (hx : t[i]? = some (.inl (k, n, .inl f))) : hp[i]? = some (.inl (k, n, .inl (gI hp i))) := by
  obtain ⟨y, h1, h2⟩ := hEq_at h i _ hx
  unfold gI
  rw [h1]
  match y, h2 with
  | .inr (d, gs), h2 => cases h2
  | .inl (k2, n2, .inl f2), h2 =>
    have h2 : (Nat.beq k2 k && Nat.beq n2 n) = true := h2
    rw [Bool.and_eq_true] at h2
    rw [Nat.eq_of_beq_eq_true h2.1, Nat.eq_of_beq_eq_true h2.2]
  | .inl (k, n, .inr (.inl f)), h2 => cases h2
  | .inl (k, n, .inr (.inr (.inl f))), h2 => cases h2
  | .inl (k, n, .inr (.inr (.inr (.inl f)))), h2 => cases h2
  | .inl (k, n, .inr (.inr (.inr (.inr f)))), h2 => cases h2
theorem cJ {hp t : HP} (h : hEq hp t = true) {i k n : Nat} {f : Nat → Int64} (hx : t[i]? = some (.inl (k, n, .inr (.inl f)))) : hp[i]? = some (.inl (k, n, .inr (.inl (gJ hp i)))) := by
  obtain ⟨y, h1, h2⟩ := hEq_at h i _ hx
  unfold gJ
  rw [h1]
  match y, h2 with
  | .inr (d, gs), h2 => cases h2
  | .inl (k, n, .inl f), h2 => cases h2
  | .inl (k2, n2, .inr (.inl f2)), h2 =>
    have h2 : (Nat.beq k2 k && Nat.beq n2 n) = true := h2
    rw [Bool.and_eq_true] at h2
    rw [Nat.eq_of_beq_eq_true h2.1, Nat.eq_of_beq_eq_true h2.2]
  | .inl (k, n, .inr (.inr (.inl f))), h2 => cases h2
  | .inl (k, n, .inr (.inr (.inr (.inl f)))), h2 => cases h2
  | .inl (k, n, .inr (.inr (.inr (.inr f)))), h2 => cases h2
theorem cQ {hp t : HP} (h : hEq hp t = true) {i k n : Nat} {f : Nat → Option Nat} (hx : t[i]? = some (.inl (k, n, .inr (.inr (.inr (.inr f)))))) : ∃ g, hp[i]? = some (.inl (k, n, .inr (.inr (.inr (.inr g))))) ∧ ∀ (cy ad : Nat → Nat), re cy ad (.inl (k, n, .inr (.inr (.inr (.inr f))))) = re cy ad (.inl (k, n, .inr (.inr (.inr (.inr g))))) := by
  obtain ⟨y, h1, h2⟩ := hEq_at h i _ hx
  match y, h2 with
  | .inr (d, gs), h2 => cases h2
  | .inl (k, n, .inl f), h2 => cases h2
  | .inl (k, n, .inr (.inl f)), h2 => cases h2
  | .inl (k, n, .inr (.inr (.inl f))), h2 => cases h2
  | .inl (k, n, .inr (.inr (.inr (.inl f)))), h2 => cases h2
  | .inl (k2, n2, .inr (.inr (.inr (.inr g)))), h2 =>
    have h2 : (Nat.beq k2 k && (Nat.beq n2 n && (List.range n2).all (fun j => decide (g j = f j)))) = true := h2
    rw [Bool.and_eq_true, Bool.and_eq_true] at h2
    have e1 := Nat.eq_of_beq_eq_true h2.1
    have e2 := Nat.eq_of_beq_eq_true h2.2.1
    subst e1
    subst e2
    refine ⟨g, h1, fun cy ad => ?_⟩
    refine congrArg (fun f => (Sum.inl (cy k2, n2, .inr (.inr (.inr (.inr f)))) : va_E)) (funext fun j => ?_)
    by_cases hj : j < n2
    · rw [if_pos hj, if_pos hj, of_decide_eq_true (List.all_eq_true.mp h2.2.2 j (List.mem_range.mpr hj))]
    · rw [if_neg hj, if_neg hj]
theorem ren_at {hp : HP} {i : Nat} {x a : AE} (ha : some a = some x) (hy : hp[i]? = some a) : ∃ y, hp[id i]? = some y ∧ ∀ (cy ad : Nat → Nat), re cy (fun n => ad (id n)) x = re cy ad y := by
  cases ha
  exact ⟨_, hy, fun _ _ => rfl⟩
abbrev zF : Nat → Int32 := fun _ => 0
abbrev zG : Nat → Int64 := fun _ => 0
abbrev pl0 (a b c d : Nat → Int32) : PlS := ((a, 0, 0, 0, 0, 0, 0), ((0, 0, 0), (0, 0, 0), (0, 0, 0)), (b, c, d), (fun _ => (0, 0, 0, 0, 0)), (0, 0, 0, 0, 0, -2, 0, 0))
abbrev wa0 (a b c : Nat → Int32) : WaS := ((a, b, c), (14, 24), (0, 0, 0, 0, 0, 0, 0))
def CH00 : HP := CH (0, 0, 0, 0, 0, 0) (zF, 0) (0, 0, 0, 0, 0, 0) (0, 0, 0, 0, 0) (zG, zF, zG, zF, 0, 0) (zF, zF, zF) (pl0 zF zF zF zF) (pl0 zF zF zF zF) (wa0 zF zF zF) (wa0 zF zF zF) zF
def CH01 (h : HP) : HP := CH (0, 0, 0, 0, 0, 0) (gI h 2, 0) (0, 0, 0, 0, 0, 0) (0, 0, 0, 0, 0) (gJ h 6, gI h 7, gJ h 8, gI h 9, 0, 0) (gI h 11, gI h 12, gI h 13) (pl0 (gI h 16) (gI h 20) (gI h 21) (gI h 22)) (pl0 (gI h 31) (gI h 35) (gI h 36) (gI h 37)) (wa0 (gI h 45) (gI h 46) (gI h 47)) (wa0 (gI h 49) (gI h 50) (gI h 51)) (gI h 52)
theorem ren_CH {h : HP} (hE : hEq h CH00 = true) : Ren h (CH01 h) := by
  refine ⟨id, Nat.le_of_ble_eq_true rfl, rfl, fun _ _ => rfl, fun _ _ _ _ e => e, fun i x hx => ?_⟩
  match i, hx with
  | 0, hx => exact ren_at hx (cO hE (i := 0) rfl)
  | 1, hx => exact ren_at hx (cO hE (i := 1) rfl)
  | 2, hx => exact ren_at hx (cI hE (i := 2) rfl)
  | 3, hx => exact ren_at hx (cO hE (i := 3) rfl)
  | 4, hx => exact ren_at hx (cO hE (i := 4) rfl)
  | 5, hx => exact ren_at hx (cO hE (i := 5) rfl)
  | 6, hx => exact ren_at hx (cJ hE (i := 6) rfl)
  | 7, hx => exact ren_at hx (cI hE (i := 7) rfl)
  | 8, hx => exact ren_at hx (cJ hE (i := 8) rfl)
  | 9, hx => exact ren_at hx (cI hE (i := 9) rfl)
  | 10, hx => exact ren_at hx (cO hE (i := 10) rfl)
  | 11, hx => exact ren_at hx (cI hE (i := 11) rfl)
  | 12, hx => exact ren_at hx (cI hE (i := 12) rfl)
  | 13, hx => exact ren_at hx (cI hE (i := 13) rfl)
  | 14, hx => exact ren_at hx (cO hE (i := 14) rfl)
  | 15, hx => exact ren_at hx (cO hE (i := 15) rfl)
  | 16, hx => exact ren_at hx (cI hE (i := 16) rfl)
  | 17, hx => exact ren_at hx (cO hE (i := 17) rfl)
  | 18, hx => exact ren_at hx (cO hE (i := 18) rfl)
  | 19, hx => exact ren_at hx (cO hE (i := 19) rfl)
  | 20, hx => exact ren_at hx (cI hE (i := 20) rfl)
  | 21, hx => exact ren_at hx (cI hE (i := 21) rfl)
  | 22, hx => exact ren_at hx (cI hE (i := 22) rfl)
  | 23, hx =>
    obtain ⟨g, g1, g2⟩ := cQ hE (i := 23) rfl
    cases hx
    exact ⟨_, g1, g2⟩
  | 24, hx => exact ren_at hx (cO hE (i := 24) rfl)
  | 25, hx => exact ren_at hx (cO hE (i := 25) rfl)
  | 26, hx => exact ren_at hx (cO hE (i := 26) rfl)
  | 27, hx => exact ren_at hx (cO hE (i := 27) rfl)
  | 28, hx => exact ren_at hx (cO hE (i := 28) rfl)
  | 29, hx => exact ren_at hx (cO hE (i := 29) rfl)
  | 30, hx => exact ren_at hx (cO hE (i := 30) rfl)
  | 31, hx => exact ren_at hx (cI hE (i := 31) rfl)
  | 32, hx => exact ren_at hx (cO hE (i := 32) rfl)
  | 33, hx => exact ren_at hx (cO hE (i := 33) rfl)
  | 34, hx => exact ren_at hx (cO hE (i := 34) rfl)
  | 35, hx => exact ren_at hx (cI hE (i := 35) rfl)
  | 36, hx => exact ren_at hx (cI hE (i := 36) rfl)
  | 37, hx => exact ren_at hx (cI hE (i := 37) rfl)
  | 38, hx =>
    obtain ⟨g, g1, g2⟩ := cQ hE (i := 38) rfl
    cases hx
    exact ⟨_, g1, g2⟩
  | 39, hx => exact ren_at hx (cO hE (i := 39) rfl)
  | 40, hx => exact ren_at hx (cO hE (i := 40) rfl)
  | 41, hx => exact ren_at hx (cO hE (i := 41) rfl)
  | 42, hx => exact ren_at hx (cO hE (i := 42) rfl)
  | 43, hx => exact ren_at hx (cO hE (i := 43) rfl)
  | 44, hx => exact ren_at hx (cO hE (i := 44) rfl)
  | 45, hx => exact ren_at hx (cI hE (i := 45) rfl)
  | 46, hx => exact ren_at hx (cI hE (i := 46) rfl)
  | 47, hx => exact ren_at hx (cI hE (i := 47) rfl)
  | 48, hx => exact ren_at hx (cO hE (i := 48) rfl)
  | 49, hx => exact ren_at hx (cI hE (i := 49) rfl)
  | 50, hx => exact ren_at hx (cI hE (i := 50) rfl)
  | 51, hx => exact ren_at hx (cI hE (i := 51) rfl)
  | 52, hx => exact ren_at hx (cI hE (i := 52) rfl)
  | n + 53, hx => exact nomatch (show (none : Option AE) = some x from hx)
def M00 : HP := M0 (0, 0, -1, 0, 0, 0, 0, 0, 0) ((0, 0, 0, 0, 0, 0, 0, 0), (0, 0, 0), (0, 0, 0, 0, 0, 0)) (zF, zF, zF, zF, zF, zF, zF, zF, zF, zF, zF, zG, zG, zF, zF) .null
def M01 (h : HP) : HP := M0 (0, 0, -1, 0, 0, 0, 0, 0, 0) ((0, 0, 0, 0, 0, 0, 0, 0), (0, 0, 0), (0, 0, 0, 0, 0, 0)) (gI h 1, gI h 2, gI h 3, gI h 4, gI h 5, gI h 6, gI h 7, gI h 8, gI h 9, gI h 10, gI h 11, gJ h 12, gJ h 13, gI h 14, gI h 15) .null
theorem ren_M {h : HP} (hE : hEq h M00 = true) : Ren h (M01 h) := by
  refine ⟨id, Nat.le_of_ble_eq_true rfl, rfl, fun _ _ => rfl, fun _ _ _ _ e => e, fun i x hx => ?_⟩
  match i, hx with
  | 0, hx => exact ren_at hx (cO hE (i := 0) rfl)
  | 1, hx => exact ren_at hx (cI hE (i := 1) rfl)
  | 2, hx => exact ren_at hx (cI hE (i := 2) rfl)
  | 3, hx => exact ren_at hx (cI hE (i := 3) rfl)
  | 4, hx => exact ren_at hx (cI hE (i := 4) rfl)
  | 5, hx => exact ren_at hx (cI hE (i := 5) rfl)
  | 6, hx => exact ren_at hx (cI hE (i := 6) rfl)
  | 7, hx => exact ren_at hx (cI hE (i := 7) rfl)
  | 8, hx => exact ren_at hx (cI hE (i := 8) rfl)
  | 9, hx => exact ren_at hx (cI hE (i := 9) rfl)
  | 10, hx => exact ren_at hx (cI hE (i := 10) rfl)
  | 11, hx => exact ren_at hx (cI hE (i := 11) rfl)
  | 12, hx => exact ren_at hx (cJ hE (i := 12) rfl)
  | 13, hx => exact ren_at hx (cJ hE (i := 13) rfl)
  | 14, hx => exact ren_at hx (cI hE (i := 14) rfl)
  | 15, hx => exact ren_at hx (cI hE (i := 15) rfl)
  | n + 16, hx => exact nomatch (show (none : Option AE) = some x from hx)
def okE (r : Option HP) (t : HP) : Bool := match r with
  | some h => hEq h t
  | none => false
theorem okE_of {r : Option HP} {t : HP} (h : okE r t = true) : ∃ x, r = some x ∧ hEq x t = true := by
  cases r with
  | none => cases h
  | some x => exact ⟨x, rfl, h⟩
set_option maxRecDepth 100000 in
theorem ini_c : okE (EX10_init [.ref 0] hcN) CH00 = true := by decide +kernel
set_option maxRecDepth 100000 in
theorem ini_m : okE (EX12_init [.ref 0] hmN) M00 = true := by decide +kernel
theorem ini_both : ∃ hc0 hm0 hc2 hm2, EX10_init [.ref 0] hcN = some hc0 ∧ EX12_init [.ref 0] hmN = some hm0 ∧ Ren hc0 hc2 ∧ Ren hm0 hm2 ∧ Inv3 hc2 hm2 := by
  obtain ⟨hc0, a1, a2⟩ := okE_of ini_c
  obtain ⟨hm0, b1, b2⟩ := okE_of ini_m
  exact ⟨hc0, hm0, CH01 hc0, M01 hm0, a1, b1, ren_CH a2, ren_M b2, Or.inl ⟨0, 0, 0, 0, 0, _, _, _, _, _, _, _, _, _, _, 0, -1, 0, 0, 0, _, _, _, rfl, rfl, TpRel.nil _ _, rfl, rfl, rfl⟩, _, _, rfl, rfl, trivial⟩
