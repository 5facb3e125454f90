/-! Levels of steps from a set, and ways. -/
def FR (g : GrS) (m f : Int64) : Nat → Int64 × Int64
  | 0 => (f, f)
  | k + 1 => (((besd g (FR g m f k).1) &&& m) &&& ((FR g m f k).2 ^^^ (-1)), (FR g m f k).2 ||| (((besd g (FR g m f k).1) &&& m) &&& ((FR g m f k).2 ^^^ (-1))))
def Cs (w h : Nat) (m : Int64) (c : Nat) : Nat → Nat → Prop
  | 0 => fun d => d = c ∧ tb m c = true
  | n + 1 => fun d => ∃ e, Cs w h m c n e ∧ adj w h e d ∧ tb m d = true
def Cn (w h : Nat) (m : Int64) (c d : Nat) : Prop := ∃ n, Cs w h m c n d
theorem Cn.rf {w h : Nat} {m : Int64} {c : Nat} (hc : tb m c = true) : Cn w h m c c := ⟨0, rfl, hc⟩
theorem Cn.st {w h : Nat} {m : Int64} {c d e : Nat} (p : Cn w h m c d) (a : adj w h d e) (b : tb m e = true) : Cn w h m c e := by
  obtain ⟨n, p⟩ := p
  exact ⟨n + 1, d, p, a, b⟩
theorem Cn.ind {w h : Nat} {m : Int64} {c d : Nat} {P : Nat → Prop} (p : Cn w h m c d) (h0 : tb m c = true → P c) (hs : ∀ d e, Cn w h m c d → P d → adj w h d e → tb m e = true → P e) : P d := by
  obtain ⟨n, p⟩ := p
  induction n generalizing d with
  | zero => obtain ⟨rfl, hc⟩ := p; exact h0 hc
  | succ n ih =>
    obtain ⟨e, p, a, b⟩ := p
    exact hs e d ⟨n, p⟩ (ih p) a b
section
variable {g : GrS} {w h : Nat} {m : Int64} {f : Int64}
theorem FR_succ1 (k d : Nat) : tb (FR g m f (k + 1)).1 d = ((tb (besd g (FR g m f k).1) d && tb m d) && !tb (FR g m f k).2 d) := by
  show tb (((besd g (FR g m f k).1) &&& m) &&& ((FR g m f k).2 ^^^ (-1))) d = _
  rw [tb_andnot, tb_and]
theorem FR_succ2 (k d : Nat) : tb (FR g m f (k + 1)).2 d = (tb (FR g m f k).2 d || tb (FR g m f (k + 1)).1 d) := tb_or _ _ _
theorem FR_pass (k d : Nat) : tb (FR g m f k).2 d = true ↔ ∃ j, j ≤ k ∧ tb (FR g m f j).1 d = true := by
  induction k with
  | zero =>
    constructor
    · intro h; exact ⟨0, by omega, h⟩
    · rintro ⟨j, h1, h2⟩
      obtain rfl : j = 0 := by omega
      exact h2
  | succ k ih =>
    rw [FR_succ2, Bool.or_eq_true, ih]
    constructor
    · rintro (⟨j, h1, h2⟩ | h2)
      · exact ⟨j, by omega, h2⟩
      · exact ⟨k + 1, by omega, h2⟩
    · rintro ⟨j, h1, h2⟩
      by_cases hj : j = k + 1
      · subst hj; exact Or.inr h2
      · exact Or.inl ⟨j, by omega, h2⟩
theorem FR_one {j k d : Nat} (h1 : tb (FR g m f j).1 d = true) (h2 : tb (FR g m f k).1 d = true) : j = k := by
  have : ∀ j k, j < k → tb (FR g m f j).1 d = true → tb (FR g m f k).1 d = true → False := by
    intro j k hjk h1 h2
    obtain ⟨k, rfl⟩ : ∃ q, k = q + 1 := ⟨k - 1, by omega⟩
    rw [FR_succ1, Bool.and_eq_true] at h2
    have h3 := (FR_pass (g := g) (m := m) (f := f) k d).mpr ⟨j, by omega, h1⟩
    rw [h3] at h2
    simp at h2
  rcases Nat.lt_trichotomy j k with h | h | h
  · exact (this j k h h1 h2).elim
  · exact h
  · exact (this k j h h2 h1).elim
theorem FR_in (hf : ∀ k, tb f k = true → tb m k = true) {k d : Nat} (h1 : tb (FR g m f k).1 d = true) : tb m d = true := by
  cases k with
  | zero => exact hf d h1
  | succ k =>
    rw [FR_succ1, Bool.and_eq_true, Bool.and_eq_true] at h1
    exact h1.1.2
theorem FR_Sub (hm : Sub m (w * h)) (hf : ∀ k, tb f k = true → tb m k = true) (k : Nat) : Sub (FR g m f k).1 (w * h) := fun d hd => hm d (FR_in hf hd)
theorem FR_succ (H : WH w h) (G : GrOK g w h) (hm : Sub m (w * h)) (hf : ∀ k, tb f k = true → tb m k = true) (k d : Nat) : tb (FR g m f (k + 1)).1 d = true ↔ (∃ c, adj w h d c ∧ tb (FR g m f k).1 c = true) ∧ tb m d = true ∧ ∀ j, j ≤ k → tb (FR g m f j).1 d = false := by
  rw [FR_succ1, Bool.and_eq_true, Bool.and_eq_true, besd_iff H G (FR_Sub hm hf k)]
  constructor
  · rintro ⟨⟨⟨h1, h2⟩, h3⟩, h4⟩
    refine ⟨h2, h3, fun j hj => ?_⟩
    cases h5 : tb (FR g m f j).1 d
    · rfl
    · have := (FR_pass (g := g) (m := m) (f := f) k d).mpr ⟨j, hj, h5⟩
      rw [this] at h4
      cases h4
  · rintro ⟨h2, h3, h4⟩
    refine ⟨⟨⟨hm d h3, h2⟩, h3⟩, ?_⟩
    cases h5 : tb (FR g m f k).2 d
    · rfl
    · obtain ⟨j, hj, h6⟩ := (FR_pass (g := g) (m := m) (f := f) k d).mp h5
      rw [h4 j hj] at h6
      cases h6
theorem FR_down (H : WH w h) (G : GrOK g w h) (hm : Sub m (w * h)) (hf : ∀ k, tb f k = true → tb m k = true) {k d : Nat} (h1 : tb (FR g m f k).1 d = true) : ∀ j, j ≤ k → ∃ e, tb (FR g m f j).1 e = true := by
  induction k generalizing d with
  | zero => intro j hj; obtain rfl : j = 0 := by omega
            exact ⟨d, h1⟩
  | succ k ih =>
    intro j hj
    by_cases e : j = k + 1
    · subst e; exact ⟨d, h1⟩
    · obtain ⟨⟨c, _, hc⟩, _⟩ := (FR_succ H G hm hf k d).mp h1
      exact ih hc j (by omega)
theorem FR_lt (H : WH w h) (G : GrOK g w h) (hm : Sub m (w * h)) (hf : ∀ k, tb f k = true → tb m k = true) {k d : Nat} (h1 : tb (FR g m f k).1 d = true) : k < 48 := by
  have h2 := FR_down H G hm hf h1
  have h3 : ∀ j, ∃ e, j ≤ k → tb (FR g m f j).1 e = true := fun j => by
    by_cases hj : j ≤ k
    · obtain ⟨e, he⟩ := h2 j hj
      exact ⟨e, fun _ => he⟩
    · exact ⟨0, fun h => absurd h hj⟩
  have h4 := fb_holes (w * h) (k + 1) (fun j => (h3 j).choose) (fun i hi => hm _ (FR_in hf ((h3 i).choose_spec (by omega)))) (fun i j hij hj e => by
    have a1 := (h3 i).choose_spec (by omega)
    have a2 := (h3 j).choose_spec (by omega)
    have e : (h3 i).choose = (h3 j).choose := e
    rw [← e] at a2
    have := FR_one a1 a2
    omega)
  have := H.n
  omega
theorem FR_end (H : WH w h) (G : GrOK g w h) (hm : Sub m (w * h)) (hf : ∀ k, tb f k = true → tb m k = true) {k : Nat} (hk : 48 ≤ k) : (FR g m f k).1 = 0 := tb_ext (fun d _ => by
  rw [tb_0]
  cases h1 : tb (FR g m f k).1 d
  · rfl
  · have := FR_lt H G hm hf h1
    omega)
theorem FR_zero (H : WH w h) (G : GrOK g w h) (hm : Sub m (w * h)) (hf : ∀ k, tb f k = true → tb m k = true) {k : Nat} (h0 : (FR g m f k).1 = 0) {j : Nat} (hj : k ≤ j) : (FR g m f j).1 = 0 := tb_ext (fun d _ => by
  rw [tb_0]
  cases h1 : tb (FR g m f j).1 d
  · rfl
  · obtain ⟨e, he⟩ := FR_down H G hm hf h1 k hj
    rw [h0, tb_0] at he
    cases he)
theorem FR_stay (H : WH w h) (G : GrOK g w h) (hm : Sub m (w * h)) (hf : ∀ k, tb f k = true → tb m k = true) {k : Nat} (h0 : (FR g m f k).1 = 0) {j : Nat} (hj : k ≤ j) : (FR g m f j).2 = (FR g m f k).2 := tb_ext (fun d _ => by
  have : tb (FR g m f j).2 d = true ↔ tb (FR g m f k).2 d = true := by
    rw [FR_pass, FR_pass]
    constructor
    · rintro ⟨i, h1, h2⟩
      by_cases hi : i ≤ k
      · exact ⟨i, hi, h2⟩
      · rw [FR_zero H G hm hf h0 (by omega), tb_0] at h2
        cases h2
    · rintro ⟨i, h1, h2⟩
      exact ⟨i, by omega, h2⟩
  cases h1 : tb (FR g m f j).2 d <;> cases h2 : tb (FR g m f k).2 d <;> simp_all)
theorem Cn_lt (hm : Sub m (w * h)) {c d : Nat} (hc : c < w * h) (p : Cn w h m c d) : d < w * h := by
  exact p.ind (P := fun d => d < w * h) (fun _ => hc) (fun _ _ _ _ _ h3 => hm _ h3)
theorem Cn_l {c d : Nat} (p : Cn w h m c d) : tb m c = true := by
  exact p.ind (P := fun _ => tb m c = true) id (fun _ _ _ ih _ _ => ih)
theorem Cn_r {c d : Nat} (p : Cn w h m c d) : tb m d = true := by
  exact p.ind (P := fun d => tb m d = true) id (fun _ _ _ _ _ h3 => h3)
theorem Cn_trans {c d e : Nat} (p : Cn w h m c d) (q : Cn w h m d e) : Cn w h m c e := by
  exact q.ind (P := fun e => Cn w h m c e) (fun _ => p) (fun _ _ _ ih a b => .st ih a b)
theorem Cn_symm (H : WH w h) (hm : Sub m (w * h)) {c d : Nat} (p : Cn w h m c d) : Cn w h m d c := by
  exact p.ind (P := fun d => Cn w h m d c) (fun h1 => .rf h1) (fun _ _ p ih a b => Cn_trans (.st (.rf b) (adj_symm H (hm _ (Cn_r p)) (hm _ b) a) (Cn_r p)) ih)
theorem FR_Cn (H : WH w h) (G : GrOK g w h) (hm : Sub m (w * h)) (hf : ∀ k, tb f k = true → tb m k = true) (d : Nat) : (∃ k, tb (FR g m f k).1 d = true) ↔ ∃ e, tb f e = true ∧ Cn w h m e d := by
  constructor
  · rintro ⟨k, hk⟩
    induction k generalizing d with
    | zero => exact ⟨d, hk, .rf (hf d hk)⟩
    | succ k ih =>
      obtain ⟨⟨c, ha, hc⟩, hd, _⟩ := (FR_succ H G hm hf k d).mp hk
      obtain ⟨e, h1, h2⟩ := ih c hc
      exact ⟨e, h1, .st h2 (adj_symm H (hm _ hd) (hm _ (Cn_r h2)) ha) hd⟩
  · rintro ⟨e, h1, p⟩
    refine p.ind (P := fun d => ∃ k, tb (FR g m f k).1 d = true) (fun _ => ⟨0, h1⟩) (fun c d p ih a b => ?_)
    · obtain ⟨k, hk⟩ := ih
      by_cases h5 : ∃ j, j ≤ k ∧ tb (FR g m f j).1 d = true
      · obtain ⟨j, _, hj⟩ := h5
        exact ⟨j, hj⟩
      · refine ⟨k + 1, (FR_succ H G hm hf k d).mpr ⟨⟨c, adj_symm H (hm _ (Cn_r p)) (hm _ b) a, hk⟩, b, fun j hj => ?_⟩⟩
        cases h6 : tb (FR g m f j).1 d
        · rfl
        · exact absurd ⟨j, hj, h6⟩ h5
/-- what a flood reaches -/
abbrev FL (g : GrS) (m f : Int64) : Int64 := (FR g m f 48).2
theorem FL_iff (H : WH w h) (G : GrOK g w h) (hm : Sub m (w * h)) (hf : ∀ k, tb f k = true → tb m k = true) (d : Nat) : tb (FL g m f) d = true ↔ ∃ e, tb f e = true ∧ Cn w h m e d := by
  rw [FR_pass, ← FR_Cn H G hm hf]
  constructor
  · rintro ⟨j, _, h1⟩; exact ⟨j, h1⟩
  · rintro ⟨j, h1⟩; exact ⟨j, by have := FR_lt H G hm hf h1; omega, h1⟩
/-- how many steps -/
def dst (g : GrS) (m f : Int64) (d : Nat) : Option Nat := (List.range 48).find? (fun k => tb (FR g m f k).1 d)
theorem dst_some (H : WH w h) (G : GrOK g w h) (hm : Sub m (w * h)) (hf : ∀ k, tb f k = true → tb m k = true) {d k : Nat} : dst g m f d = some k ↔ tb (FR g m f k).1 d = true := by
  constructor
  · intro e
    exact List.find?_some (p := fun k => tb (FR g m f k).1 d) e
  · intro e
    have hk := FR_lt H G hm hf e
    cases hc : dst g m f d with
    | none =>
      have := List.find?_eq_none.mp hc k (List.mem_range.mpr hk)
      simp [e] at this
    | some j =>
      have : tb (FR g m f j).1 d = true := List.find?_some (p := fun k => tb (FR g m f k).1 d) hc
      rw [FR_one this e]
theorem dst_none (H : WH w h) (G : GrOK g w h) (hm : Sub m (w * h)) (hf : ∀ k, tb f k = true → tb m k = true) {d : Nat} : dst g m f d = none ↔ ∀ k, tb (FR g m f k).1 d = false := by
  constructor
  · intro e k
    cases h1 : tb (FR g m f k).1 d
    · rfl
    · rw [(dst_some H G hm hf).mpr h1] at e; cases e
  · intro e
    cases hc : dst g m f d with
    | none => rfl
    | some j =>
      have := (dst_some H G hm hf).mp hc
      rw [e j] at this; cases this
theorem dst_lt (H : WH w h) (G : GrOK g w h) (hm : Sub m (w * h)) (hf : ∀ k, tb f k = true → tb m k = true) {d k : Nat} (e : dst g m f d = some k) : k < 48 := FR_lt H G hm hf ((dst_some H G hm hf).mp e)
/-- any answer that goes as levels go is the levels' -/
theorem dst_of {L : Nat → Option Nat} (H : WH w h) (G : GrOK g w h) (hm : Sub m (w * h)) (hf : ∀ k, tb f k = true → tb m k = true) (h0 : ∀ d, L d = some 0 ↔ tb f d = true) (h1 : ∀ d k, L d = some (k + 1) → tb m d = true ∧ ∃ c, adj w h d c ∧ L c = some k) (h2 : ∀ c d k, L c = some k → adj w h d c → tb m d = true → ∃ j, j ≤ k + 1 ∧ L d = some j) (d : Nat) : L d = dst g m f d := by
  have key : ∀ k d, L d = some k ↔ tb (FR g m f k).1 d = true := by
    intro k
    induction k using Nat.strongRecOn with
    | _ k ih =>
      intro d
      cases k with
      | zero => exact h0 d
      | succ k =>
        rw [FR_succ H G hm hf]
        constructor
        · intro e
          obtain ⟨a, c, b, hc⟩ := h1 d k e
          refine ⟨⟨c, b, (ih k (by omega) c).mp hc⟩, a, fun j hj => ?_⟩
          cases h3 : tb (FR g m f j).1 d
          · rfl
          · have := (ih j (by omega) d).mpr h3
            rw [e] at this
            have := Option.some.inj this
            omega
        · rintro ⟨⟨c, a, hc⟩, b, hj⟩
          obtain ⟨j, h4, h5⟩ := h2 c d k ((ih k (by omega) c).mpr hc) a b
          by_cases h6 : j = k + 1
          · rw [h5, h6]
          · have := (ih j (by omega) d).mp h5
            rw [hj j (by omega)] at this
            cases this
  cases hL : L d with
  | none =>
    refine ((dst_none H G hm hf).mpr fun k => ?_).symm
    cases h3 : tb (FR g m f k).1 d
    · rfl
    · rw [(key k d).mpr h3] at hL; cases hL
  | some k => exact ((dst_some H G hm hf).mpr ((key k d).mp hL)).symm
/-- a set that nothing leads out of -/
theorem FR_part {l : Int64} (H : WH w h) (G : GrOK g w h) (hm : Sub m (w * h)) (hl : ∀ k, tb l k = true → tb m k = true) (hcl : ∀ c d, tb l c = true → adj w h d c → tb m d = true → tb l d = true) (hf : ∀ k, tb f k = true → tb l k = true) (k : Nat) : FR g l f k = FR g m f k := by
  induction k with
  | zero => rfl
  | succ k ih =>
    have hs : Sub (FR g l f k).1 (w * h) := fun d hd => hm d (hl d (FR_in hf hd))
    have e : (besd g (FR g l f k).1) &&& l = (besd g (FR g l f k).1) &&& m := tb_ext (fun d _ => by
      rw [tb_and, tb_and]
      cases h1 : tb (besd g (FR g l f k).1) d
      · rfl
      · obtain ⟨_, c, a, hc⟩ := (besd_iff H G hs d).mp h1
        have hc := FR_in hf hc
        cases h2 : tb m d
        · cases h3 : tb l d
          · rfl
          · rw [hl d h3] at h2; cases h2
        · rw [hcl c d hc a h2])
    show (((besd g (FR g l f k).1) &&& l) &&& ((FR g l f k).2 ^^^ (-1)), (FR g l f k).2 ||| (((besd g (FR g l f k).1) &&& l) &&& ((FR g l f k).2 ^^^ (-1)))) = _
    rw [e, ih]
    rfl
end
