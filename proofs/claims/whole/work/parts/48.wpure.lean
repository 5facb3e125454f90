/-! Walkers: how they go, as functions. -/
abbrev PS : Type := Nat × Nat × Nat × Int64 × (Nat → Nat)
def mto (w h : Nat) (m : Int64) (c s : Nat) : Option Nat := (nb w h c s).bind (fun d => if tb m d = true then some d else none)
theorem mto_some {w h : Nat} {m : Int64} {c s d : Nat} (e : mto w h m c s = some d) : nb w h c s = some d ∧ tb m d = true := by
  unfold mto at e
  cases hn : nb w h c s with
  | none => rw [hn] at e; cases e
  | some x =>
    rw [hn, Option.bind_some] at e
    by_cases hx : tb m x = true
    · rw [if_pos hx] at e
      cases e
      exact ⟨rfl, hx⟩
    · rw [if_neg hx] at e; cases e
theorem mto_lt {w h : Nat} {m : Int64} {c s d : Nat} (H : WH w h) (hc : c < w * h) (hs : s < 4) (e : mto w h m c s = some d) : d < w * h := nb_lt H hc hs (mto_some e).1
def sdT (kd f i : Nat) : Nat := if kd = 0 then (f + 3 + i) % 4 else (f + 5 - i) % 4
theorem sdT_lt (kd f i : Nat) : sdT kd f i < 4 := by
  unfold sdT
  by_cases h : kd = 0
  · rw [if_pos h]; exact Nat.mod_lt _ (by omega)
  · rw [if_neg h]; exact Nat.mod_lt _ (by omega)
def fs4 (p : Nat → Option Nat) : Option (Nat × Nat) := match p 0 with
  | some d => some (0, d)
  | none => match p 1 with
    | some d => some (1, d)
    | none => match p 2 with
      | some d => some (2, d)
      | none => match p 3 with
        | some d => some (3, d)
        | none => none
theorem fs4_ok (p : Nat → Option Nat) : (fs4 p = none ∧ ∀ j, j < 4 → p j = none) ∨ ∃ i d, fs4 p = some (i, d) ∧ i < 4 ∧ p i = some d ∧ ∀ j, j < i → p j = none := by
  unfold fs4
  cases h0 : p 0 with
  | some d => exact Or.inr ⟨0, d, rfl, by omega, h0, fun j hj => absurd hj (Nat.not_lt_zero j)⟩
  | none =>
    cases h1 : p 1 with
    | some d => exact Or.inr ⟨1, d, rfl, by omega, h1, fun j hj => by rcases (by omega : j = 0) with rfl; exact h0⟩
    | none =>
      cases h2 : p 2 with
      | some d => exact Or.inr ⟨2, d, rfl, by omega, h2, fun j hj => by rcases (by omega : j = 0 ∨ j = 1) with rfl | rfl <;> assumption⟩
      | none =>
        cases h3 : p 3 with
        | some d => exact Or.inr ⟨3, d, rfl, by omega, h3, fun j hj => by rcases (by omega : j = 0 ∨ j = 1 ∨ j = 2) with rfl | rfl | rfl <;> assumption⟩
        | none => exact Or.inl ⟨rfl, fun j hj => by rcases (by omega : j = 0 ∨ j = 1 ∨ j = 2 ∨ j = 3) with rfl | rfl | rfl | rfl <;> assumption⟩
/-- he comes into a cell -/
def ent (d : Nat) (p : PS) : PS := (d, p.2.1, p.2.2.1, p.2.2.2.1 ||| bitL (nI d), fun k => if k = d ∧ tb p.2.2.2.1 d = false then p.1 else p.2.2.2.2 k)
def stT (w h : Nat) (m : Int64) (kd : Nat) (p : PS) : PS := match fs4 (fun i => mto w h m p.1 (sdT kd p.2.1 i)) with
  | some (i, d) => ent d (p.1, sdT kd p.2.1 i, p.2.2)
  | none => p
def frs (w h : Nat) (m : Int64) (p : PS) (s : Nat) : Option Nat := (mto w h m p.1 s).bind (fun d => if tb p.2.2.2.1 d = true then none else some d)
def stO (w h : Nat) (m : Int64) (p : PS) : PS := match fs4 (frs w h m p) with
  | some (_, d) => ent d p
  | none => if tb m (p.2.2.2.2 p.1) = true then ent (p.2.2.2.2 p.1) p else p
def bst (w h : Nat) (m : Int64) (tn : Nat → Int32) (c : Nat) : Nat → Option Nat
  | 0 => none
  | s + 1 => match mto w h m c s with
    | none => bst w h m tn c s
    | some d => if tn d = -2 then bst w h m tn c s else match bst w h m tn c s with
      | none => some d
      | some e => if tn d < tn e then some d else some e
def stC (w h : Nat) (m : Int64) (no : Int32) (tn : Nat → Int32) (p : PS) : PS := if nI p.1 = no then p else match bst w h m tn p.1 4 with
  | some d => ent d p
  | none => p
def drw (v : Nat) : Nat := (75 * v + 74) % 65537
theorem drw_lt (v : Nat) : drw v < 65537 := Nat.mod_lt _ (by omega)
/-- among the sides from s on (i are left) the l-th mown -/
def lot (w h : Nat) (m : Int64) (c : Nat) : Nat → Nat → Nat → Option Nat
  | 0, _, _ => none
  | i + 1, s, l => match mto w h m c s with
    | none => lot w h m c i (s + 1) l
    | some d => if l = 0 then some d else lot w h m c i (s + 1) (l - 1)
def way (g : GrS) (m : Int64) (c : Nat) : Nat := pcn (besd g (bitL (nI c)) &&& m)
def stLo (w h : Nat) (g : GrS) (m : Int64) (p : PS) : PS := if way g m p.1 = 0 then p else match lot w h m p.1 4 0 (drw p.2.2.1 % way g m p.1) with
  | some d => ent d (p.1, p.2.1, drw p.2.2.1, p.2.2.2)
  | none => (p.1, p.2.1, drw p.2.2.1, p.2.2.2)
def stp (w h : Nat) (g : GrS) (m : Int64) (no : Int32) (tn : Nat → Int32) (kd : Nat) (p : PS) : PS :=
  if kd < 2 then stT w h m kd p else if kd = 2 then stO w h m p else if kd = 3 then stC w h m no tn p else stLo w h g m p
def PSOK (n st : Nat) (p : PS) : Prop := p.1 < n ∧ p.2.1 < 4 ∧ p.2.2.1 < 65537 ∧ Sub p.2.2.2.1 n ∧ tb p.2.2.2.1 p.1 = true ∧ tb p.2.2.2.1 st = true ∧ (∀ k, tb p.2.2.2.1 k = true → tb p.2.2.2.1 (p.2.2.2.2 k) = true) ∧ p.2.2.2.2 st = st
def CFR (st : Nat) (p : PS) (CF : Nat → Int32) : Prop := ∀ k, k < 48 → tb p.2.2.2.1 k = true → CF k = if k = st then -1 else nI (p.2.2.2.2 k)
def MFR (p : PS) (CF : Nat → Int32) : Prop := ∀ k, k < 48 → CF k = if tb p.2.2.2.1 k = true then nI (p.2.2.2.2 k) else -2
theorem tb_orb (b : Int64) {d : Nat} (hd : d < 64) (k : Nat) : tb (b ||| bitL (nI d)) k = (tb b k || decide (k = d)) := by
  rw [tb_or, tb_bit d hd]
theorem ent_ok {n st d : Nat} {p : PS} (hn : n ≤ 48) (P : PSOK n st p) (hd : d < n) : PSOK n st (ent d p) := by
  obtain ⟨c, f, v, b, o⟩ := p
  obtain ⟨h1, h2, h3, h4, h5, h6, h7, h8⟩ := P
  dsimp only at h1 h2 h3 h4 h5 h6 h7 h8
  refine ⟨hd, h2, h3, ?_, ?_, ?_, ?_, ?_⟩
  · exact Sub_or h4 (Sub_bit hd (by omega))
  · show tb (b ||| bitL (nI d)) d = true
    rw [tb_orb b (by omega)]; simp
  · show tb (b ||| bitL (nI d)) st = true
    rw [tb_orb b (by omega), h6]; rfl
  · intro k hk
    have hk : tb (b ||| bitL (nI d)) k = true := hk
    rw [tb_orb b (by omega)] at hk
    show tb (b ||| bitL (nI d)) (if k = d ∧ tb b d = false then c else o k) = true
    rw [tb_orb b (by omega)]
    by_cases e : k = d ∧ tb b d = false
    · rw [if_pos e, h5]; rfl
    · rw [if_neg e, h7 k]
      · rfl
      cases hb : tb b k
      · rw [hb] at hk
        have e2 : k = d := by simpa using hk
        subst e2
        exact absurd ⟨rfl, hb⟩ e
      · rfl
  · show (if st = d ∧ tb b d = false then c else o st) = st
    rw [if_neg]
    · exact h8
    · rintro ⟨rfl, e⟩
      rw [h6] at e; cases e
theorem ent_CFR {n st d : Nat} {p : PS} {CF : Nat → Int32} (hn : n ≤ 48) (P : PSOK n st p) (R : CFR st p CF) (hd : d < n) : CFR st (ent d p) (if tb p.2.2.2.1 d = true then CF else upd CF d (nI p.1)) := by
  obtain ⟨c, f, v, b, o⟩ := p
  obtain ⟨h1, h2, h3, h4, h5, h6, h7, h8⟩ := P
  dsimp only at h1 h2 h3 h4 h5 h6 h7 h8
  intro k hk48 hk
  have hk : tb (b ||| bitL (nI d)) k = true := hk
  rw [tb_orb b (by omega)] at hk
  show (if tb b d = true then CF else upd CF d (nI c)) k = if k = st then -1 else nI (if k = d ∧ tb b d = false then c else o k)
  by_cases hb : tb b d = true
  · rw [if_pos hb, if_neg (fun e : k = d ∧ tb b d = false => by rw [hb] at e; exact absurd e.2 (by decide))]
    refine R k hk48 ?_
    show tb b k = true
    by_cases e2 : k = d
    · rw [e2]; exact hb
    · simpa [e2] using hk
  · rw [if_neg hb]
    have hb : tb b d = false := by simpa using hb
    by_cases e : k = d
    · subst e
      have hne : ¬ k = st := fun e => by rw [e, h6] at hb; cases hb
      rw [pk_us, if_neg hne, if_pos ⟨rfl, hb⟩]
    · rw [pk_un e, if_neg (fun q : k = d ∧ _ => e q.1)]
      refine R k hk48 ?_
      simpa [e] using hk
theorem ent_MFR {n st d : Nat} {p : PS} {CF : Nat → Int32} (hn : n ≤ 48) (P : PSOK n st p) (R : MFR p CF) (hd : d < n) : MFR (ent d p) (if tb p.2.2.2.1 d = true then CF else upd CF d (nI p.1)) := by
  obtain ⟨c, f, v, b, o⟩ := p
  intro k hk48
  show (if tb b d = true then CF else upd CF d (nI c)) k = if tb (b ||| bitL (nI d)) k = true then nI (if k = d ∧ tb b d = false then c else o k) else -2
  rw [tb_orb b (by omega)]
  have R := R k hk48
  have R : CF k = if tb b k = true then nI (o k) else -2 := R
  by_cases hb : tb b d = true
  · rw [if_pos hb, if_neg (fun e : k = d ∧ tb b d = false => by rw [hb] at e; exact absurd e.2 (by decide)), R]
    by_cases e : k = d
    · subst e; rw [hb]; rfl
    · simp [e]
  · rw [if_neg hb]
    have hb : tb b d = false := by simpa using hb
    by_cases e : k = d
    · subst e
      rw [pk_us, if_pos (show (tb b k || decide (k = k)) = true by simp), if_pos ⟨rfl, hb⟩]
    · rw [pk_un e, if_neg (fun q : k = d ∧ _ => e q.1), R]
      simp [e]
theorem ent_self {n st : Nat} {p : PS} (hn : n ≤ 48) (P : PSOK n st p) : ent p.1 p = p := by
  obtain ⟨c, f, v, b, o⟩ := p
  obtain ⟨h1, h2, h3, h4, h5, h6, h7, h8⟩ := P
  dsimp only at h1 h5
  show (c, f, v, b ||| bitL (nI c), fun k => if k = c ∧ tb b c = false then c else o k) = (c, f, v, b, o)
  have e1 : b ||| bitL (nI c) = b := tb_ext (fun k _ => by
    rw [tb_orb b (by omega)]
    by_cases e : k = c
    · rw [e, h5]; rfl
    · simp [e])
  have e2 : (fun k => if k = c ∧ tb b c = false then c else o k) = o := funext (fun k => if_neg (fun e => by rw [h5] at e; exact absurd e.2 (by decide)))
  rw [e1, e2]
section
variable {w h : Nat} {g : GrS} {m : Int64} {no : Int32} {tn : Nat → Int32} {st : Nat} {p : PS}
theorem stT_ok (H : WH w h) (P : PSOK (w * h) st p) (kd : Nat) : PSOK (w * h) st (stT w h m kd p) := by
  unfold stT
  rcases fs4_ok (fun i => mto w h m p.1 (sdT kd p.2.1 i)) with ⟨e, _⟩ | ⟨i, d, e, hi, hd, _⟩
  · rw [e]; exact P
  · rw [e]
    exact ent_ok (p := (p.1, sdT kd p.2.1 i, p.2.2)) H.n.1 ⟨P.1, sdT_lt _ _ _, P.2.2⟩ (mto_lt H P.1 (sdT_lt _ _ _) hd)
theorem frs_some {s d : Nat} (e : frs w h m p s = some d) : mto w h m p.1 s = some d ∧ tb p.2.2.2.1 d = false := by
  unfold frs at e
  cases hm : mto w h m p.1 s with
  | none => rw [hm] at e; cases e
  | some x =>
    rw [hm, Option.bind_some] at e
    by_cases hx : tb p.2.2.2.1 x = true
    · rw [if_pos hx] at e; cases e
    · rw [if_neg hx] at e
      cases e
      exact ⟨rfl, by simpa using hx⟩
theorem frs_none {s : Nat} (e : frs w h m p s = none) {d : Nat} (hd : mto w h m p.1 s = some d) : tb p.2.2.2.1 d = true := by
  unfold frs at e
  rw [hd, Option.bind_some] at e
  cases hx : tb p.2.2.2.1 d
  · rw [hx, if_neg (by decide)] at e; cases e
  · rfl
theorem stO_ok (H : WH w h) (P : PSOK (w * h) st p) : PSOK (w * h) st (stO w h m p) := by
  unfold stO
  rcases fs4_ok (frs w h m p) with ⟨e, _⟩ | ⟨i, d, e, hi, hd, _⟩
  · rw [e]
    dsimp only
    by_cases h1 : tb m (p.2.2.2.2 p.1) = true
    · rw [if_pos h1]; exact ent_ok H.n.1 P (P.2.2.2.1 _ (P.2.2.2.2.2.2.1 _ P.2.2.2.2.1))
    · rw [if_neg h1]; exact P
  · rw [e]
    exact ent_ok H.n.1 P (mto_lt H P.1 hi (frs_some hd).1)
theorem bst_some {c s d : Nat} (e : bst w h m tn c s = some d) : (∃ i, i < s ∧ mto w h m c i = some d) ∧ tn d ≠ -2 := by
  induction s with
  | zero => cases e
  | succ s ih =>
    rw [show bst w h m tn c (s + 1) = match mto w h m c s with
      | none => bst w h m tn c s
      | some d => if tn d = -2 then bst w h m tn c s else match bst w h m tn c s with
        | none => some d
        | some e => if tn d < tn e then some d else some e from rfl] at e
    have ih2 : bst w h m tn c s = some d → (∃ i, i < s + 1 ∧ mto w h m c i = some d) ∧ tn d ≠ -2 := fun e => by
      obtain ⟨⟨i, hi, h1⟩, h2⟩ := ih e
      exact ⟨⟨i, by omega, h1⟩, h2⟩
    cases hm : mto w h m c s with
    | none => rw [hm] at e; exact ih2 e
    | some x =>
      rw [hm] at e
      dsimp only at e
      by_cases hx : tn x = -2
      · rw [if_pos hx] at e; exact ih2 e
      · rw [if_neg hx] at e
        cases hb : bst w h m tn c s with
        | none =>
          rw [hb] at e
          cases e
          exact ⟨⟨s, by omega, hm⟩, hx⟩
        | some y =>
          rw [hb] at e
          dsimp only at e
          by_cases hl : tn x < tn y
          · rw [if_pos hl] at e
            cases e
            exact ⟨⟨s, by omega, hm⟩, hx⟩
          · rw [if_neg hl] at e
            rw [← hb] at e
            exact ih2 (hb.trans (hb.symm.trans e))
theorem stC_ok (H : WH w h) (P : PSOK (w * h) st p) : PSOK (w * h) st (stC w h m no tn p) := by
  unfold stC
  by_cases h0 : nI p.1 = no
  · rw [if_pos h0]; exact P
  · rw [if_neg h0]
    cases hb : bst w h m tn p.1 4 with
    | none => exact P
    | some d =>
      obtain ⟨⟨i, hi, h1⟩, _⟩ := bst_some hb
      exact ent_ok H.n.1 P (mto_lt H P.1 hi h1)
theorem lot_some {c : Nat} : ∀ {i s l d : Nat}, lot w h m c i s l = some d → ∃ j, s ≤ j ∧ j < s + i ∧ mto w h m c j = some d := by
  intro i
  induction i with
  | zero => intro s l d e; cases e
  | succ i ih =>
    intro s l d e
    unfold lot at e
    cases hm : mto w h m c s with
    | none =>
      rw [hm] at e
      obtain ⟨j, h1, h2, h3⟩ := ih e
      exact ⟨j, by omega, by omega, h3⟩
    | some x =>
      rw [hm] at e
      dsimp only at e
      by_cases hl : l = 0
      · rw [if_pos hl] at e
        cases e
        exact ⟨s, by omega, by omega, hm⟩
      · rw [if_neg hl] at e
        obtain ⟨j, h1, h2, h3⟩ := ih e
        exact ⟨j, by omega, by omega, h3⟩
theorem stLo_ok (H : WH w h) (P : PSOK (w * h) st p) : PSOK (w * h) st (stLo w h g m p) := by
  unfold stLo
  by_cases h0 : way g m p.1 = 0
  · rw [if_pos h0]; exact P
  · rw [if_neg h0]
    cases hb : lot w h m p.1 4 0 (drw p.2.2.1 % way g m p.1) with
    | none => exact ⟨P.1, P.2.1, drw_lt _, P.2.2.2⟩
    | some d =>
      obtain ⟨j, _, h2, h3⟩ := lot_some hb
      exact ent_ok (p := (p.1, p.2.1, drw p.2.2.1, p.2.2.2)) H.n.1 ⟨P.1, P.2.1, drw_lt _, P.2.2.2⟩ (mto_lt H P.1 (by omega) h3)
theorem stp_ok (H : WH w h) (P : PSOK (w * h) st p) (kd : Nat) : PSOK (w * h) st (stp w h g m no tn kd p) := by
  unfold stp
  by_cases h1 : kd < 2
  · rw [if_pos h1]; exact stT_ok H P kd
  · rw [if_neg h1]
    by_cases h2 : kd = 2
    · rw [if_pos h2]; exact stO_ok H P
    · rw [if_neg h2]
      by_cases h3 : kd = 3
      · rw [if_pos h3]; exact stC_ok H P
      · rw [if_neg h3]; exact stLo_ok H P
end
