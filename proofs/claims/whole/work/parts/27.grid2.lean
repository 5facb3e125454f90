/-! The ground: neighbours, and cells beside a set. -/
theorem l0 : (0 : Int32) = nI 0 := rfl
theorem l1 : (1 : Int32) = nI 1 := rfl
theorem l2 : (2 : Int32) = nI 2 := rfl
theorem l3 : (3 : Int32) = nI 3 := rfl
theorem l4 : (4 : Int32) = nI 4 := rfl
theorem l5 : (5 : Int32) = nI 5 := rfl
theorem l6 : (6 : Int32) = nI 6 := rfl
theorem l12 : (12 : Int32) = nI 12 := rfl
theorem l20 : (20 : Int32) = nI 20 := rfl
theorem l48 : (48 : Int32) = nI 48 := rfl
theorem l60 : (60 : Int32) = nI 60 := rfl
theorem l192 : (192 : Int32) = nI 192 := rfl
theorem l201 : (201 : Int32) = nI 201 := rfl
theorem nI_m1 {c : Nat} (h : c < 2 ^ 31) : nI c ≠ -1 := fun e => by
  have := congrArg Int32.toInt e
  rw [nI_toInt h] at this
  have h2 : (-1 : Int32).toInt = -1 := by decide
  omega
theorem nI_m2 {c : Nat} (h : c < 2 ^ 31) : nI c ≠ -2 := fun e => by
  have := congrArg Int32.toInt e
  rw [nI_toInt h] at this
  have h2 : (-2 : Int32).toInt = -2 := by decide
  omega
/-- a loop that goes by closed states -/
theorem lp_run {β : Type} {B : KT β → KT β} (Fl : Nat → LV) (Fh : Nat → HP) {t N : Nat} {r : Option β} (hN : t < N) (hs : ∀ c, c < t → ∀ k, B k (Fl c) [] (Fh c) = k (Fl (c + 1)) [] (Fh (c + 1))) (he : ∀ k, B k (Fl t) [] (Fh t) = r) : lp B N (Fl 0) [] (Fh 0) = r := by
  have : ∀ n c, c ≤ t → t - c < n → lp B n (Fl c) [] (Fh c) = r := by
    intro n
    induction n with
    | zero => intro c h1 h2; omega
    | succ n ih =>
      intro c h1 h2
      show B (lp B n) _ _ _ = _
      by_cases hc : c = t
      · subst hc; exact he _
      · rw [hs c (by omega)]; exact ih (c + 1) (by omega) (by omega)
  exact this N 0 (by omega) (by omega)
/-- a loop that keeps what it needs -/
theorem lp_inv {β : Type} {B : KT β → KT β} (P : Nat → LV → HP → Prop) {Q : Option β → Prop} {t N : Nat} (hN : t < N) (hs : ∀ c lv hp, c < t → P c lv hp → (∃ lv2 hp2, P (c + 1) lv2 hp2 ∧ ∀ k, B k lv [] hp = k lv2 [] hp2) ∨ ∃ r, Q r ∧ ∀ k, B k lv [] hp = r) (he : ∀ lv hp, P t lv hp → ∃ r, Q r ∧ ∀ k, B k lv [] hp = r) {lv : LV} {hp : HP} (h0 : P 0 lv hp) : ∃ r, Q r ∧ lp B N lv [] hp = r := by
  have : ∀ n c lv hp, P c lv hp → c ≤ t → t - c < n → ∃ r, Q r ∧ lp B n lv [] hp = r := by
    intro n
    induction n with
    | zero => intro c lv hp _ h1 h2; omega
    | succ n ih =>
      intro c lv hp h h1 h2
      by_cases hc : c = t
      · subst hc
        obtain ⟨r, hr, hk⟩ := he lv hp h
        exact ⟨r, hr, hk _⟩
      · rcases hs c lv hp (by omega) h with ⟨lv2, hp2, h3, hk⟩ | ⟨r, hr, hk⟩
        · obtain ⟨r, hr, e⟩ := ih (c + 1) lv2 hp2 h3 (by omega) (by omega)
          exact ⟨r, hr, (hk _).trans e⟩
        · exact ⟨r, hr, hk _⟩
  exact this N 0 lv hp h0 (by omega) (by omega)
def nb (w h c : Nat) : Nat → Option Nat
  | 0 => if w ≤ c then some (c - w) else none
  | 1 => if c % w + 1 < w then some (c + 1) else none
  | 2 => if c + w < w * h then some (c + w) else none
  | _ => if 0 < c % w then some (c - 1) else none
def oI : Option Nat → Int32
  | none => -1
  | some c => nI c
def oM : Option Nat → Int32
  | none => -2
  | some c => nI c
def inN (x : Int64) : Option Nat → Bool
  | none => false
  | some c => tb x c
def WH (w h : Nat) : Prop := 2 ≤ w ∧ w ≤ 8 ∧ 2 ≤ h ∧ h ≤ 6
theorem WH.n {w h : Nat} (H : WH w h) : w * h ≤ 48 ∧ 4 ≤ w * h := ⟨Nat.mul_le_mul H.2.1 H.2.2.2, Nat.mul_le_mul H.1 H.2.2.1⟩
theorem WH.cases {w h : Nat} (H : WH w h) : w = 2 ∨ w = 3 ∨ w = 4 ∨ w = 5 ∨ w = 6 ∨ w = 7 ∨ w = 8 := by
  obtain ⟨h1, h2, _⟩ := H
  omega
/-- two cells side by side -/
def adj (w h c d : Nat) : Prop := (w ≤ c ∧ d = c - w) ∨ (c % w + 1 < w ∧ d = c + 1) ∨ (c + w < w * h ∧ d = c + w) ∨ (0 < c % w ∧ d = c - 1)
theorem adj_iff {w h c d : Nat} : adj w h c d ↔ ∃ s, s < 4 ∧ nb w h c s = some d := by
  constructor
  · rintro (⟨h1, rfl⟩ | ⟨h1, rfl⟩ | ⟨h1, rfl⟩ | ⟨h1, rfl⟩)
    · exact ⟨0, by omega, if_pos h1⟩
    · exact ⟨1, by omega, if_pos h1⟩
    · exact ⟨2, by omega, if_pos h1⟩
    · exact ⟨3, by omega, if_pos h1⟩
  · rintro ⟨s, hs, e⟩
    rcases (by omega : s = 0 ∨ s = 1 ∨ s = 2 ∨ s = 3) with rfl | rfl | rfl | rfl <;> simp only [nb] at e <;> split at e <;> simp at e <;> rename_i h1 <;> unfold adj <;> omega
theorem adj_symm {w h c d : Nat} (H : WH w h) (hc : c < w * h) (hd : d < w * h) (a : adj w h c d) : adj w h d c := by
  unfold adj at *
  rcases H.cases with rfl | rfl | rfl | rfl | rfl | rfl | rfl <;> omega
theorem adj_lt {w h c d : Nat} (H : WH w h) (hc : c < w * h) (a : adj w h c d) : d < w * h := by
  unfold adj at *
  rcases H.cases with rfl | rfl | rfl | rfl | rfl | rfl | rfl <;> omega
theorem adj_ne {w h c d : Nat} (H : WH w h) (a : adj w h c d) : d ≠ c := by
  unfold adj at *
  rcases H.cases with rfl | rfl | rfl | rfl | rfl | rfl | rfl <;> omega
theorem nb_lt {w h c d s : Nat} (H : WH w h) (hc : c < w * h) (hs : s < 4) (e : nb w h c s = some d) : d < w * h := adj_lt H hc (adj_iff.mpr ⟨s, hs, e⟩)
def Sub (x : Int64) (n : Nat) : Prop := ∀ k, tb x k = true → k < n
def GrOK (g : GrS) (w h : Nat) : Prop := g.2.1 = nI w ∧ g.2.2.1 = nI h ∧ g.2.2.2.1 = nI (w * h) ∧ (∀ k, tb g.2.2.2.2.1 k = decide (k < w * h)) ∧ (∀ k, tb g.2.2.2.2.2.1 k = decide (k < w * h ∧ k % w = 0)) ∧ (∀ k, tb g.2.2.2.2.2.2 k = decide (k < w * h ∧ k % w = w - 1)) ∧ ∀ c s, c < w * h → s < 4 → g.1 (4 * c + s) = oI (nb w h c s)
theorem besd_bit {g : GrS} {w h : Nat} (H : WH w h) (G : GrOK g w h) {x : Int64} (hx : Sub x (w * h)) (d : Nat) : tb (besd g x) d = (decide (d < w * h) && (inN x (nb w h d 3) || inN x (nb w h d 1) || inN x (nb w h d 0) || inN x (nb w h d 2))) := by
  obtain ⟨g1, g2, g3, g4, g5, g6, g7⟩ := G
  have hn := H.n
  have e : besd g x = (((((x &&& (g.2.2.2.2.2.2 ^^^ (-1))) <<< ((nI 1).toInt64 &&& 63)) ||| ((x &&& (g.2.2.2.2.2.1 ^^^ (-1))).toUInt64 >>> ((nI 1).toInt64.toUInt64 &&& Int64.toUInt64 63)).toInt64) ||| (x <<< (g.2.1.toInt64 &&& 63))) ||| (x.toUInt64 >>> (g.2.1.toInt64.toUInt64 &&& Int64.toUInt64 63)).toInt64) &&& g.2.2.2.2.1 := rfl
  have hw : w < 64 := by have := H.2.1; omega
  rw [e, g1, tb_and, tb_or, tb_or, tb_or, tb_shl 1 (by omega), tb_ushr 1 (by omega), tb_shl w hw, tb_ushr w hw, tb_andnot, tb_andnot, g4, g5, g6]
  by_cases hd : d < w * h
  · have a1 : (decide (d < 64) && (decide (1 ≤ d) && (tb x (d - 1) && !decide (d - 1 < w * h ∧ (d - 1) % w = w - 1)))) = inN x (nb w h d 3) := by
      by_cases h1 : 0 < d % w
      · have e1 : nb w h d 3 = some (d - 1) := if_pos h1
        have e2 : ¬ (d - 1 < w * h ∧ (d - 1) % w = w - 1) := by
          rcases H.cases with rfl | rfl | rfl | rfl | rfl | rfl | rfl <;> omega
        have e3 : 1 ≤ d := by
          rcases Nat.eq_zero_or_pos d with rfl | h2
          · simp at h1
          · exact h2
        rw [e1, decide_eq_false e2, decide_eq_true e3, decide_eq_true (by omega : d < 64)]
        simp [inN]
      · have e1 : nb w h d 3 = none := if_neg h1
        rw [e1]
        by_cases e3 : 1 ≤ d
        · have e2 : (d - 1 < w * h ∧ (d - 1) % w = w - 1) := by
            rcases H.cases with rfl | rfl | rfl | rfl | rfl | rfl | rfl <;> omega
          rw [decide_eq_true e2]
          simp [inN]
        · rw [decide_eq_false e3]
          simp [inN]
    have a2 : (tb x (1 + d) && !decide (1 + d < w * h ∧ (1 + d) % w = 0)) = inN x (nb w h d 1) := by
      by_cases h1 : d % w + 1 < w
      · have e1 : nb w h d 1 = some (d + 1) := if_pos h1
        have e2 : ¬ (1 + d < w * h ∧ (1 + d) % w = 0) := by
          rcases H.cases with rfl | rfl | rfl | rfl | rfl | rfl | rfl <;> omega
        rw [e1, decide_eq_false e2, Nat.add_comm]
        simp [inN]
      · have e1 : nb w h d 1 = none := if_neg h1
        rw [e1]
        by_cases h2 : 1 + d < w * h
        · have e2 : (1 + d < w * h ∧ (1 + d) % w = 0) := by
            rcases H.cases with rfl | rfl | rfl | rfl | rfl | rfl | rfl <;> omega
          rw [decide_eq_true e2]
          simp [inN]
        · have e3 : tb x (1 + d) = false := by
            cases h3 : tb x (1 + d)
            · rfl
            · exact absurd (hx _ h3) h2
          rw [e3]
          rfl
    have a3 : (decide (d < 64) && (decide (w ≤ d) && tb x (d - w))) = inN x (nb w h d 0) := by
      rw [decide_eq_true (by omega : d < 64)]
      by_cases h1 : w ≤ d
      · have e1 : nb w h d 0 = some (d - w) := if_pos h1
        rw [e1, decide_eq_true h1]; simp [inN]
      · have e1 : nb w h d 0 = none := if_neg h1
        rw [e1, decide_eq_false h1]; simp [inN]
    have a4 : tb x (w + d) = inN x (nb w h d 2) := by
      by_cases h1 : d + w < w * h
      · have e1 : nb w h d 2 = some (d + w) := if_pos h1
        rw [e1, Nat.add_comm]; rfl
      · have e1 : nb w h d 2 = none := if_neg h1
        rw [e1]
        cases h3 : tb x (w + d)
        · rfl
        · have := hx _ h3; omega
    rw [a1, a2, a3, a4, Bool.and_comm]
  · rw [decide_eq_false hd, Bool.and_false, Bool.false_and]
theorem inN_iff {x : Int64} {w h c : Nat} : ((inN x (nb w h c 3) || inN x (nb w h c 1) || inN x (nb w h c 0) || inN x (nb w h c 2)) = true) ↔ ∃ d, adj w h c d ∧ tb x d = true := by
  constructor
  · intro e
    simp only [Bool.or_eq_true] at e
    have : ∃ s, s < 4 ∧ inN x (nb w h c s) = true := by
      rcases e with ((e | e) | e) | e
      · exact ⟨3, by omega, e⟩
      · exact ⟨1, by omega, e⟩
      · exact ⟨0, by omega, e⟩
      · exact ⟨2, by omega, e⟩
    obtain ⟨s, hs, e⟩ := this
    cases hn : nb w h c s with
    | none => rw [hn] at e; cases e
    | some d => rw [hn] at e; exact ⟨d, adj_iff.mpr ⟨s, hs, hn⟩, e⟩
  · rintro ⟨d, a, hx⟩
    obtain ⟨s, hs, e⟩ := adj_iff.mp a
    have : inN x (nb w h c s) = true := by rw [e]; exact hx
    rcases (by omega : s = 0 ∨ s = 1 ∨ s = 2 ∨ s = 3) with rfl | rfl | rfl | rfl <;> simp [this]
theorem besd_iff {g : GrS} {w h : Nat} (H : WH w h) (G : GrOK g w h) {x : Int64} (hx : Sub x (w * h)) (d : Nat) : tb (besd g x) d = true ↔ d < w * h ∧ ∃ c, adj w h d c ∧ tb x c = true := by
  rw [besd_bit H G hx, Bool.and_eq_true, decide_eq_true_iff, inN_iff]
theorem Sub_bit {c n : Nat} (hc : c < n) (hn : n ≤ 64) : Sub (bitL (nI c)) n := fun k hk => by
  rw [tb_bit c (by omega)] at hk
  have := of_decide_eq_true hk
  omega
theorem Sub_and {x y : Int64} {n : Nat} (h : Sub y n) : Sub (x &&& y) n := fun k hk => by
  rw [tb_and, Bool.and_eq_true] at hk
  exact h k hk.2
theorem Sub_andl {x y : Int64} {n : Nat} (h : Sub x n) : Sub (x &&& y) n := fun k hk => by
  rw [tb_and, Bool.and_eq_true] at hk
  exact h k hk.1
theorem Sub_or {x y : Int64} {n : Nat} (h : Sub x n) (h2 : Sub y n) : Sub (x ||| y) n := fun k hk => by
  rw [tb_or, Bool.or_eq_true] at hk
  exact hk.elim (h k) (h2 k)
theorem Sub_xor {x y : Int64} {n : Nat} (h : Sub x n) (h2 : Sub y n) : Sub (x ^^^ y) n := fun k hk => by
  rw [tb_xor] at hk
  cases h3 : tb x k
  · rw [h3] at hk
    exact h2 k (by simpa using hk)
  · exact h k h3
theorem Sub_0 (n : Nat) : Sub 0 n := fun k hk => by
  rw [tb_0] at hk
  cases hk
