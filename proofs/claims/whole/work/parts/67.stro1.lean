/-! Strokes: the fewest, set by set. -/
theorem tx_lt {S i : Nat} (h : S.testBit i = true) : S ^^^ 2 ^ i < S := by
  have e : S &&& (S ^^^ 2 ^ i) = S ^^^ 2 ^ i := Nat.eq_of_testBit_eq (fun k => by
    rw [Nat.testBit_and, Nat.testBit_xor, Nat.testBit_two_pow]
    by_cases e : i = k
    · subst e; rw [h]; simp
    · simp [e])
  have h1 : S ^^^ 2 ^ i ≤ S := by rw [← e]; exact Nat.and_le_left
  have h2 : S ^^^ 2 ^ i ≠ S := fun e2 => by
    have := congrArg (fun x => x.testBit i) e2
    simp only [Nat.testBit_xor, Nat.testBit_two_pow, h] at this
    simp at this
  omega
theorem tx_bit (S i k : Nat) : (S ^^^ 2 ^ i).testBit k = (S.testBit k ^^ decide (i = k)) := by
  rw [Nat.testBit_xor, Nat.testBit_two_pow]
theorem to_bit (S i k : Nat) : (S ||| 2 ^ i).testBit k = (S.testBit k || decide (i = k)) := by
  rw [Nat.testBit_or, Nat.testBit_two_pow]
theorem to_tx {S i : Nat} (h : S.testBit i = false) : S ||| 2 ^ i = S ^^^ 2 ^ i := Nat.eq_of_testBit_eq (fun k => by
  rw [tx_bit, to_bit]
  by_cases e : i = k
  · subst e; rw [h]; simp
  · simp [e])
theorem tx_tx (S i : Nat) : (S ^^^ 2 ^ i) ^^^ 2 ^ i = S := Nat.eq_of_testBit_eq (fun k => by
  rw [tx_bit, tx_bit]
  by_cases e : i = k <;> simp [e])
theorem tb_lt2 {S n k : Nat} (h : S < 2 ^ n) (hk : S.testBit k = true) : k < n := by
  rcases Nat.lt_or_ge k n with h5 | h5
  · exact h5
  · have := Nat.testBit_lt_two_pow (Nat.lt_of_lt_of_le h (Nat.pow_le_pow_right (by omega) h5))
    rw [this] at hk
    cases hk
theorem tx_lt2 {S n i : Nat} (h : S < 2 ^ n) (hi : i < n) : S ^^^ 2 ^ i < 2 ^ n := Nat.xor_lt_two_pow h (Nat.pow_lt_pow_right (by omega) hi)
theorem ne0_bit {S : Nat} (h : S ≠ 0) : ∃ k, S.testBit k = true := Classical.byContradiction (fun hno => h (Nat.eq_of_testBit_eq (fun k => by
  rw [Nat.zero_testBit]
  cases hk : S.testBit k
  · rfl
  · exact absurd ⟨k, hk⟩ hno)))
/-- the least of some numbers, or b -/
def mnf (v : Nat → Option Nat) (b : Nat) : Nat → Nat
  | 0 => b
  | k + 1 => match v k with
    | none => mnf v b k
    | some x => if mnf v b k ≤ x then mnf v b k else x
theorem mnf_s (v : Nat → Option Nat) (b k : Nat) : mnf v b (k + 1) = match v k with
    | none => mnf v b k
    | some x => if mnf v b k ≤ x then mnf v b k else x := rfl
theorem mnf_b (v : Nat → Option Nat) (b : Nat) : ∀ t, mnf v b t ≤ b := by
  intro t
  induction t with
  | zero => exact Nat.le_refl _
  | succ t ih =>
    rw [mnf_s]
    cases v t with
    | none => exact ih
    | some x =>
      dsimp only
      by_cases h : mnf v b t ≤ x
      · rw [if_pos h]; exact ih
      · rw [if_neg h]; omega
theorem mnf_le {v : Nat → Option Nat} {b t k x : Nat} (hk : k < t) (e : v k = some x) : mnf v b t ≤ x := by
  induction t with
  | zero => omega
  | succ t ih =>
    rw [mnf_s]
    by_cases h : k = t
    · subst h
      rw [e]
      dsimp only
      by_cases h5 : mnf v b k ≤ x
      · rw [if_pos h5]; exact h5
      · rw [if_neg h5]; exact Nat.le_refl _
    · have := ih (by omega)
      cases v t with
      | none => exact this
      | some y =>
        dsimp only
        by_cases h5 : mnf v b t ≤ y
        · rw [if_pos h5]; exact this
        · rw [if_neg h5]; omega
theorem mnf_is {v : Nat → Option Nat} {b t : Nat} : mnf v b t = b ∨ ∃ k, k < t ∧ v k = some (mnf v b t) := by
  induction t with
  | zero => exact Or.inl rfl
  | succ t ih =>
    have up : mnf v b t = b ∨ ∃ k, k < t + 1 ∧ v k = some (mnf v b t) := by
      rcases ih with h | ⟨k, h1, h2⟩
      · exact Or.inl h
      · exact Or.inr ⟨k, by omega, h2⟩
    rw [mnf_s]
    cases hv : v t with
    | none => exact up
    | some x =>
      dsimp only
      by_cases h5 : mnf v b t ≤ x
      · rw [if_pos h5]; exact up
      · rw [if_neg h5]; exact Or.inr ⟨t, by omega, hv⟩
/-- the fewest strokes for the set S if the last of them ends at i -/
def Gd (n : Nat) (ad : Nat → Nat → Bool) (S i : Nat) : Nat :=
  if h : S.testBit i = true then
    (if S = 2 ^ i then 1 else mnf (fun k => if (S ^^^ 2 ^ i).testBit k = true then some (Gd n ad (S ^^^ 2 ^ i) k + (if ad k i = true then 0 else 1)) else none) (n + 1) n)
  else 0
termination_by S
decreasing_by exact tx_lt h
theorem Gd_eq {n : Nat} {ad : Nat → Nat → Bool} {S i : Nat} (h : S.testBit i = true) : Gd n ad S i = if S = 2 ^ i then 1 else mnf (fun k => if (S ^^^ 2 ^ i).testBit k = true then some (Gd n ad (S ^^^ 2 ^ i) k + (if ad k i = true then 0 else 1)) else none) (n + 1) n := by
  rw [Gd, dif_pos h]
theorem pc_tx {S i n : Nat} (hi : i < n) (h : S.testBit i = true) : fb_ct (S ^^^ 2 ^ i).testBit n + 1 = fb_ct S.testBit n := by
  have e1 : fb_ct (S ^^^ 2 ^ i).testBit n = fb_ct (fun k => if k = i then false else S.testBit k) n := fb_ct_cong (fun k _ => by
    rw [tx_bit]
    by_cases e : k = i
    · subst e; rw [if_pos rfl, h]; simp
    · rw [if_neg e, decide_eq_false (fun e2 => e e2.symm)]; simp)
  have e2 := fb_ct_upd S.testBit false (i := i) (n := n) hi
  rw [h] at e2
  rw [e1]
  simpa using e2
theorem Gd_le {n : Nat} {ad : Nat → Nat → Bool} : ∀ S, S < 2 ^ n → ∀ i, S.testBit i = true → Gd n ad S i ≤ fb_ct S.testBit n := by
  intro S
  induction S using Nat.strongRecOn with
  | _ S ih =>
    intro hS i hi
    have hin := tb_lt2 hS hi
    have hpc := pc_tx hin hi
    rw [Gd_eq hi]
    by_cases e : S = 2 ^ i
    · rw [if_pos e]; omega
    · rw [if_neg e]
      have hne : S ^^^ 2 ^ i ≠ 0 := fun h0 => e (by
        have := tx_tx S i
        rw [h0, Nat.zero_xor] at this
        exact this.symm)
      obtain ⟨k, hk⟩ := ne0_bit hne
      have hS2 := tx_lt2 hS hin
      have hkn := tb_lt2 hS2 hk
      have h1 := ih _ (tx_lt hi) hS2 k hk
      have h2 := mnf_le (v := fun k => if (S ^^^ 2 ^ i).testBit k = true then some (Gd n ad (S ^^^ 2 ^ i) k + (if ad k i = true then 0 else 1)) else none) (b := n + 1) hkn (if_pos hk)
      have : (if ad k i = true then 0 else 1) ≤ 1 := by split <;> omega
      omega
theorem Gd_n {n : Nat} {ad : Nat → Nat → Bool} {S i : Nat} (hS : S < 2 ^ n) (hi : S.testBit i = true) : Gd n ad S i ≤ n := Nat.le_trans (Gd_le S hS i hi) (fb_ct_le _ n)
/-- one more: the fewest of S, and where they end, tell it -/
theorem Gd_more {n : Nat} {ad : Nat → Nat → Bool} {S i f : Nat} (hS : S < 2 ^ n) (h0 : S ≠ 0) (hi : i < n) (hb : S.testBit i = false) (hle : ∀ k, S.testBit k = true → f ≤ Gd n ad S k) (hex : ∃ k, S.testBit k = true ∧ Gd n ad S k = f) : ((∃ k, S.testBit k = true ∧ Gd n ad S k = f ∧ ad k i = true) → Gd n ad (S ^^^ 2 ^ i) i = f) ∧ ((¬ ∃ k, S.testBit k = true ∧ Gd n ad S k = f ∧ ad k i = true) → Gd n ad (S ^^^ 2 ^ i) i = f + 1) := by
  have hbi : (S ^^^ 2 ^ i).testBit i = true := by rw [tx_bit, hb]; simp
  have hne : ¬ S ^^^ 2 ^ i = 2 ^ i := fun e => h0 (by
    have := tx_tx S i
    rw [e, Nat.xor_self] at this
    exact this.symm)
  obtain ⟨k0, hk0, e0⟩ := hex
  have hk0n := tb_lt2 hS hk0
  have hfn : f ≤ n := by rw [← e0]; exact Gd_n hS hk0
  have hm : ∀ k x, k < n → (if S.testBit k = true then some (Gd n ad S k + (if ad k i = true then 0 else 1)) else none) = some x → S.testBit k = true ∧ x = Gd n ad S k + (if ad k i = true then 0 else 1) := fun k x _ e => by
    by_cases h5 : S.testBit k = true
    · rw [if_pos h5] at e; cases e; exact ⟨h5, rfl⟩
    · rw [if_neg h5] at e; cases e
  rw [Gd_eq hbi, if_neg hne, tx_tx]
  have hmin := mnf_is (v := fun k => if S.testBit k = true then some (Gd n ad S k + (if ad k i = true then 0 else 1)) else none) (b := n + 1) (t := n)
  have hmle : ∀ k, S.testBit k = true → mnf (fun k => if S.testBit k = true then some (Gd n ad S k + (if ad k i = true then 0 else 1)) else none) (n + 1) n ≤ Gd n ad S k + (if ad k i = true then 0 else 1) := fun k hk => mnf_le (tb_lt2 hS hk) (if_pos hk)
  generalize mnf (fun k => if S.testBit k = true then some (Gd n ad S k + (if ad k i = true then 0 else 1)) else none) (n + 1) n = v at *
  constructor
  · rintro ⟨k, h1, h2, h3⟩
    have h4 := hmle k h1
    rw [if_pos h3, h2] at h4
    rcases hmin with h5 | ⟨k2, h5, h6⟩
    · omega
    · obtain ⟨h7, h8⟩ := hm k2 v h5 h6
      have := hle k2 h7
      omega
  · intro hno
    have h4 := hmle k0 hk0
    have hone : (if ad k0 i = true then 0 else 1) ≤ 1 := by split <;> omega
    rcases hmin with h5 | ⟨k2, h5, h6⟩
    · omega
    · obtain ⟨h7, h8⟩ := hm k2 v h5 h6
      have h9 := hle k2 h7
      by_cases h10 : Gd n ad S k2 = f
      · have : ¬ ad k2 i = true := fun h11 => hno ⟨k2, h7, h10, h11⟩
        rw [if_neg this] at h8
        omega
      · omega
/-! numbers as sets -/
theorem nI_bv (n : Nat) : (nI n).toBitVec = BitVec.ofNat 32 n := rfl
theorem nI_or (a b : Nat) : nI a ||| nI b = nI (a ||| b) := Int32.toBitVec_inj.mp (BitVec.eq_of_getLsbD_eq (fun k hk => by
  rw [Int32.toBitVec_or, BitVec.getLsbD_or, nI_bv, nI_bv, nI_bv, BitVec.getLsbD_ofNat, BitVec.getLsbD_ofNat, BitVec.getLsbD_ofNat, Nat.testBit_or]
  simp [hk]))
theorem nI_and (a b : Nat) : nI a &&& nI b = nI (a &&& b) := Int32.toBitVec_inj.mp (BitVec.eq_of_getLsbD_eq (fun k hk => by
  rw [Int32.toBitVec_and, BitVec.getLsbD_and, nI_bv, nI_bv, nI_bv, BitVec.getLsbD_ofNat, BitVec.getLsbD_ofNat, BitVec.getLsbD_ofNat, Nat.testBit_and]
  simp [hk]))
theorem sh13 : ∀ i, i < 13 → (1 : Int32) <<< (nI i &&& 31) = nI (2 ^ i) := by decide +kernel
theorem sm13 : ∀ i, i < 13 → ((nI i &&& 31).toBitVec.smod 32).toNat = i := by decide +kernel
theorem m1b : ∀ k, k < 32 → (-1 : Int32).toBitVec.getLsbD k = true := by decide +kernel
theorem nI_drop {S i : Nat} (h : S.testBit i = true) (hi : i < 13) : nI S &&& (((1 : Int32) <<< (nI i &&& 31)) ^^^ (-1)) = nI (S ^^^ 2 ^ i) := Int32.toBitVec_inj.mp (BitVec.eq_of_getLsbD_eq (fun k hk => by
  rw [sh13 i hi, Int32.toBitVec_and, BitVec.getLsbD_and, Int32.toBitVec_xor, BitVec.getLsbD_xor, m1b k hk, nI_bv, nI_bv, nI_bv, BitVec.getLsbD_ofNat, BitVec.getLsbD_ofNat, BitVec.getLsbD_ofNat, tx_bit, Nat.testBit_two_pow]
  by_cases e : i = k
  · subst e; rw [h]; simp
  · simp [hk, e]))
theorem nI_has {S i : Nat} (hS : S < 2 ^ 31) (hi : i < 13) : ((nI S >>> (nI i &&& 31)) &&& 1 = 1) ↔ S.testBit i = true := by
  rw [pk_shrN hS _ i (sm13 i hi), show (1 : Int32) = nI 1 from rfl, nI_and, Nat.and_one_is_mod, nI_eq (by omega) (by omega), Nat.testBit_eq_decide_div_mod_eq, decide_eq_true_iff]
