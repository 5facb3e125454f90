/-! has, isIn, bits, first, and their like. -/
theorem tb_of_has (m : Int64) {k : Nat} (hk : k < 64) : ((m >>> ((nI k).toInt64 &&& 63)) &&& 1) = (if tb m k then 1 else 0) := by
  rw [and1, tb_sshr k hk m (by omega)]
  simp [hk]
theorem tb_of_isIn (m : Int64) {k : Nat} (hk : k < 64) : ((m.toUInt64 >>> ((nI k).toInt64.toUInt64 &&& Int64.toUInt64 63)).toInt64 &&& 1) = (if tb m k then 1 else 0) := by
  rw [and1, tb_ushr k hk m, Nat.add_zero]
section
variable (hp : HP)
theorem e_isIn (m : Int64) {k : Nat} (hk : k < 64) : EX10_isIn [.long m, .int (nI k)] hp = some (tb m k) := by
  rw [eX10_isIn_s, qX10_isIn_0, tb_of_isIn m hk]
  cases h : tb m k
  · decide
  · decide
theorem e_has (m : Int64) {k : Nat} (hk : k < 64) : EX12_has [.long m, .int (nI k)] hp = some (tb m k) := by
  rw [eX12_has_s, qX12_has_0, tb_of_has m hk]
  cases h : tb m k
  · decide
  · decide
theorem e_in (v lo hi : Int32) : EX12_in [.int v, .int lo, .int hi] hp = some (decide (lo ≤ v ∧ v ≤ hi)) := by
  rw [eX12_in_s, qX12_in_0]
  by_cases h1 : v < lo
  · rw [if_pos h1, decide_eq_false (fun h => absurd h1 (Int32.not_lt.mpr h.1))]
  · rw [if_neg h1]
    by_cases h2 : hi < v
    · rw [if_pos h2, decide_eq_false (fun h => absurd h2 (Int32.not_lt.mpr h.2))]
    · rw [if_neg h2, decide_eq_true ⟨Int32.not_lt.mp h1, Int32.not_lt.mp h2⟩]
theorem bits_loop (n : Nat) : ∀ (v : Int32) (x : Int64), pcn x < n → lp BX12_bits_4 n [(2, .int v), (3, .long x)] [] hp = some (v + nI (pcn x)) := by
  induction n with
  | zero => intro v x h; omega
  | succ n ih =>
    intro v x h
    show BX12_bits_4 (lp BX12_bits_4 n) _ _ _ = _
    rw [qX12_bits_4]
    by_cases hx : x = 0
    · subst hx
      rw [if_pos ((lgc0 _ _).mpr rfl), pcn_0, show nI 0 = 0 from rfl, Int32.add_zero]
    · rw [if_neg (fun h2 => hx ((lgc0 _ _).mp h2))]
      have h1 := pcn_low hx
      rw [ih _ _ (by omega), ← h1, Int32.add_assoc]
      congr 2
      rw [Int32.add_comm, nI_1]
theorem e_bits (x : Int64) : EX12_bits [.long x] hp = some (nI (pcn x)) := by
  rw [eX12_bits_s, qX12_bits_0, bits_loop hp FU 0 x (by have := pcn_le x; have := FU_ge; omega), Int32.zero_add]
theorem first_loop (m : Int64) {k : Nat} (hk : k < 64) (hb : tb m k = true) (hl : ∀ j, j < k → tb m j = false) (n : Nat) : ∀ c : Nat, c ≤ k → k - c < n → lp BX12_first_2 n [(0, .long m), (2, .int (nI c))] [] hp = some (nI k) := by
  induction n with
  | zero => intro c h1 h2; omega
  | succ n ih =>
    intro c h1 h2
    show BX12_first_2 (lp BX12_first_2 n) _ _ _ = _
    rw [qX12_first_2]
    have hh := e_has hp m (k := c) (by omega)
    rw [qX12_first_4 hp _ m (nI c) (nI c) m hh]
    by_cases hc : c = k
    · subst hc
      rw [hb]
      rfl
    · rw [hl c (by omega)]
      have := ih (c + 1) (by omega) (by omega)
      rw [← nI_1] at this
      exact this
theorem e_first {m : Int64} {k : Nat} (hk : k < 64) (hb : tb m k = true) (hl : ∀ j, j < k → tb m j = false) : EX12_first [.long m] hp = some (nI k) := by
  rw [eX12_first_s, qX12_first_0]
  exact first_loop hp m hk hb hl FU 0 (by omega) (by have := FU_ge; omega)
end
