/-! Bits of a long. -/
def tb (x : Int64) (k : Nat) : Bool := x.toBitVec.getLsbD k
theorem tb_ext {x y : Int64} (h : ∀ k, k < 64 → tb x k = tb y k) : x = y := Int64.toBitVec_inj.mp (BitVec.eq_of_getLsbD_eq (fun i hi => h i hi))
theorem tb_or (x y : Int64) (i : Nat) : tb (x ||| y) i = (tb x i || tb y i) := by unfold tb; rw [Int64.toBitVec_or, BitVec.getLsbD_or]
theorem tb_and (x y : Int64) (i : Nat) : tb (x &&& y) i = (tb x i && tb y i) := by unfold tb; rw [Int64.toBitVec_and, BitVec.getLsbD_and]
theorem tb_xor (x y : Int64) (i : Nat) : tb (x ^^^ y) i = (tb x i ^^ tb y i) := by unfold tb; rw [Int64.toBitVec_xor, BitVec.getLsbD_xor]
theorem tb_big {x : Int64} {i : Nat} (h : 64 ≤ i) : tb x i = false := BitVec.getLsbD_of_ge _ _ h
theorem tb_0 (i : Nat) : tb 0 i = false := BitVec.getLsbD_zero
theorem tb_m1 : ∀ i, i < 64 → tb (-1) i = true := by decide +kernel
theorem tb_not (x : Int64) {i : Nat} (hi : i < 64) : tb (x ^^^ (-1)) i = !tb x i := by rw [tb_xor, tb_m1 i hi, Bool.xor_true]
theorem tb_andnot (x y : Int64) (i : Nat) : tb (x &&& (y ^^^ (-1))) i = (tb x i && !tb y i) := by
  rcases Nat.lt_or_ge i 64 with h | h
  · rw [tb_and, tb_not y h]
  · rw [tb_big h, tb_big h]; rfl
theorem lsh : ∀ n, n < 64 → (((nI n).toInt64 &&& 63).toBitVec.smod 64).toNat = n := by decide +kernel
theorem lsu : ∀ n, n < 64 → (((nI n).toInt64.toUInt64 &&& Int64.toUInt64 63).toBitVec % 64).toNat = n := by decide +kernel
theorem tb_shl (n : Nat) (hn : n < 64) (x : Int64) (i : Nat) : tb (x <<< ((nI n).toInt64 &&& 63)) i = (decide (i < 64) && (decide (n ≤ i) && tb x (i - n))) := by
  unfold tb
  rw [Int64.toBitVec_shiftLeft]
  show (x.toBitVec <<< (((nI n).toInt64 &&& 63).toBitVec.smod 64).toNat).getLsbD i = _
  rw [lsh n hn, BitVec.getLsbD_shiftLeft]
  rcases Nat.lt_or_ge i n with h | h
  · simp [h, Nat.not_le.mpr h]
  · simp [h, Nat.not_lt.mpr h]
theorem tb_ushr (n : Nat) (hn : n < 64) (x : Int64) (i : Nat) : tb ((x.toUInt64 >>> ((nI n).toInt64.toUInt64 &&& Int64.toUInt64 63)).toInt64) i = tb x (n + i) := by
  show (x.toUInt64 >>> ((nI n).toInt64.toUInt64 &&& Int64.toUInt64 63)).toBitVec.getLsbD i = x.toUInt64.toBitVec.getLsbD (n + i)
  rw [UInt64.toBitVec_shiftRight]
  show (x.toUInt64.toBitVec >>> (((nI n).toInt64.toUInt64 &&& Int64.toUInt64 63).toBitVec % 64).toNat).getLsbD i = _
  rw [lsu n hn, BitVec.getLsbD_ushiftRight]
theorem tb_sshr (n : Nat) (hn : n < 64) (x : Int64) {i : Nat} (hi : i < 64) : tb (x >>> ((nI n).toInt64 &&& 63)) i = if n + i < 64 then tb x (n + i) else tb x 63 := by
  unfold tb
  rw [Int64.toBitVec_shiftRight]
  show (x.toBitVec.sshiftRight (((nI n).toInt64 &&& 63).toBitVec.smod 64).toNat).getLsbD i = _
  rw [lsh n hn, BitVec.getLsbD_sshiftRight, BitVec.msb_eq_getLsbD_last]
  simp [hi]
theorem tb_one (i : Nat) : tb 1 i = decide (i = 0) := by
  rcases Nat.lt_or_ge i 64 with h | h
  · exact (by decide +kernel : ∀ i, i < 64 → tb 1 i = decide (i = 0)) i h
  · rw [tb_big h, decide_eq_false (by omega)]
/-- one bit -/
theorem tb_bit (n : Nat) (hn : n < 64) (i : Nat) : tb ((1 : Int64) <<< ((nI n).toInt64 &&& 63)) i = decide (i = n) := by
  rw [tb_shl n hn, tb_one]
  by_cases h : i = n
  · subst h; simp [hn]
  · by_cases h2 : n ≤ i
    · simp [h, show ¬ i - n = 0 by omega]
    · simp [h, h2]
theorem and1 (x : Int64) : x &&& 1 = if tb x 0 then 1 else 0 := by
  apply tb_ext
  intro k hk
  rw [tb_and, tb_one]
  by_cases h : k = 0
  · subst h
    cases h2 : tb x 0 <;> simp [tb_one, tb_0]
  · cases h2 : tb x 0 <;> simp [h, tb_one, tb_0]
theorem lgc0 (x y : Int64) : lg_cmp x y = 0 ↔ x = y := by
  unfold lg_cmp
  by_cases h : x = y
  · subst h; simp
  · by_cases h2 : x > y
    · simp [h, h2]
    · simp [h, h2]
theorem tb_ne0 {x : Int64} : x ≠ 0 ↔ ∃ k, k < 64 ∧ tb x k = true := by
  constructor
  · intro h
    by_cases hx : ∃ k, k < 64 ∧ tb x k = true
    · exact hx
    · exfalso
      apply h
      apply tb_ext
      intro k hk
      rw [tb_0]
      cases h2 : tb x k with
      | false => rfl
      | true => exact absurd ⟨k, hk, h2⟩ hx
  · rintro ⟨k, -, hk⟩ h
    rw [h, tb_0] at hk
    cases hk
/-- how many bits -/
def pcn (x : Int64) : Nat := fb_ct (tb x) 64
theorem pcn_le (x : Int64) : pcn x ≤ 64 := fb_ct_le _ 64
/-- the lowest bit goes -/
theorem tb_low {x : Int64} (h : x ≠ 0) : ∃ k, k < 64 ∧ tb x k = true ∧ (∀ j, j < k → tb x j = false) ∧ ∀ j, tb (x &&& (x - 1)) j = (tb x j && !decide (j = k)) := by
  obtain ⟨k0, hk0, hb0⟩ := tb_ne0.mp h
  obtain ⟨k, hk, hb, hl⟩ := fb_first (p := fun k => tb x k = true) ⟨k0, hk0, hb0⟩
  refine ⟨k, hk, hb, fun j hj => by cases h2 : tb x j with | false => rfl | true => exact absurd h2 (hl j hj), fun j => ?_⟩
  have hN : x.toBitVec.toNat < 2 ^ 64 := x.toBitVec.isLt
  have hbt : ∀ i, tb x i = x.toBitVec.toNat.testBit i := fun i => rfl
  have hmod : x.toBitVec.toNat % 2 ^ k = 0 := by
    apply Nat.eq_of_testBit_eq
    intro i
    rw [Nat.testBit_mod_two_pow, Nat.zero_testBit]
    by_cases hi : i < k
    · have := hl i hi
      rw [hbt] at this
      simp [hi, this]
    · simp [hi]
  have hk1 : x.toBitVec.toNat = 2 ^ k * (x.toBitVec.toNat / 2 ^ k) := by
    have := Nat.div_add_mod x.toBitVec.toNat (2 ^ k)
    omega
  have hodd : (x.toBitVec.toNat / 2 ^ k) % 2 = 1 := by
    rw [hbt] at hb
    rw [Nat.testBit_eq_decide_div_mod_eq] at hb
    simpa using hb
  obtain ⟨a, ha⟩ : ∃ a, x.toBitVec.toNat / 2 ^ k = 2 * a + 1 := ⟨x.toBitVec.toNat / 2 ^ k / 2, by omega⟩
  have hp : 0 < 2 ^ k := Nat.two_pow_pos k
  have hx1 : x.toBitVec.toNat = 2 ^ k * (2 * a) + 2 ^ k := by rw [hk1, ha, Nat.mul_add, Nat.mul_one]
  have hsub : (x - 1).toBitVec.toNat = 2 ^ k * (2 * a) + (2 ^ k - 1) := by
    rw [Int64.toBitVec_sub, BitVec.toNat_sub]
    show (2 ^ 64 - 1 + x.toBitVec.toNat) % 2 ^ 64 = _
    rw [hx1]
    rw [show 2 ^ 64 - 1 + (2 ^ k * (2 * a) + 2 ^ k) = 2 ^ 64 + (2 ^ k * (2 * a) + (2 ^ k - 1)) by omega, Nat.add_mod_left]
    exact Nat.mod_eq_of_lt (by omega)
  rw [tb_and]
  have hbs : tb (x - 1) j = (2 ^ k * (2 * a) + (2 ^ k - 1)).testBit j := by
    show (x - 1).toBitVec.toNat.testBit j = _
    rw [hsub]
  have hbx : tb x j = (2 ^ k * (2 * a + 1) + 0).testBit j := by
    rw [hbt, Nat.add_zero, ← ha, ← hk1]
  rw [hbs, Nat.testBit_two_pow_mul_add _ (by omega)]
  by_cases hj : j < k
  · have := hl j hj
    simp only [Bool.not_eq_true] at this
    rw [this]; rfl
  · rw [if_neg hj]
    by_cases hjk : j = k
    · subst hjk
      simp [Nat.testBit_zero]
    · rw [hbx, Nat.testBit_two_pow_mul_add _ (by omega), if_neg hj]
      obtain ⟨d, hd⟩ : ∃ d, j - k = d + 1 := ⟨j - k - 1, by omega⟩
      rw [hd, Nat.testBit_succ, Nat.testBit_succ, show 2 * a / 2 = a by omega, show (2 * a + 1) / 2 = a by omega]
      simp [hjk]
theorem pcn_low {x : Int64} (h : x ≠ 0) : pcn (x &&& (x - 1)) + 1 = pcn x := by
  obtain ⟨k, hk, hb, -, hj⟩ := tb_low h
  have h1 := fb_ct_upd (tb x) false hk
  have h2 : fb_ct (fun j => if j = k then false else tb x j) 64 = pcn (x &&& (x - 1)) := by
    apply fb_ct_cong
    intro j _
    rw [hj]
    by_cases hjk : j = k <;> simp [hjk]
  rw [h2, hb] at h1
  simpa [pcn] using h1
theorem pcn_0 : pcn 0 = 0 := fb_ct_zero.mpr (fun k _ => tb_0 k)
theorem pcn_eq0 {x : Int64} : pcn x = 0 ↔ x = 0 := by
  constructor
  · intro h
    apply tb_ext
    intro k hk
    rw [tb_0, fb_ct_zero.mp h k hk]
  · intro h; rw [h]; exact pcn_0
