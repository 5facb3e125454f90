/-! Long.bitCount counts the bits: by bytes. -/
def lu (x : Int64) : Nat := x.toBitVec.toNat
theorem lu_lt (x : Int64) : lu x < 2 ^ 64 := x.toBitVec.isLt
theorem lu_tb (x : Int64) (i : Nat) : (lu x).testBit i = tb x i := rfl
theorem lu_add {x y : Int64} (h : lu x + lu y < 2 ^ 64) : lu (x + y) = lu x + lu y := by
  show (x + y).toBitVec.toNat = _
  rw [Int64.toBitVec_add, BitVec.toNat_add]
  exact Nat.mod_eq_of_lt h
theorem lu_sub {x y : Int64} (h : lu y ≤ lu x) : lu (x - y) = lu x - lu y := by
  show (x - y).toBitVec.toNat = _
  rw [Int64.toBitVec_sub, BitVec.toNat_sub]
  have h1 := lu_lt x
  have h2 := lu_lt y
  show (2 ^ 64 - lu y + lu x) % 2 ^ 64 = lu x - lu y
  rw [show 2 ^ 64 - lu y + lu x = 2 ^ 64 + (lu x - lu y) by omega, Nat.add_mod_left]
  exact Nat.mod_eq_of_lt (by omega)
theorem lu_and (x y : Int64) : lu (x &&& y) = lu x &&& lu y := by
  show (x &&& y).toBitVec.toNat = _
  rw [Int64.toBitVec_and, BitVec.toNat_and]
  rfl
theorem lu_shr (n : Nat) (hn : n < 64) (x : Int64) : lu ((x.toUInt64 >>> ((nI n).toInt64.toUInt64 &&& Int64.toUInt64 63)).toInt64) = lu x / 2 ^ n := by
  apply Nat.eq_of_testBit_eq
  intro i
  rw [lu_tb, tb_ushr n hn, Nat.testBit_div_two_pow, lu_tb, Nat.add_comm]
theorem tb_hi {v j : Nat} (h : v < 256) (hj : 8 ≤ j) : v.testBit j = false := Nat.testBit_lt_two_pow (Nat.lt_of_lt_of_le (show v < 2 ^ 8 from h) (Nat.pow_le_pow_right (by omega) hj))
/-- eight bytes -/
def od (f : Nat → Nat) (n : Nat) : Nat := fb_sm (fun i => f i * 2 ^ (8 * i)) n
theorem od_succ (f : Nat → Nat) (n : Nat) : od f (n + 1) = od f n + f n * 2 ^ (8 * n) := rfl
theorem od_lt {f : Nat → Nat} : ∀ {n : Nat}, (∀ i, i < n → f i < 256) → od f n < 2 ^ (8 * n) := by
  intro n
  induction n with
  | zero => intro _; show (0 : Nat) < _; exact Nat.two_pow_pos _
  | succ n ih =>
    intro h
    have h1 := ih (fun i hi => h i (by omega))
    have h2 := h n (by omega)
    rw [od_succ, show 8 * (n + 1) = 8 * n + 8 by omega, Nat.pow_add]
    have h3 : f n * 2 ^ (8 * n) ≤ 255 * 2 ^ (8 * n) := Nat.mul_le_mul_right _ (by omega)
    rw [Nat.mul_comm (2 ^ (8 * n)) (2 ^ 8)]
    omega
theorem od_tb {f : Nat → Nat} : ∀ {n : Nat}, (∀ i, i < n → f i < 256) → ∀ i j, i < n → j < 8 → (od f n).testBit (8 * i + j) = (f i).testBit j := by
  intro n
  induction n with
  | zero => intro _ i j hi; omega
  | succ n ih =>
    intro h i j hi hj
    have hlt := od_lt (f := f) (n := n) (fun i hi => h i (by omega))
    rw [od_succ, Nat.add_comm, Nat.mul_comm, Nat.testBit_two_pow_mul_add _ hlt]
    by_cases hin : i < n
    · rw [if_pos (by omega)]
      exact ih (fun i hi => h i (by omega)) i j hin hj
    · have : i = n := by omega
      subst this
      rw [if_neg (by omega), show 8 * i + j - 8 * i = j by omega]
theorem od_big {f : Nat → Nat} {n k : Nat} (h : ∀ i, i < n → f i < 256) (hk : 8 * n ≤ k) : (od f n).testBit k = false :=
  Nat.testBit_lt_two_pow (Nat.lt_of_lt_of_le (od_lt h) (Nat.pow_le_pow_right (by omega) hk))
theorem od_ext {f : Nat → Nat} {X : Nat} (hX : X < 2 ^ 64) (h : ∀ i, i < 8 → f i < 256) (hb : ∀ i j, i < 8 → j < 8 → X.testBit (8 * i + j) = (f i).testBit j) : X = od f 8 := by
  apply Nat.eq_of_testBit_eq
  intro k
  by_cases hk : k < 64
  · have e : k = 8 * (k / 8) + k % 8 := by omega
    rw [e, hb (k / 8) (k % 8) (by omega) (by omega), od_tb h (k / 8) (k % 8) (by omega) (by omega)]
  · rw [od_big h (by omega)]
    exact Nat.testBit_lt_two_pow (Nat.lt_of_lt_of_le hX (Nat.pow_le_pow_right (by omega) (by omega)))
/-- the bytes of a number -/
def by8 (X : Nat) (i : Nat) : Nat := X / 2 ^ (8 * i) % 256
theorem by8_lt (X i : Nat) : by8 X i < 256 := Nat.mod_lt _ (by omega)
theorem by8_tb (X i j : Nat) (hj : j < 8) : (by8 X i).testBit j = X.testBit (8 * i + j) := by
  unfold by8
  rw [show (256 : Nat) = 2 ^ 8 from rfl, Nat.testBit_mod_two_pow, Nat.testBit_div_two_pow]
  simp [hj, Nat.add_comm]
theorem od_by8 {X : Nat} (h : X < 2 ^ 64) : X = od (by8 X) 8 := od_ext h (fun i _ => by8_lt X i) (fun i j _ hj => (by8_tb X i j hj).symm)
theorem by8_od {f : Nat → Nat} (h : ∀ i, i < 8 → f i < 256) {i : Nat} (hi : i < 8) : by8 (od f 8) i = f i := by
  apply Nat.eq_of_testBit_eq
  intro j
  by_cases hj : j < 8
  · rw [by8_tb _ _ _ hj, od_tb h i j hi hj]
  · rw [tb_hi (by8_lt _ i) (by omega), tb_hi (h i hi) (by omega)]
theorem od_add (f g : Nat → Nat) : ∀ n, od f n + od g n = od (fun i => f i + g i) n := by
  intro n
  induction n with
  | zero => rfl
  | succ n ih => rw [od_succ, od_succ, od_succ, ← ih, Nat.add_mul]; omega
theorem od_cong {f g : Nat → Nat} {n : Nat} (h : ∀ i, i < n → f i = g i) : od f n = od g n := fb_sm_cong (fun k hk => by rw [h k hk])
theorem od_le {f g : Nat → Nat} : ∀ {n : Nat}, (∀ i, i < n → f i ≤ g i) → od f n ≤ od g n := fun h => fb_sm_le (fun k hk => Nat.mul_le_mul_right _ (h k hk))
/-- a mask of like bytes, behind a shift that it keeps within the bytes -/
theorem by8_shand {X s mb M : Nat} (hM : ∀ i, i < 8 → ∀ j, j < 8 → M.testBit (8 * i + j) = mb.testBit j) (hmb : mb < 2 ^ (8 - s)) (hs : s < 8) {i : Nat} (hi : i < 8) : by8 (X / 2 ^ s &&& M) i = by8 X i / 2 ^ s &&& mb := by
  apply Nat.eq_of_testBit_eq
  intro j
  by_cases hj : j < 8
  · rw [by8_tb _ _ _ hj, Nat.testBit_and, Nat.testBit_and, hM i hi j hj, Nat.testBit_div_two_pow, Nat.testBit_div_two_pow]
    by_cases hj2 : j < 8 - s
    · rw [by8_tb _ _ _ (by omega), show 8 * i + j + s = 8 * i + (j + s) by omega]
    · rw [Nat.testBit_lt_two_pow (x := mb) (Nat.lt_of_lt_of_le hmb (Nat.pow_le_pow_right (by omega) (by omega)))]
      simp
  · rw [tb_hi (by8_lt _ i) (by omega), Nat.testBit_and, Nat.testBit_lt_two_pow (x := mb) (Nat.lt_of_lt_of_le hmb (Nat.pow_le_pow_right (by omega) (by omega)))]
    simp
theorem m55 : ∀ i, i < 8 → ∀ j, j < 8 → (lu 6148914691236517205).testBit (8 * i + j) = (85 : Nat).testBit j := by decide +kernel
theorem m33 : ∀ i, i < 8 → ∀ j, j < 8 → (lu 3689348814741910323).testBit (8 * i + j) = (51 : Nat).testBit j := by decide +kernel
theorem m0f : ∀ i, i < 8 → ∀ j, j < 8 → (lu 1085102592571150095).testBit (8 * i + j) = (15 : Nat).testBit j := by decide +kernel
def bc1 (x : Int64) : Int64 := x - ((x.toUInt64 >>> ((1 : Int32).toInt64.toUInt64 &&& Int64.toUInt64 63)).toInt64 &&& 6148914691236517205)
def bc2 (x : Int64) : Int64 := (x &&& 3689348814741910323) + ((x.toUInt64 >>> ((2 : Int32).toInt64.toUInt64 &&& Int64.toUInt64 63)).toInt64 &&& 3689348814741910323)
def bc3 (x : Int64) : Int64 := (x + (x.toUInt64 >>> ((4 : Int32).toInt64.toUInt64 &&& Int64.toUInt64 63)).toInt64) &&& 1085102592571150095
def bc4 (s : Int32) (x : Int64) : Int64 := x + (x.toUInt64 >>> (s.toInt64.toUInt64 &&& Int64.toUInt64 63)).toInt64
def bcnt (x : Int64) : Int32 := (bc4 32 (bc4 16 (bc4 8 (bc3 (bc2 (bc1 x)))))).toInt32 &&& 127
def g1 (v : Nat) : Nat := v - (v / 2 &&& 85)
def g2 (v : Nat) : Nat := (v &&& 51) + (v / 4 &&& 51)
def g3 (v : Nat) : Nat := (v + v / 16) &&& 15
def pop8 (v : Nat) : Nat := fb_ct v.testBit 8
theorem g_ok : ∀ v, v < 256 → (v / 2 &&& 85) ≤ v ∧ g1 v ≤ 170 ∧ (g1 v &&& 51) + (g1 v / 4 &&& 51) ≤ 68 ∧ (g2 (g1 v) % 16 ≤ 4) ∧ g3 (g2 (g1 v)) = pop8 v := by decide +kernel
theorem lu_bc1 (x : Int64) : lu (bc1 x) = od (fun i => g1 (by8 (lu x) i)) 8 := by
  have hm : lu ((x.toUInt64 >>> ((1 : Int32).toInt64.toUInt64 &&& Int64.toUInt64 63)).toInt64 &&& 6148914691236517205) = od (fun i => by8 (lu x) i / 2 &&& 85) 8 := by
    have hsh : lu ((x.toUInt64 >>> ((1 : Int32).toInt64.toUInt64 &&& Int64.toUInt64 63)).toInt64) = lu x / 2 ^ 1 := lu_shr 1 (by omega) x
    rw [lu_and, hsh, od_by8 (X := lu x / 2 ^ 1 &&& lu 6148914691236517205) (Nat.lt_of_le_of_lt Nat.and_le_left (Nat.lt_of_le_of_lt (Nat.div_le_self _ _) (lu_lt x)))]
    exact od_cong (fun i hi => by8_shand m55 (by omega) (by omega) hi)
  have hx := od_by8 (lu_lt x)
  have hle : od (fun i => by8 (lu x) i / 2 &&& 85) 8 ≤ lu x := by
    conv => rhs; rw [hx]
    exact od_le (fun i _ => (g_ok _ (by8_lt _ i)).1)
  unfold bc1
  rw [lu_sub (by rw [hm]; exact hle), hm]
  have hsum : od (fun i => g1 (by8 (lu x) i)) 8 + od (fun i => by8 (lu x) i / 2 &&& 85) 8 = lu x := by
    rw [od_add]
    conv => rhs; rw [hx]
    exact od_cong (fun i _ => by have := (g_ok _ (by8_lt (lu x) i)).1; unfold g1; omega)
  omega
theorem lu_bc2 (x : Int64) (f : Nat → Nat) (hf : ∀ i, i < 8 → f i < 256) (h2 : ∀ i, i < 8 → (f i &&& 51) + (f i / 4 &&& 51) ≤ 68) (hx : lu x = od f 8) : lu (bc2 x) = od (fun i => g2 (f i)) 8 := by
  have ha : lu (x &&& 3689348814741910323) = od (fun i => f i &&& 51) 8 := by
    rw [lu_and, od_by8 (X := lu x &&& lu 3689348814741910323) (Nat.lt_of_le_of_lt Nat.and_le_left (lu_lt x))]
    refine od_cong (fun i hi => ?_)
    have := by8_shand (X := lu x) (s := 0) (mb := 51) m33 (by omega) (by omega) hi
    rw [Nat.pow_zero, Nat.div_one, Nat.div_one] at this
    rw [this, hx, by8_od hf hi]
  have hb : lu ((x.toUInt64 >>> ((2 : Int32).toInt64.toUInt64 &&& Int64.toUInt64 63)).toInt64 &&& 3689348814741910323) = od (fun i => f i / 4 &&& 51) 8 := by
    have hsh : lu ((x.toUInt64 >>> ((2 : Int32).toInt64.toUInt64 &&& Int64.toUInt64 63)).toInt64) = lu x / 2 ^ 2 := lu_shr 2 (by omega) x
    rw [lu_and, hsh, od_by8 (X := lu x / 2 ^ 2 &&& lu 3689348814741910323) (Nat.lt_of_le_of_lt Nat.and_le_left (Nat.lt_of_le_of_lt (Nat.div_le_self _ _) (lu_lt x)))]
    refine od_cong (fun i hi => ?_)
    rw [by8_shand m33 (by omega) (by omega) hi, hx, by8_od hf hi]
  unfold bc2
  have hs : od (fun i => f i &&& 51) 8 + od (fun i => f i / 4 &&& 51) 8 = od (fun i => g2 (f i)) 8 := od_add _ _ 8
  rw [lu_add (by rw [ha, hb, hs]; exact od_lt (n := 8) (fun i hi => by have := h2 i hi; unfold g2; omega)), ha, hb, hs]
theorem od_shift8 (f : Nat → Nat) (hf : ∀ i, i < 8 → f i < 256) (k : Nat) (hk : k ≤ 8) : od f 8 / 2 ^ (8 * k) = od (fun i => if i + k < 8 then f (i + k) else 0) 8 := by
  apply od_ext
  · exact Nat.lt_of_le_of_lt (Nat.div_le_self _ _) (od_lt (n := 8) hf)
  · intro i hi
    split
    · exact hf _ (by assumption)
    · omega
  · intro i j hi hj
    rw [Nat.testBit_div_two_pow, show 8 * i + j + 8 * k = 8 * (i + k) + j by omega]
    by_cases h : i + k < 8
    · rw [if_pos h, od_tb hf (i + k) j h hj]
    · rw [if_neg h, od_big hf (by omega), Nat.zero_testBit]
theorem lu_bc3 (x : Int64) (f : Nat → Nat) (hf : ∀ i, i < 8 → f i ≤ 68) (hf4 : ∀ i, i < 8 → f i % 16 ≤ 4) (hx : lu x = od f 8) : lu (bc3 x) = od (fun i => g3 (f i)) 8 := by
  have hf2 : ∀ i, i < 8 → f i < 256 := fun i hi => by have := hf i hi; omega
  have h4 : lu x / 2 ^ 4 = od (fun i => f i / 16 + (if i + 1 < 8 then f (i + 1) % 16 * 16 else 0)) 8 := by
    rw [hx]
    apply od_ext
    · exact Nat.lt_of_le_of_lt (Nat.div_le_self _ _) (od_lt (n := 8) hf2)
    · intro i hi
      have h1 := hf2 i hi
      split
      · have : f (i + 1) % 16 < 16 := Nat.mod_lt _ (by omega)
        omega
      · omega
    · intro i j hi hj
      have h1 : f i / 16 < 2 ^ 4 := by have := hf2 i hi; omega
      rw [Nat.testBit_div_two_pow, Nat.add_comm (f i / 16)]
      have h2 : (if i + 1 < 8 then f (i + 1) % 16 * 16 else 0) = 2 ^ 4 * (if i + 1 < 8 then f (i + 1) % 16 else 0) := by split <;> omega
      rw [h2, Nat.testBit_two_pow_mul_add _ h1]
      by_cases hj4 : j < 4
      · rw [if_pos hj4, show 8 * i + j + 4 = 8 * i + (j + 4) by omega, od_tb hf2 i (j + 4) hi (by omega), show (16 : Nat) = 2 ^ 4 from rfl, Nat.testBit_div_two_pow]
      · rw [if_neg hj4, show 8 * i + j + 4 = 8 * (i + 1) + (j - 4) by omega]
        by_cases hi1 : i + 1 < 8
        · rw [if_pos hi1, od_tb hf2 (i + 1) (j - 4) hi1 (by omega), show (16 : Nat) = 2 ^ 4 from rfl, Nat.testBit_mod_two_pow]
          simp [show j - 4 < 4 by omega]
        · rw [if_neg hi1, od_big hf2 (by omega), Nat.zero_testBit]
  have hsum : od f 8 + od (fun i => f i / 16 + (if i + 1 < 8 then f (i + 1) % 16 * 16 else 0)) 8 = od (fun i => f i + (f i / 16 + (if i + 1 < 8 then f (i + 1) % 16 * 16 else 0))) 8 := od_add _ _ 8
  have hb : ∀ i, i < 8 → f i + (f i / 16 + (if i + 1 < 8 then f (i + 1) % 16 * 16 else 0)) < 256 := by
    intro i hi
    have h1 := hf i hi
    split
    · rename_i h
      have h2 := hf (i + 1) h
      have h3 := hf4 (i + 1) h
      omega
    · omega
  unfold bc3
  have hadd : lu (x + (x.toUInt64 >>> ((4 : Int32).toInt64.toUInt64 &&& Int64.toUInt64 63)).toInt64) = od (fun i => f i + (f i / 16 + (if i + 1 < 8 then f (i + 1) % 16 * 16 else 0))) 8 := by
    have hsh := lu_shr 4 (by omega) x
    have hsh : lu ((x.toUInt64 >>> ((4 : Int32).toInt64.toUInt64 &&& Int64.toUInt64 63)).toInt64) = lu x / 2 ^ 4 := hsh
    rw [lu_add (by rw [hsh, h4, hx, hsum]; exact od_lt (n := 8) hb), hsh, h4, hx, hsum]
  rw [lu_and, hadd]
  rw [od_by8 (X := od (fun i => f i + (f i / 16 + (if i + 1 < 8 then f (i + 1) % 16 * 16 else 0))) 8 &&& lu 1085102592571150095) (Nat.lt_of_le_of_lt Nat.and_le_left (od_lt (n := 8) hb))]
  refine od_cong (fun i hi => ?_)
  have := by8_shand (X := od (fun i => f i + (f i / 16 + (if i + 1 < 8 then f (i + 1) % 16 * 16 else 0))) 8) (s := 0) (mb := 15) m0f (by omega) (by omega) hi
  rw [Nat.pow_zero, Nat.div_one, Nat.div_one] at this
  rw [this, by8_od hb hi]
  unfold g3
  rw [show (15 : Nat) = 2 ^ 4 - 1 from rfl, Nat.and_two_pow_sub_one_eq_mod, Nat.and_two_pow_sub_one_eq_mod]
  split <;> omega
theorem lu_bc4 (k : Nat) (hk : k < 8) (x : Int64) (f : Nat → Nat) {b : Nat} (hb : 2 * b < 256) (hf : ∀ i, i < 8 → f i ≤ b) (hx : lu x = od f 8) : lu (bc4 (nI (8 * k)) x) = od (fun i => f i + (if i + k < 8 then f (i + k) else 0)) 8 := by
  have hf2 : ∀ i, i < 8 → f i < 256 := fun i hi => by have := hf i hi; omega
  unfold bc4
  have hsh := lu_shr (8 * k) (by omega) x
  have h1 : lu x / 2 ^ (8 * k) = od (fun i => if i + k < 8 then f (i + k) else 0) 8 := by rw [hx]; exact od_shift8 f hf2 k (by omega)
  have hs : od f 8 + od (fun i => if i + k < 8 then f (i + k) else 0) 8 = od (fun i => f i + (if i + k < 8 then f (i + k) else 0)) 8 := od_add _ _ 8
  rw [lu_add (by
    rw [hsh, h1, hx, hs]
    exact od_lt (n := 8) (fun i hi => by
      have := hf i hi
      split
      · rename_i h; have := hf (i + k) h; omega
      · omega)), hsh, h1, hx, hs]
theorem pop8_le (v : Nat) : pop8 v ≤ 8 := fb_ct_le _ 8
theorem bcnt_eq (x : Int64) : bcnt x = nI (pcn x) := by
  have h1 := lu_bc1 x
  have hg : ∀ i, _ := fun i => g_ok (by8 (lu x) i) (by8_lt _ i)
  have h2 := lu_bc2 (bc1 x) _ (fun i _ => by have := (hg i).2.1; omega) (fun i _ => (hg i).2.2.1) h1
  have h3 := lu_bc3 (bc2 (bc1 x)) _ (fun i _ => (hg i).2.2.1) (fun i _ => (hg i).2.2.2.1) h2
  have h3 : lu (bc3 (bc2 (bc1 x))) = od (fun i => pop8 (by8 (lu x) i)) 8 := by
    rw [h3]
    exact od_cong (fun i _ => (hg i).2.2.2.2)
  have p0 : ∀ i, pop8 (by8 (lu x) i) ≤ 8 := fun i => pop8_le _
  have h4 := lu_bc4 1 (by omega) _ _ (b := 8) (by omega) (fun i _ => p0 i) h3
  have h5 := lu_bc4 2 (by omega) _ _ (b := 16) (by omega) (fun i _ => by have := p0 i; have := p0 (i + 1); split <;> omega) h4
  have h6 := lu_bc4 4 (by omega) _ _ (b := 32) (by omega) (fun i _ => by have := p0 i; have := p0 (i + 1); have := p0 (i + 2); have := p0 (i + 2 + 1); (repeat' split) <;> omega) h5
  have h6 : lu (bc4 32 (bc4 16 (bc4 8 (bc3 (bc2 (bc1 x)))))) = _ := h6
  have hd : by8 (lu (bc4 32 (bc4 16 (bc4 8 (bc3 (bc2 (bc1 x))))))) 0 = pop8 (by8 (lu x) 0) + pop8 (by8 (lu x) 1) + pop8 (by8 (lu x) 2) + pop8 (by8 (lu x) 3) + pop8 (by8 (lu x) 4) + pop8 (by8 (lu x) 5) + pop8 (by8 (lu x) 6) + pop8 (by8 (lu x) 7) := by
    rw [h6, by8_od (fun i hi => by have := p0 i; have := p0 (i + 1); have := p0 (i + 2); have := p0 (i + 2 + 1); have := p0 (i + 4); have := p0 (i + 4 + 1); have := p0 (i + 4 + 2); have := p0 (i + 4 + 2 + 1); (repeat' split) <;> omega) (by omega : 0 < 8)]
    simp
    omega
  have hp : pcn x = pop8 (by8 (lu x) 0) + pop8 (by8 (lu x) 1) + pop8 (by8 (lu x) 2) + pop8 (by8 (lu x) 3) + pop8 (by8 (lu x) 4) + pop8 (by8 (lu x) 5) + pop8 (by8 (lu x) 6) + pop8 (by8 (lu x) 7) := by
    have hpart : ∀ i, fb_ct (fun k => tb x (8 * i + k)) 8 = pop8 (by8 (lu x) i) := fun i => fb_ct_cong (fun k hk => by rw [by8_tb _ _ _ hk, lu_tb])
    unfold pcn
    rw [show (64 : Nat) = 8 + (8 + (8 + (8 + (8 + (8 + (8 + 8)))))) from rfl]
    simp only [fb_ct_split]
    rw [← hpart 0, ← hpart 1, ← hpart 2, ← hpart 3, ← hpart 4, ← hpart 5, ← hpart 6, ← hpart 7]
    simp only [Nat.mul_zero, Nat.zero_add, Nat.mul_one, ← Nat.add_assoc]
  unfold bcnt
  rw [pk_and _ 7 (by decide)]
  congr 1
  rw [hp, ← hd]
  have hle := pcn_le x
  rw [hp, ← hd] at hle
  show (bc4 32 (bc4 16 (bc4 8 (bc3 (bc2 (bc1 x)))))).toInt32.toBitVec.toNat % 2 ^ 7 = _
  have e : (bc4 32 (bc4 16 (bc4 8 (bc3 (bc2 (bc1 x)))))).toInt32.toBitVec.toNat = lu (bc4 32 (bc4 16 (bc4 8 (bc3 (bc2 (bc1 x)))))) % 2 ^ 32 := by
    rw [Int64.toBitVec_toInt32]
    first | rw [BitVec.signExtend_eq_setWidth_of_le _ (by omega), BitVec.toNat_setWidth] | rw [BitVec.signExtend_eq_setWidth_of_lt _ (by omega), BitVec.toNat_setWidth]
    rfl
  rw [e]
  unfold by8 at hle ⊢
  simp only [Nat.mul_zero, Nat.pow_zero, Nat.div_one] at hle ⊢
  omega
