/-! Tokens: how the class parts the tape. -/
def bt (f : Nat → Int32) (k : Nat) : Nat := (f k).toBitVec.toNat % 2 ^ 8
theorem bt_lt (f : Nat → Int32) (k : Nat) : bt f k < 256 := Nat.mod_lt _ (by decide)
theorem bt_and (f : Nat → Int32) (k : Nat) : f k &&& 255 = nI (bt f k) := pk_and (f k) 8 (by decide)
def kd (b : Nat) : Nat := if 97 ≤ b ∧ b ≤ 122 then 1 else if 48 ≤ b ∧ b ≤ 57 then 2 else if b = 59 ∨ b = 44 then 3 else 4
theorem kd_le (b : Nat) : 1 ≤ kd b ∧ kd b ≤ 4 := by unfold kd; repeat (first | omega | split)
theorem c_kind (hp : HP) {b : Nat} (h : b < 256) : EX7_kindOf [.int (nI b)] hp = some (nI (kd b)) := by
  rw [eX7_kindOf_s, qX7_kindOf_0, qX7_kindOf_14, qX7_kindOf_28, show (97 : Int32) = nI 97 from rfl, show (122 : Int32) = nI 122 from rfl, show (48 : Int32) = nI 48 from rfl, show (57 : Int32) = nI 57 from rfl, show (59 : Int32) = nI 59 from rfl, show (44 : Int32) = nI 44 from rfl, if_lt (by omega) (by omega), if_lt (by omega) (by omega), if_lt (by omega) (by omega), if_lt (by omega) (by omega), if_eq (by omega) (by omega), if_eq (by omega) (by omega)]
  unfold kd
  by_cases h1 : b < 97
  · rw [if_pos h1, if_neg (by omega : ¬ (97 ≤ b ∧ b ≤ 122))]
    by_cases h2 : b < 48
    · rw [if_pos h2, if_neg (by omega : ¬ (48 ≤ b ∧ b ≤ 57))]
      by_cases h3 : b = 59
      · omega
      · rw [if_neg h3]
        by_cases h4 : b = 44
        · rw [if_pos h4, if_pos (Or.inr h4)]; rfl
        · rw [if_neg h4, if_neg (by omega)]; rfl
    · rw [if_neg h2]
      by_cases h5 : 57 < b
      · rw [if_pos h5, if_neg (by omega : ¬ (48 ≤ b ∧ b ≤ 57))]
        by_cases h3 : b = 59
        · rw [if_pos h3, if_pos (Or.inl h3)]; rfl
        · rw [if_neg h3, if_neg (by omega), if_neg (by omega)]; rfl
      · rw [if_neg h5, if_pos (by omega)]; rfl
  · rw [if_neg h1]
    by_cases h5 : 122 < b
    · rw [if_pos h5, if_neg (by omega : ¬ (97 ≤ b ∧ b ≤ 122)), if_neg (by omega), if_pos (by omega), if_neg (by omega), if_neg (by omega), if_neg (by omega), if_neg (by omega)]; rfl
    · rw [if_neg h5, if_pos (by omega)]; rfl
/-- the blanks from p on end at q -/
def Skp (B : Nat → Nat) (n p q : Nat) : Prop := p ≤ q ∧ q ≤ n ∧ (∀ k, p ≤ k → k < q → B k = 32) ∧ (q < n → B q ≠ 32)
theorem skp_ex (B : Nat → Nat) {n p : Nat} (h : p ≤ n) : ∃ q, Skp B n p q := by
  obtain ⟨d, rfl⟩ := Nat.le.dest h
  induction d generalizing p with
  | zero => exact ⟨p, Nat.le_refl _, Nat.le_refl _, fun k h1 h2 => by omega, fun h1 => by omega⟩
  | succ d ih =>
    by_cases e : B p = 32
    · obtain ⟨q, h1, h2, h3, h4⟩ := ih (p := p + 1) (by omega)
      refine ⟨q, by omega, by omega, fun k h5 h6 => ?_, fun h5 => h4 (by omega)⟩
      by_cases h7 : k = p
      · rw [h7]; exact e
      · exact h3 k (by omega) h6
    · exact ⟨p, Nat.le_refl _, by omega, fun k h1 h2 => by omega, fun _ => e⟩
/-- the token at q ends at e -/
def Rn (B : Nat → Nat) (n q e : Nat) : Prop := q < e ∧ e ≤ n ∧ (∀ k, q ≤ k → k < e → kd (B k) = kd (B q)) ∧ (kd (B q) ≤ 2 → e < n → kd (B e) ≠ kd (B q)) ∧ (2 < kd (B q) → e = q + 1)
theorem run_ex (B : Nat → Nat) (c : Nat) {n q : Nat} (h : q ≤ n) : ∃ e, q ≤ e ∧ e ≤ n ∧ (∀ k, q ≤ k → k < e → kd (B k) = c) ∧ (e < n → kd (B e) ≠ c) := by
  obtain ⟨d, rfl⟩ := Nat.le.dest h
  induction d generalizing q with
  | zero => exact ⟨q, Nat.le_refl _, Nat.le_refl _, fun k h1 h2 => by omega, fun h1 => by omega⟩
  | succ d ih =>
    by_cases e : kd (B q) = c
    · obtain ⟨r, h1, h2, h3, h4⟩ := ih (q := q + 1) (by omega)
      refine ⟨r, by omega, by omega, fun k h5 h6 => ?_, fun h5 => h4 (by omega)⟩
      by_cases h7 : k = q
      · rw [h7]; exact e
      · exact h3 k (by omega) h6
    · exact ⟨q, Nat.le_refl _, by omega, fun k h1 h2 => by omega, fun _ => e⟩
theorem rn_ex (B : Nat → Nat) {n q : Nat} (h : q < n) : ∃ e, Rn B n q e := by
  by_cases h2 : kd (B q) ≤ 2
  · obtain ⟨e, h3, h4, h5, h6⟩ := run_ex B (kd (B q)) (n := n) (q := q) (by omega)
    refine ⟨e, ?_, h4, h5, fun _ => h6, fun h7 => by omega⟩
    by_cases h7 : q = e
    · exact absurd rfl (h7 ▸ h6 (by omega))
    · omega
  · exact ⟨q + 1, by omega, by omega, fun k h3 h4 => by rw [show k = q by omega], fun h3 => absurd h3 h2, fun _ => rfl⟩
def vl (B : Nat → Nat) (q : Nat) : Nat → Int32
  | 0 => 0
  | t + 1 => vl B q t * 10 + (nI (B (q + t)) - 48)
def cdv (B : Nat → Nat) (q : Nat) : Nat → Int64
  | 0 => 0
  | t + 1 => cdv B q t * 32 + (nI (B (q + t)) - 97 + 1).toInt64
def mostB (k : Nat) : Nat := if k = 1 then 8 else if k = 2 then 3 else 1
section
variable {mz : MzS} {tp : TpS} {rd : RdS} {hi : HiS} {sc : ScS} {pl dr : PlS} {wa wb : WaS} {rc : Nat → Int32}
theorem c_byte {m : Nat} (hm : m ≤ 900) (ht : tp.2 = nI m) {tk : TkS} {k : Nat} (hk : k < m) : EX6_byteAt [.ref 1, .int (nI k)] (CH mz tp tk rd hi sc pl dr wa wb rc) = some (nI (bt tp.1 k)) := by
  obtain ⟨ed, nx, ki, st, va, co⟩ := tk
  rw [eX6_byteAt_s, qX6_byteAt_0, if_neg (nI_pos (by omega)), ht, if_le (by omega) (by omega), if_neg (by omega), if_neg (nI_in (by omega : k < 900) (by omega)), nI_clamp (by omega), bt_and]
theorem c_most (ki : Nat) (hk : ki ≤ 4) (ed nx st va : Int32) (co : Int64) : EX7_mostBytes [.ref 4] (CH mz tp (tK ed nx (nI ki) st va co) rd hi sc pl dr wa wb rc) = some (nI (mostB ki)) := by
  rw [eX7_mostBytes_s, qX7_mostBytes_0, show (1 : Int32) = nI 1 from rfl, show (2 : Int32) = nI 2 from rfl, if_eq (by omega) (by omega), if_eq (by omega) (by omega)]
  unfold mostB
  split
  · rfl
  · split <;> rfl
theorem c_tok {m n : Nat} (hm : m ≤ 900) (ht : tp.2 = nI m) (hn : n ≤ m) (q : Nat) (hq : q ≤ n) (ki0 st0 va0 : Int32) (co0 : Int64) :
    (q = n → BX7_goOn_39 [(0, .ref 4)] [] (CH mz tp (tK (nI n) (nI q) ki0 st0 va0 co0) rd hi sc pl dr wa wb rc) = some (CH mz tp (tK (nI n) (nI n) 0 (nI n) 0 0) rd hi sc pl dr wa wb rc)) ∧
    (∀ e, q < n → Rn (bt tp.1) n q e → BX7_goOn_39 [(0, .ref 4)] [] (CH mz tp (tK (nI n) (nI q) ki0 st0 va0 co0) rd hi sc pl dr wa wb rc) = some (CH mz tp (tK (nI n) (nI e) (nI (if mostB (kd (bt tp.1 q)) < e - q then 4 else kd (bt tp.1 q))) (nI q) (vl (bt tp.1) q (e - q)) (cdv (bt tp.1) q (e - q))) rd hi sc pl dr wa wb rc)) := by
  constructor
  · intro hqn
    subst hqn
    rw [qX7_goOn_39, if_pos (nI_le (Nat.le_refl _) (by omega)), qX7_goOn_77, if_neg (by decide), if_neg (by decide), nI_1, if_lt (by omega) (by omega), if_neg (by omega)]
    refine lp_run (fun _ => [(0, .ref 4), (1, .int (nI q)), (2, .int (nI q))]) (fun _ => CH mz tp (tK (nI q) (nI q) 0 (nI q) 0 0) rd hi sc pl dr wa wb rc) (t := 0) (by have := FU_ge; omega) (fun c hc => by omega) (fun k => ?_)
    have hmo : EX7_mostBytes [.ref 4] (CH mz tp (tK (nI q) (nI q) 0 (nI q) 0 0) rd hi sc pl dr wa wb rc) = some (nI (mostB 0)) := c_most 0 (by omega) _ _ _ _ _
    rw [qX7_goOn_132, if_pos (nI_le (Nat.le_refl _) (by omega)), qX7_goOn_218, qX7_goOn_228 (h := hmo)]
    rw [show nI q - nI q = nI 0 from Int32.sub_self _, if_le (by decide) (by decide), if_pos (by decide)]
  · intro e hqn R
    obtain ⟨h1, h2, h3, h4, h5⟩ := R
    have hk := kd_le (bt tp.1 q)
    rw [qX7_goOn_39, if_le (by omega) (by omega), if_neg (by omega), qX7_goOn_67 (h := c_byte hm ht (by omega)), qX7_goOn_70 (h := c_kind _ (bt_lt _ _)), qX7_goOn_77]
    have key : ∀ lim : Nat, lim ≤ n → e ≤ lim → (e < lim → kd (bt tp.1 e) ≠ kd (bt tp.1 q)) → lp (BX7_goOn_132) FU [(0, .ref 4), (1, .int (nI lim)), (2, .int (nI q))] [] (CH mz tp (tK (nI n) (nI q) (nI (kd (bt tp.1 q))) (nI q) 0 0) rd hi sc pl dr wa wb rc) = some (CH mz tp (tK (nI n) (nI e) (nI (if mostB (kd (bt tp.1 q)) < e - q then 4 else kd (bt tp.1 q))) (nI q) (vl (bt tp.1) q (e - q)) (cdv (bt tp.1) q (e - q))) rd hi sc pl dr wa wb rc) := by
      intro lim hl1 hl2 hl3
      have hend : BX7_goOn_218 [(0, .ref 4)] [] (CH mz tp (tK (nI n) (nI e) (nI (kd (bt tp.1 q))) (nI q) (vl (bt tp.1) q (e - q)) (cdv (bt tp.1) q (e - q))) rd hi sc pl dr wa wb rc) = some (CH mz tp (tK (nI n) (nI e) (nI (if mostB (kd (bt tp.1 q)) < e - q then 4 else kd (bt tp.1 q))) (nI q) (vl (bt tp.1) q (e - q)) (cdv (bt tp.1) q (e - q))) rd hi sc pl dr wa wb rc) := by
        have hs : nI e - nI q = nI (e - q) := by
          have := nI_add (e - q) q
          rw [show e - q + q = e by omega] at this
          rw [← this, Int32.add_sub_cancel]
        have hmb : mostB (kd (bt tp.1 q)) ≤ 8 := by unfold mostB; repeat (first | omega | split)
        rw [qX7_goOn_218, qX7_goOn_228 (h := c_most _ hk.2 _ _ _ _ _), hs, if_le (by omega) (by omega)]
        by_cases h6 : e - q ≤ mostB (kd (bt tp.1 q))
        · rw [if_pos h6, if_neg (by omega)]
        · rw [if_neg h6, if_pos (by omega)]; rfl
      refine lp_run (fun j => [(0, .ref 4), (1, .int (nI lim)), (2, .int (nI (q + j)))]) (fun j => CH mz tp (tK (nI n) (nI (q + j)) (nI (kd (bt tp.1 q))) (nI q) (vl (bt tp.1) q j) (cdv (bt tp.1) q j)) rd hi sc pl dr wa wb rc) (t := e - q) (by have := FU_ge; omega) (fun j hj k => ?_) (fun k => ?_)
      · rw [qX7_goOn_132, if_le (by omega) (by omega), if_neg (by omega), qX7_goOn_142 (h := c_byte hm ht (by omega)), qX7_goOn_145 (h := c_kind _ (bt_lt _ _)), h3 (q + j) (by omega) (by omega), if_pos rfl, qX7_goOn_168 (h := c_byte hm ht (by omega)), qX7_goOn_192 (h := c_byte hm ht (by omega)), nI_1]
        rfl
      · rw [show q + (e - q) = e by omega, qX7_goOn_132, if_le (by omega) (by omega)]
        by_cases h6 : lim ≤ e
        · rw [if_pos h6, hend]
        · rw [if_neg h6, qX7_goOn_142 (h := c_byte hm ht (by omega)), qX7_goOn_145 (h := c_kind _ (bt_lt _ _)), if_eq (by have := kd_le (bt tp.1 e); omega) (by omega), if_neg (hl3 (by omega)), hend]
    rw [show (1 : Int32) = nI 1 from rfl, show (2 : Int32) = nI 2 from rfl, if_eq (by omega) (by omega), if_eq (by omega) (by omega)]
    by_cases k1 : kd (bt tp.1 q) = 1
    · rw [if_pos k1]
      exact key n (Nat.le_refl _) h2 (h4 (by omega))
    · rw [if_neg k1]
      by_cases k2 : kd (bt tp.1 q) = 2
      · rw [if_pos k2]
        exact key n (Nat.le_refl _) h2 (h4 (by omega))
      · rw [if_neg k2, nI_add, if_lt (by omega) (by omega)]
        have h6 := h5 (by omega)
        by_cases h7 : q + 1 < n
        · rw [if_pos h7]
          exact key (q + 1) (by omega) (by omega) (fun h8 => by omega)
        · rw [if_neg h7]
          exact key n (Nat.le_refl _) h2 (fun h8 => by omega)
theorem c_goOn0 {m n : Nat} (hm : m ≤ 900) (ht : tp.2 = nI m) (hn : n ≤ m) {p q : Nat} (S : Skp (bt tp.1) n p q) (ki0 st0 va0 : Int32) (co0 : Int64) : EX7_goOn [.ref 4] (CH mz tp (tK (nI n) (nI p) ki0 st0 va0 co0) rd hi sc pl dr wa wb rc) = BX7_goOn_39 [(0, .ref 4)] [] (CH mz tp (tK (nI n) (nI q) ki0 st0 va0 co0) rd hi sc pl dr wa wb rc) := by
  obtain ⟨h1, h2, h3, h4⟩ := S
  rw [eX7_goOn_s, qX7_goOn_0]
  refine lp_run (fun j => [(0, .ref 4), (1, .int (nI (p + j)))]) (fun j => CH mz tp (tK (nI n) (nI (p + j)) ki0 st0 va0 co0) rd hi sc pl dr wa wb rc) (t := q - p) (by have := FU_ge; omega) (fun j hj k => ?_) (fun k => ?_)
  · rw [qX7_goOn_5, if_le (by omega) (by omega), if_neg (by omega), qX7_goOn_18 (h := c_byte hm ht (by omega)), h3 (p + j) (by omega) (by omega), if_pos (show nI 32 = 32 from rfl), nI_1]
    rfl
  · rw [show p + (q - p) = q by omega, qX7_goOn_5, if_le (by omega) (by omega)]
    by_cases h5 : n ≤ q
    · rw [if_pos h5]
    · have := bt_lt tp.1 q
      rw [if_neg h5, qX7_goOn_18 (h := c_byte hm ht (by omega)), show (32 : Int32) = nI 32 from rfl, if_eq (by omega) (by omega), if_neg (h4 (by omega))]
end
