/-! Words: their codes, lists of words. -/
/-- string a has the L letters s -/
def St (a : Nat) (s : Nat → Nat) (L : Nat) : Prop := (Nat.ble 2000 a && Nat.blt a (2000 + strN)) = true ∧ L ≤ 100 ∧ (∀ hp, EJ0_length_8abf5 [.ref a] hp = some (nI L)) ∧ (∀ hp k, k < L → EJ0_charAt_5068e [.ref a, .int (nI k)] hp = some (nI (s k))) ∧ ∀ k, k < L → s k < 256
theorem m_wordOf {a : Nat} {s : Nat → Nat} {L : Nat} (S : St a s L) (hp : HP) : EX12_wordOf [.ref a] hp = some (cdv s 0 L) := by
  obtain ⟨h1, h2, h3, h4, _⟩ := S
  rw [eX12_wordOf_s, qX12_wordOf_0]
  refine lp_run (fun j => [(0, .ref a), (1, .long (cdv s 0 j)), (3, .int (nI j))]) (fun _ => hp) (t := L) (by have := FU_ge; omega) (fun j hj k => ?_) (fun k => ?_)
  · rw [qX12_wordOf_4, qX12_wordOf_6 (hs := h1) (h := h3 hp), if_le (by omega) (by omega), if_neg (by omega), qX12_wordOf_19 (hs := h1) (h := h4 hp j hj), nI_1, Int64.mul_comm]
    show k _ _ _ = k [(0, .ref a), (1, .long (cdv s 0 j * 32 + (nI (s (0 + j)) - 97 + 1).toInt64)), (3, .int (nI (j + 1)))] [] hp
    rw [Nat.zero_add]
  · rw [qX12_wordOf_4, qX12_wordOf_6 (hs := h1) (h := h3 hp), if_pos (nI_le (Nat.le_refl _) (by omega))]
theorem c_codeOf {a : Nat} {s : Nat → Nat} {L : Nat} (S : St a s L) (hp : HP) {f i : Nat} (hf : f ≤ i) (hi : i ≤ L) : EX7_codeOf [.ref a, .int (nI f), .int (nI i)] hp = some (cdv s f (i - f)) := by
  obtain ⟨h1, h2, h3, h4, _⟩ := S
  rw [eX7_codeOf_s, qX7_codeOf_0]
  refine lp_run (fun j => [(0, .ref a), (2, .int (nI i)), (3, .long (cdv s f j)), (5, .int (nI (f + j)))]) (fun _ => hp) (t := i - f) (by have := FU_ge; omega) (fun j hj k => ?_) (fun k => ?_)
  · rw [qX7_codeOf_5, if_le (by omega) (by omega), if_neg (by omega), qX7_codeOf_14 (hs := h1) (h := h3 hp), if_le (by omega) (by omega), if_neg (by omega), qX7_codeOf_28 (hs := h1) (h := h4 hp (f + j) (by omega)), nI_1]
    rfl
  · rw [show f + (i - f) = i by omega, qX7_codeOf_5, if_pos (nI_le (Nat.le_refl _) (by omega))]
/-- the words of a list: number, where it begins, how long it is -/
def bnd (s : Nat → Nat) (L : Nat) : Nat → Nat → Nat → Nat → List (Nat × Nat × Nat)
  | 0, _, _, _ => []
  | d + 1, i, n, f => if i = L ∨ s i = 32 then (n, f, i - f) :: bnd s L d (i + 1) (n + 1) (i + 1) else bnd s L d (i + 1) n f
def pick (s : Nat → Nat) (ki : Int32) (co : Int64) : List (Nat × Nat × Nat) → Int32
  | [] => -1
  | x :: t => if ki = 1 ∧ co = cdv s x.2.1 x.2.2 then nI x.1 else pick s ki co t
theorem bnd_i (s : Nat → Nat) (L d i n f : Nat) : bnd s L (d + 1) i n f = if i = L ∨ s i = 32 then (n, f, i - f) :: bnd s L d (i + 1) (n + 1) (i + 1) else bnd s L d (i + 1) n f := rfl
theorem c_numberIn {a : Nat} {s : Nat → Nat} {L : Nat} (S : St a s L) {mz : MzS} {tp : TpS} {ed nx ki st va : Int32} {co : Int64} {rd : RdS} {hi : HiS} {sc : ScS} {pl dr : PlS} {wa wb : WaS} {rc : Nat → Int32} : EX7_numberIn [.ref 4, .ref a] (CH mz tp (tK ed nx ki st va co) rd hi sc pl dr wa wb rc) = some (pick s ki co (bnd s L (L + 1) 0 0 0)) := by
  have S' := S
  obtain ⟨h1, h2, h3, h4, h5⟩ := S
  rw [eX7_numberIn_s, qX7_numberIn_0]
  have LI := lp_inv (B := BX7_numberIn_7) (fun c lv hp => hp = CH mz tp (tK ed nx ki st va co) rd hi sc pl dr wa wb rc ∧ ∃ n f, f ≤ c ∧ n ≤ c ∧ lv = [(0, .ref 4), (1, .ref a), (2, .int (nI n)), (3, .int (nI f)), (4, .int (nI c))] ∧ pick s ki co (bnd s L (L + 1 - c) c n f) = pick s ki co (bnd s L (L + 1) 0 0 0)) (Q := fun r => r = some (pick s ki co (bnd s L (L + 1) 0 0 0))) (t := L + 1) (N := FU) (by have := FU_ge; omega) (fun c lv hp hc P => ?_) (fun lv hp P => ?_) (lv := [(0, .ref 4), (1, .ref a), (2, .int 0), (3, .int 0), (4, .int 0)]) ⟨rfl, 0, 0, Nat.le_refl _, Nat.le_refl _, rfl, rfl⟩
  · obtain ⟨r, hr, e⟩ := LI
    rw [e, hr]
  · obtain ⟨rfl, n, f, hf, hn, rfl, hpk⟩ := P
    rw [show L + 1 - c = (L - c) + 1 by omega, bnd_i] at hpk
    have hat : ∀ k, BX7_numberIn_7 k [(0, .ref 4), (1, .ref a), (2, .int (nI n)), (3, .int (nI f)), (4, .int (nI c))] [] (CH mz tp (tK ed nx ki st va co) rd hi sc pl dr wa wb rc) = if c = L ∨ s c = 32 then BX7_numberIn_36 k [(0, .ref 4), (1, .ref a), (2, .int (nI n)), (3, .int (nI f)), (4, .int (nI c))] [] (CH mz tp (tK ed nx ki st va co) rd hi sc pl dr wa wb rc) else k [(0, .ref 4), (1, .ref a), (2, .int (nI n)), (3, .int (nI f)), (4, .int (nI (c + 1)))] [] (CH mz tp (tK ed nx ki st va co) rd hi sc pl dr wa wb rc) := by
      intro k
      rw [qX7_numberIn_7, qX7_numberIn_10 (hs := h1) (h := h3 _), if_lt (by omega) (by omega), if_neg (by omega), qX7_numberIn_19 (hs := h1) (h := h3 _), if_eq (by omega) (by omega)]
      by_cases e1 : c = L
      · rw [if_pos e1, if_pos (Or.inl e1)]
      · have hb := h5 c (by omega)
        rw [if_neg e1, qX7_numberIn_28 (hs := h1) (h := h4 _ c (by omega)), show (32 : Int32) = nI 32 from rfl, if_eq (by omega) (by omega), nI_1]
        by_cases e2 : s c = 32
        · rw [if_pos e2, if_pos (Or.inr e2)]
        · rw [if_neg e2, if_neg (by omega)]
    by_cases hb : c = L ∨ s c = 32
    · rw [if_pos hb] at hpk
      have hpk2 : (if ki = 1 ∧ co = cdv s f (c - f) then nI n else pick s ki co (bnd s L (L - c) (c + 1) (n + 1) (c + 1))) = pick s ki co (bnd s L (L + 1) 0 0 0) := hpk
      by_cases hk : ki = 1
      · by_cases hc2 : co = cdv s f (c - f)
        · refine Or.inr ⟨_, rfl, fun k => ?_⟩
          rw [← hpk2, if_pos ⟨hk, hc2⟩, hat, if_pos hb, qX7_numberIn_36, if_pos hk, qX7_numberIn_52 (h := c_codeOf S' _ hf (by omega)), if_pos ((lgc0 _ _).mpr hc2)]
        · refine Or.inl ⟨_, _, ⟨rfl, n + 1, c + 1, Nat.le_refl _, by omega, rfl, ?_⟩, fun k => ?_⟩
          · rw [← hpk2, if_neg (fun h => hc2 h.2), show L + 1 - (c + 1) = L - c by omega]
          · rw [hat, if_pos hb, qX7_numberIn_36, if_pos hk, qX7_numberIn_52 (h := c_codeOf S' _ hf (by omega)), if_neg (fun h => hc2 ((lgc0 _ _).mp h)), nI_1, nI_1]
      · refine Or.inl ⟨_, _, ⟨rfl, n + 1, c + 1, Nat.le_refl _, by omega, rfl, ?_⟩, fun k => ?_⟩
        · rw [← hpk2, if_neg (fun h => hk h.1), show L + 1 - (c + 1) = L - c by omega]
        · rw [hat, if_pos hb, qX7_numberIn_36, if_neg hk, nI_1, nI_1]
    · rw [if_neg hb] at hpk
      refine Or.inl ⟨_, _, ⟨rfl, n, f, by omega, by omega, rfl, ?_⟩, fun k => ?_⟩
      · rw [← hpk, show L + 1 - (c + 1) = L - c by omega]
      · rw [hat, if_neg hb]
  · obtain ⟨rfl, n, f, hf, hn, rfl, hpk⟩ := P
    refine ⟨_, rfl, fun k => ?_⟩
    rw [← hpk, Nat.sub_self, qX7_numberIn_7, qX7_numberIn_10 (hs := h1) (h := h3 _), if_lt (by omega) (by omega), if_pos (by omega)]
    rfl
/-- a word's code as a number -/
def nc (B : Nat → Nat) (q : Nat) : Nat → Nat
  | 0 => 0
  | t + 1 => nc B q t * 32 + (B (q + t) - 96)
def Lt (B : Nat → Nat) (q t : Nat) : Prop := ∀ k, k < t → 97 ≤ B (q + k) ∧ B (q + k) ≤ 122
theorem nc_lt {B : Nat → Nat} {q t : Nat} (h : Lt B q t) : nc B q t < 32 ^ t := by
  induction t with
  | zero => exact Nat.one_pos
  | succ t ih =>
    have := ih (fun k hk => h k (by omega))
    have h2 := h t (by omega)
    show nc B q t * 32 + (B (q + t) - 96) < _
    rw [Nat.pow_succ]
    omega
theorem cd_nc {B : Nat → Nat} {q t : Nat} (h : Lt B q t) : cdv B q t = lN (nc B q t) := by
  induction t with
  | zero => rfl
  | succ t ih =>
    have h2 := h t (by omega)
    show cdv B q t * 32 + (nI (B (q + t)) - 97 + 1).toInt64 = lN (nc B q t * 32 + (B (q + t) - 96))
    have h3 : nI (B (q + t)) - 97 + 1 = nI (B (q + t) - 96) := by
      have h4 : nI (B (q + t)) = nI (B (q + t) - 97) + 97 := by
        rw [show (97 : Int32) = nI 97 from rfl, nI_add, show B (q + t) - 97 + 97 = B (q + t) by omega]
      rw [h4, Int32.add_sub_cancel, nI_1, show B (q + t) - 97 + 1 = B (q + t) - 96 by omega]
    rw [ih (fun k hk => h k (by omega)), h3, nI_l (by omega), show (32 : Int64) = lN 32 from rfl, lN_mul, lN_add]
theorem nc_pos {B : Nat → Nat} {q t : Nat} (h : Lt B q (t + 1)) : 0 < nc B q (t + 1) := by
  have h2 := h t (by omega)
  show 0 < nc B q t * 32 + (B (q + t) - 96)
  omega
theorem nc_inj {B C : Nat → Nat} {q r t u : Nat} (h1 : Lt B q t) (h2 : Lt C r u) (e : nc B q t = nc C r u) : t = u ∧ ∀ k, k < t → B (q + k) = C (r + k) := by
  induction t generalizing u with
  | zero =>
    cases u with
    | zero => exact ⟨rfl, fun k hk => by omega⟩
    | succ u => have := nc_pos h2; rw [← e] at this; exact absurd this (Nat.lt_irrefl 0)
  | succ t ih =>
    cases u with
    | zero => have := nc_pos h1; rw [e] at this; exact absurd this (Nat.lt_irrefl 0)
    | succ u =>
      have g1 := h1 t (by omega)
      have g2 := h2 u (by omega)
      have e2 : nc B q t * 32 + (B (q + t) - 96) = nc C r u * 32 + (C (r + u) - 96) := e
      obtain ⟨i1, i2⟩ := ih (fun k hk => h1 k (by omega)) (u := u) (fun k hk => h2 k (by omega)) (by omega)
      subst i1
      refine ⟨rfl, fun k hk => ?_⟩
      by_cases e3 : k = t
      · rw [e3]; omega
      · exact i2 k (by omega)
theorem cd_inj {B C : Nat → Nat} {q r t u : Nat} (ht : t ≤ 8) (hu : u ≤ 8) (h1 : Lt B q t) (h2 : Lt C r u) : cdv B q t = cdv C r u ↔ t = u ∧ ∀ k, k < t → B (q + k) = C (r + k) := by
  have b1 : nc B q t < 2 ^ 63 := Nat.lt_of_lt_of_le (nc_lt h1) (Nat.le_trans (Nat.pow_le_pow_right (by decide) ht) (by decide))
  have b2 : nc C r u < 2 ^ 63 := Nat.lt_of_lt_of_le (nc_lt h2) (Nat.le_trans (Nat.pow_le_pow_right (by decide) hu) (by decide))
  rw [cd_nc h1, cd_nc h2, pk_lEQ b1 b2]
  refine ⟨nc_inj h1 h2, fun h => ?_⟩
  obtain ⟨rfl, h3⟩ := h
  have : ∀ j, j ≤ t → nc B q j = nc C r j := fun j => by
    induction j with
    | zero => intro _; rfl
    | succ j ih =>
      intro hj
      show nc B q j * 32 + (B (q + j) - 96) = nc C r j * 32 + (C (r + j) - 96)
      rw [ih (by omega), h3 j (by omega)]
  exact this t (Nat.le_refl _)
theorem kd_1 {b : Nat} (h : kd b = 1) : 97 ≤ b ∧ b ≤ 122 := by
  by_cases g : 97 ≤ b ∧ b ≤ 122
  · exact g
  · exfalso
    unfold kd at h
    rw [if_neg g] at h
    revert h
    repeat (first | omega | split)
/-- is the token this word? -/
theorem c_isWord {a : Nat} {s : Nat → Nat} {L : Nat} (S : St a s L) {m n : Nat} {mz : MzS} {tp : TpS} (hm : m ≤ 900) (ht : tp.2 = nI m) (hn : n ≤ m) {ed va : Int32} {co : Int64} {rd : RdS} {hi : HiS} {sc : ScS} {pl dr : PlS} {wa wb : WaS} {rc : Nat → Int32} {q e : Nat} (hqe : q ≤ e) (hen : e ≤ n) : EX7_isWord [.ref 4, .ref a] (CH mz tp (tK ed (nI e) 1 (nI q) va co) rd hi sc pl dr wa wb rc) = some (decide (e - q = L ∧ ∀ k, k < e - q → bt tp.1 (q + k) = s k)) := by
  have S' := S
  obtain ⟨h1, h2, h3, h4, h5⟩ := S
  have hs : nI e - nI q = nI (e - q) := by
    have := nI_add (e - q) q
    rw [show e - q + q = e by omega] at this
    rw [← this, Int32.add_sub_cancel]
  rw [eX7_isWord_s, qX7_isWord_0, if_pos rfl, qX7_isWord_13 (hs := h1) (h := h3 _), hs, if_eq (by omega) (by omega)]
  have hF : ∀ j : Int32, lp (BX7_isWord_27) FU [(0, .ref 4), (1, .ref a), (2, .int 0), (3, .int j)] [] (CH mz tp (tK ed (nI e) 1 (nI q) va co) rd hi sc pl dr wa wb rc) = some false := fun j => by
    refine lp_run (fun _ => [(0, .ref 4), (1, .ref a), (2, .int 0), (3, .int j)]) (fun _ => CH mz tp (tK ed (nI e) 1 (nI q) va co) rd hi sc pl dr wa wb rc) (t := 0) (by have := FU_ge; omega) (fun j hj => by omega) (fun k => ?_)
    rw [qX7_isWord_27, if_pos rfl]
    rfl
  by_cases hL : e - q = L
  · rw [if_pos hL]
    have LI := lp_inv (B := BX7_isWord_27) (fun c lv hp => hp = CH mz tp (tK ed (nI e) 1 (nI q) va co) rd hi sc pl dr wa wb rc ∧ lv = [(0, .ref 4), (1, .ref a), (2, .int (if ∀ k, k < c → bt tp.1 (q + k) = s k then 1 else 0)), (3, .int (nI c))]) (Q := fun r => r = some (decide (e - q = L ∧ ∀ k, k < e - q → bt tp.1 (q + k) = s k))) (t := L) (N := FU) (by have := FU_ge; omega) (fun c lv hp hc P => ?_) (fun lv hp P => ?_) (lv := [(0, .ref 4), (1, .ref a), (2, .int 1), (3, .int 0)]) (hp := CH mz tp (tK ed (nI e) 1 (nI q) va co) rd hi sc pl dr wa wb rc) ⟨rfl, by rw [if_pos (fun k hk => by omega)]; rfl⟩
    · obtain ⟨r, hr, e1⟩ := LI
      rw [e1, hr]
    · obtain ⟨rfl, rfl⟩ := P
      by_cases hA : ∀ k, k < c → bt tp.1 (q + k) = s k
      · refine Or.inl ⟨_, _, ⟨rfl, rfl⟩, fun k => ?_⟩
        have hb1 := bt_lt tp.1 (q + c)
        have hb2 := h5 c hc
        rw [if_pos hA, qX7_isWord_27, if_neg (by decide), qX7_isWord_33 (hs := h1) (h := h3 _), if_le (by omega) (by omega), if_neg (by omega), nI_add, qX7_isWord_49 (h := c_byte hm ht (by omega)), qX7_isWord_54 (hs := h1) (h := h4 _ c hc), if_eq (by omega) (by omega), nI_1]
        by_cases e2 : bt tp.1 (q + c) = s c
        · rw [if_pos e2, if_pos]
          intro k hk
          by_cases e3 : k = c
          · rw [e3]; exact e2
          · exact hA k (by omega)
        · rw [if_neg e2, if_neg (fun hx => e2 (hx c (by omega)))]
      · refine Or.inr ⟨_, rfl, fun k => ?_⟩
        rw [if_neg hA, qX7_isWord_27, if_pos rfl, decide_eq_false]
        · rfl
        · rintro ⟨_, hx⟩
          exact hA (fun k hk => hx k (by omega))
    · obtain ⟨rfl, rfl⟩ := P
      refine ⟨_, rfl, fun k => ?_⟩
      by_cases hA : ∀ k, k < L → bt tp.1 (q + k) = s k
      · rw [if_pos hA, qX7_isWord_27, if_neg (by decide), qX7_isWord_33 (hs := h1) (h := h3 _), if_pos (nI_le (Nat.le_refl _) (by omega)), decide_eq_true]
        · rfl
        · exact ⟨hL, fun k hk => hA k (by omega)⟩
      · rw [if_neg hA, qX7_isWord_27, if_pos rfl, decide_eq_false]
        · rfl
        · rintro ⟨_, hx⟩
          exact hA (fun k hk => hx k (by omega))
  · rw [if_neg hL, hF, decide_eq_false (fun h => hL h.1)]
theorem c_isWordN {a : Nat} {ed nx ki st va : Int32} {co : Int64} {mz : MzS} {tp : TpS} {rd : RdS} {hi : HiS} {sc : ScS} {pl dr : PlS} {wa wb : WaS} {rc : Nat → Int32} (hk : ki ≠ 1) : EX7_isWord [.ref 4, .ref a] (CH mz tp (tK ed nx ki st va co) rd hi sc pl dr wa wb rc) = some false := by
  rw [eX7_isWord_s, qX7_isWord_0, if_neg hk]
  refine lp_run (fun _ => [(0, .ref 4), (1, .ref a), (2, .int 0), (3, .int 0)]) (fun _ => CH mz tp (tK ed nx ki st va co) rd hi sc pl dr wa wb rc) (t := 0) (by have := FU_ge; omega) (fun j hj => by omega) (fun k => ?_)
  rw [qX7_isWord_27, if_pos rfl]
  rfl
