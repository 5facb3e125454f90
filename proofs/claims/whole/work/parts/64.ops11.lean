/-! rings, longest. -/
theorem nb_one {w h c s s2 d : Nat} (H : WH w h) (hs : s < 4) (hs2 : s2 < 4) (e : nb w h c s = some d) (e2 : nb w h c s2 = some d) : s = s2 := by
  have hw := H.1
  rcases (by omega : s = 0 ∨ s = 1 ∨ s = 2 ∨ s = 3) with rfl | rfl | rfl | rfl <;> rcases (by omega : s2 = 0 ∨ s2 = 1 ∨ s2 = 2 ∨ s2 = 3) with rfl | rfl | rfl | rfl <;> simp only [nb] at e e2 <;> split at e <;> split at e2 <;> simp at e e2 <;> omega
def nbc (w h : Nat) (m : Int64) (c s : Nat) : Nat := if inN m (nb w h c s) = true then 1 else 0
theorem bsA_pcn {w h : Nat} {m : Int64} {c : Nat} (H : WH w h) (hc : c < w * h) : ∀ t, t ≤ 4 → pcn (bsA w h m c t) = fb_sm (nbc w h m c) t := by
  have hn := H.n
  intro t
  induction t with
  | zero => intro _; exact pcn_0
  | succ t ih =>
    intro ht
    rw [fb_sm_succ, ← ih (by omega)]
    have e0 : bsA w h m c (t + 1) = if inN m (nb w h c t) = true then (match nb w h c t with | some d => bsA w h m c t ||| bitL (nI d) | none => bsA w h m c t) else bsA w h m c t := by
      cases hnb : nb w h c t with
      | none => simp [bsA, hnb, inN]
      | some d =>
        simp only [bsA, hnb, inN]
        by_cases h5 : tb m d = true
        · simp [h5]
        · simp [h5]
    rw [e0]
    unfold nbc
    cases hnb : nb w h c t with
    | none => rw [if_neg (by simp [inN]), if_neg (by simp [inN])]; rfl
    | some d =>
      have hd := nb_lt H hc (by omega : t < 4) hnb
      by_cases h5 : tb m d = true
      · rw [if_pos (show inN m (some d) = true from h5), if_pos (show inN m (some d) = true from h5)]
        dsimp only
        rw [pcn_orb (by omega)]
        cases h6 : tb (bsA w h m c t) d
        · rfl
        · obtain ⟨s, hs, h7, _⟩ := (bsA_iff H hc (by omega) d).mp h6
          have := nb_one H (by omega) (by omega) h7 hnb
          omega
      · rw [if_neg (show ¬ inN m (some d) = true from h5), if_neg (show ¬ inN m (some d) = true from h5)]
        rfl
theorem fb_sm_swap (f : Nat → Nat → Nat) (a : Nat) : ∀ b, fb_sm (fun c => fb_sm (f c) a) b = fb_sm (fun s => fb_sm (fun c => f c s) b) a
  | 0 => by
    rw [show fb_sm (fun c => fb_sm (f c) a) 0 = 0 from rfl]
    have : fb_sm (fun s => fb_sm (fun c => f c s) 0) a = fb_sm (fun _ => 0) a := fb_sm_cong (fun k _ => rfl)
    rw [this, fb_sm_const, Nat.mul_zero]
  | b + 1 => by
    rw [fb_sm_succ, fb_sm_swap f a b, ← fb_sm_add]
    exact fb_sm_cong (fun k _ => rfl)
theorem sm_ct (p : Nat → Bool) : ∀ n, fb_sm (fun c => if p c = true then 1 else 0) n = fb_ct p n
  | 0 => rfl
  | n + 1 => by rw [fb_sm_succ, fb_ct_succ, sm_ct p n]
theorem ct_shift (f : Nat → Bool) (k n : Nat) : fb_ct (fun c => f (c + k)) n = fb_ct (fun c => decide (k ≤ c) && f c) (k + n) := by
  rw [fb_ct_split]
  have e1 : fb_ct (fun c => decide (k ≤ c) && f c) k = 0 := fb_ct_zero.mpr (fun c hc => by
    rw [decide_eq_false (by omega)]; rfl)
  rw [e1, Nat.zero_add]
  refine fb_ct_cong (fun c _ => ?_)
  rw [decide_eq_true (by omega), Nat.add_comm k c]
  rfl
theorem ct_cut {p : Nat → Bool} {n m : Nat} (h : ∀ k, p k = true → k < n) (hm : n ≤ m) : fb_ct p m = fb_ct p n := by
  obtain ⟨d, rfl⟩ : ∃ d, m = n + d := ⟨m - n, by omega⟩
  rw [fb_ct_split]
  have : fb_ct (fun k => p (n + k)) d = 0 := fb_ct_zero.mpr (fun k _ => by
    cases h2 : p (n + k)
    · rfl
    · have := h _ h2; omega)
  omega
section
variable {w h : Nat} {g : GrS} {m : Int64}
theorem pairs_two (H : WH w h) (G : GrOK g w h) (hm : Sub m (w * h)) : fb_sm (fun c => if tb m c = true then pcn (besd g (bitL (nI c)) &&& m) else 0) (w * h) = 2 * (pcn (m &&& ((m &&& (g.2.2.2.2.2.2 ^^^ (-1))) <<< ((1 : Int32).toInt64 &&& 63))) + pcn (m &&& (m <<< (g.2.1.toInt64 &&& 63)))) := by
  have hn := H.n
  have hw := H.1
  have hw8 := H.2.1
  have hm64 : ∀ {k}, tb m k = true → k < w * h := fun hk => hm _ hk
  -- to the west and to the north, in the whole row of bits
  have eA : pcn (m &&& ((m &&& (g.2.2.2.2.2.2 ^^^ (-1))) <<< ((1 : Int32).toInt64 &&& 63))) = fb_ct (fun c => tb m c && inN m (nb w h c 3)) (w * h) := by
    have e1 : pcn (m &&& ((m &&& (g.2.2.2.2.2.2 ^^^ (-1))) <<< ((1 : Int32).toInt64 &&& 63))) = fb_ct (fun c => tb m c && inN m (nb w h c 3)) 64 := fb_ct_cong (fun c hc => by
      rw [tb_and, show ((1 : Int32)) = nI 1 from rfl, tb_shl 1 (by omega), tb_andnot, G.2.2.2.2.2.1]
      cases h5 : tb m c
      · rfl
      · have hcn := hm64 h5
        rw [decide_eq_true hc]
        by_cases h6 : 0 < c % w
        · have e1 : nb w h c 3 = some (c - 1) := if_pos h6
          have e2 : ¬ (c - 1 < w * h ∧ (c - 1) % w = w - 1) := by
            rcases H.cases with rfl | rfl | rfl | rfl | rfl | rfl | rfl <;> omega
          have e3 : 1 ≤ c := by
            rcases Nat.eq_zero_or_pos c with rfl | h2
            · simp at h6
            · exact h2
          rw [e1, decide_eq_false e2, decide_eq_true e3]
          simp [inN]
        · have e1 : nb w h c 3 = none := if_neg h6
          rw [e1]
          by_cases e3 : 1 ≤ c
          · have e2 : (c - 1 < w * h ∧ (c - 1) % w = w - 1) := by
              rcases H.cases with rfl | rfl | rfl | rfl | rfl | rfl | rfl <;> omega
            rw [decide_eq_true e2]
            simp [inN]
          · rw [decide_eq_false e3]
            simp [inN])
    rw [e1]
    exact ct_cut (fun k hk => hm64 (by rw [Bool.and_eq_true] at hk; exact hk.1)) (by omega)
  have eD : pcn (m &&& (m <<< (g.2.1.toInt64 &&& 63))) = fb_ct (fun c => tb m c && inN m (nb w h c 0)) (w * h) := by
    have e1 : pcn (m &&& (m <<< (g.2.1.toInt64 &&& 63))) = fb_ct (fun c => tb m c && inN m (nb w h c 0)) 64 := fb_ct_cong (fun c hc => by
      rw [tb_and, G.1, tb_shl w (by omega), decide_eq_true hc]
      by_cases h6 : w ≤ c
      · have e1 : nb w h c 0 = some (c - w) := if_pos h6
        rw [e1, decide_eq_true h6]
        rfl
      · have e1 : nb w h c 0 = none := if_neg h6
        rw [e1, decide_eq_false h6]
        rfl)
    rw [e1]
    exact ct_cut (fun k hk => hm64 (by rw [Bool.and_eq_true] at hk; exact hk.1)) (by omega)
  -- to the east and to the south are the same pairs
  have eE : fb_ct (fun c => tb m c && inN m (nb w h c 1)) (w * h) = fb_ct (fun c => tb m c && inN m (nb w h c 3)) (w * h) := by
    have e1 : fb_ct (fun c => tb m c && inN m (nb w h c 1)) (w * h) = fb_ct (fun c => (fun d => tb m d && inN m (nb w h d 3)) (c + 1)) (w * h) := fb_ct_cong (fun c hc => by
      dsimp only
      by_cases h6 : c % w + 1 < w
      · have a1 : nb w h c 1 = some (c + 1) := if_pos h6
        have a2 : nb w h (c + 1) 3 = some c := by
          have : 0 < (c + 1) % w := by rcases H.cases with rfl | rfl | rfl | rfl | rfl | rfl | rfl <;> omega
          exact (if_pos this).trans (by rw [Nat.add_sub_cancel])
        rw [a1, a2]
        simp [inN, Bool.and_comm]
      · have a1 : nb w h c 1 = none := if_neg h6
        have a2 : nb w h (c + 1) 3 = none := by
          have : ¬ 0 < (c + 1) % w := by rcases H.cases with rfl | rfl | rfl | rfl | rfl | rfl | rfl <;> omega
          exact if_neg this
        rw [a1, a2]
        simp [inN])
    rw [e1, ct_shift (fun d => tb m d && inN m (nb w h d 3)) 1 (w * h)]
    have e2 : fb_ct (fun c => decide (1 ≤ c) && (tb m c && inN m (nb w h c 3))) (1 + w * h) = fb_ct (fun c => tb m c && inN m (nb w h c 3)) (1 + w * h) := fb_ct_cong (fun c _ => by
      rcases Nat.eq_zero_or_pos c with rfl | h2
      · have : nb w h 0 3 = none := if_neg (t := some (0 - 1)) (show ¬ 0 < 0 % w by simp)
        rw [this]; simp [inN]
      · rw [decide_eq_true (show 1 ≤ c from h2)]; rfl)
    rw [e2]
    exact ct_cut (fun k hk => hm64 (by rw [Bool.and_eq_true] at hk; exact hk.1)) (by omega)
  have eS : fb_ct (fun c => tb m c && inN m (nb w h c 2)) (w * h) = fb_ct (fun c => tb m c && inN m (nb w h c 0)) (w * h) := by
    have e1 : fb_ct (fun c => tb m c && inN m (nb w h c 2)) (w * h) = fb_ct (fun c => (fun d => tb m d && inN m (nb w h d 0)) (c + w)) (w * h) := fb_ct_cong (fun c hc => by
      dsimp only
      have a2 : nb w h (c + w) 0 = some c := (if_pos (by omega)).trans (by rw [Nat.add_sub_cancel])
      rw [a2]
      by_cases h6 : c + w < w * h
      · have a1 : nb w h c 2 = some (c + w) := if_pos h6
        rw [a1]
        simp [inN, Bool.and_comm]
      · have a1 : nb w h c 2 = none := if_neg h6
        rw [a1]
        cases h7 : tb m (c + w)
        · simp [inN]
        · exact absurd (hm64 h7) h6)
    rw [e1, ct_shift (fun d => tb m d && inN m (nb w h d 0)) w (w * h)]
    have e2 : fb_ct (fun c => decide (w ≤ c) && (tb m c && inN m (nb w h c 0))) (w + w * h) = fb_ct (fun c => tb m c && inN m (nb w h c 0)) (w + w * h) := fb_ct_cong (fun c _ => by
      by_cases h6 : w ≤ c
      · rw [decide_eq_true h6]; rfl
      · have : nb w h c 0 = none := if_neg h6
        rw [this]; simp [inN])
    rw [e2]
    exact ct_cut (fun k hk => hm64 (by rw [Bool.and_eq_true] at hk; exact hk.1)) (by omega)
  have e1 : fb_sm (fun c => if tb m c = true then pcn (besd g (bitL (nI c)) &&& m) else 0) (w * h) = fb_sm (fun c => fb_sm (fun s => if (tb m c && inN m (nb w h c s)) = true then 1 else 0) 4) (w * h) := fb_sm_cong (fun c hc => by
    rw [← bsA_eq H G hc, bsA_pcn H hc 4 (Nat.le_refl _)]
    cases h5 : tb m c
    · have : fb_sm (fun s => if (false && inN m (nb w h c s)) = true then 1 else 0) 4 = fb_sm (fun _ => 0) 4 := fb_sm_cong (fun s _ => rfl)
      rw [this, fb_sm_const]; rfl
    · exact fb_sm_cong (fun s _ => by simp [nbc]))
  rw [e1, fb_sm_swap (fun c s => if (tb m c && inN m (nb w h c s)) = true then 1 else 0) 4 (w * h)]
  have e2 : ∀ s, fb_sm (fun c => if (tb m c && inN m (nb w h c s)) = true then 1 else 0) (w * h) = fb_ct (fun c => tb m c && inN m (nb w h c s)) (w * h) := fun s => sm_ct _ _
  rw [eA, eD]
  show 0 + fb_sm (fun c => if (tb m c && inN m (nb w h c 0)) = true then 1 else 0) (w * h) + fb_sm (fun c => if (tb m c && inN m (nb w h c 1)) = true then 1 else 0) (w * h) + fb_sm (fun c => if (tb m c && inN m (nb w h c 2)) = true then 1 else 0) (w * h) + fb_sm (fun c => if (tb m c && inN m (nb w h c 3)) = true then 1 else 0) (w * h) = _
  rw [e2, e2, e2, e2, eE, eS]
  omega
end
theorem op_rings : Step Inv EX10_rings fIH EX12_rings fIH [] := by
  refine step_q (fun cl se tr fa fp tp tk rd hi sc pl dr wa wb rc th wh ta mo sd mq ma rdv _ _ => ⟨1, by decide, rfl, rfl⟩) (fun cl se tr fa fp tp tk rd hi sc pl dr wa wb rc th wh ta ac mk mq ma me rdv _ I => ?_)
  obtain ⟨T, S, w, h, du, pa, sh, gc, hq, wc, ⟨H, G, N, P, GA, NO, HE, WK⟩, C, HI⟩ := id I
  have hn := H.n
  have hp2 := pairs_two H G C
  have hb1 := pcn_le (cl &&& ((cl &&& (pl.1.2.2.2.2.2.2 ^^^ (-1))) <<< ((1 : Int32).toInt64 &&& 63)))
  have hb2 := pcn_le (cl &&& (cl <<< (pl.1.2.1.toInt64 &&& 63)))
  obtain ⟨F, Q, eP⟩ := e_partsOf (mp := (0, tr, wh, ta, fa, cl, se, ac, mk)) (mq := mq) (ma := ma) (rdv := rdv) H G N.1.1 N.1.2 C
  refine ⟨((nI (pcn (cl &&& ((cl &&& (pl.1.2.2.2.2.2.2 ^^^ (-1))) <<< ((1 : Int32).toInt64 &&& 63)))) + nI (pcn (cl &&& (cl <<< (pl.1.2.1.toInt64 &&& 63))))) - nI (pcn cl)) + nI (prt pl.1 cl), 0, sc, wa, wb, rc, mq, sFQ ma F Q, by decide, ⟨rfl, rfl, rfl, rfl, rfl⟩, ?_, ?_⟩
  · have c1 : EX0_countRings [.ref 15, .long cl] (CH (1, cl, se, tr, fa, fp) tp tk rd hi sc pl dr wa wb rc) = some (((nI (pcn (cl &&& ((cl &&& (pl.1.2.2.2.2.2.2 ^^^ (-1))) <<< ((1 : Int32).toInt64 &&& 63)))) + nI (pcn (cl &&& (cl <<< (pl.1.2.1.toInt64 &&& 63))))) - nI (pcn cl)) + nI (prt pl.1 cl)) := by
      rw [eX0_countRings_s, qX0_countRings_0, qX0_countRings_42 (h := e_countParts H G C), bcnt_eq, bcnt_eq, bcnt_eq]
    rw [eX10_rings_s_1, qX10_rings_0_1, qX10_rings_19_1 (h := c1)]
  · rw [eX12_rings_s_1, qX12_rings_0_1]
    have hbd : ∀ t, t ≤ w * h → fb_sm (fun c => if tb cl c = true then pcn (besd pl.1 (bitL (nI c)) &&& cl) else 0) t ≤ t * 64 := fun t _ => fb_sm_bound (fun c _ => by
      by_cases h5 : tb cl c = true
      · rw [if_pos h5]; exact pcn_le _
      · rw [if_neg h5]; omega)
    refine lp_run (fun c => [(0, .ref 0), (1, .int (nI (fb_sm (fun c => if tb cl c = true then pcn (besd pl.1 (bitL (nI c)) &&& cl) else 0) c))), (2, .int (nI c))]) (fun _ => M1 (0, tr, wh, ta, fa, cl, se, ac, mk) mq ma me rdv) (t := w * h) (by have := FU_ge; omega) (fun c hc k => ?_) (fun k => ?_)
    · rw [qX12_rings_22_1, N.1.1, N.1.2, pk_mul, if_le (by omega) (by omega), if_neg (by omega), qX12_rings_39_1 (h := e_has _ _ (by omega)), if_b2i, s_add0, nI_1, fb_sm_succ]
      by_cases h5 : tb cl c = true
      · rw [if_pos h5, if_pos h5, qX12_rings_51_1 (h := e_besideOf H G N.1.1 N.1.2 hc), qX12_rings_54_1 (h := e_bits _ _), nI_add, nI_1]
      · rw [if_neg h5, if_neg h5]
        rfl
    · have hle := hbd (w * h) (Nat.le_refl _)
      rw [qX12_rings_22_1, N.1.1, N.1.2, pk_mul, if_le (by omega) (by omega), if_pos (by omega), hp2, l2, pk_div (by omega) (by omega) (by omega), Nat.mul_div_cancel_left _ (by omega : 0 < 2), qX12_rings_77_1 (h := e_bits _ _), qX12_rings_86_1 (h := eP), nI_add]
/-! longest -/
def omx (a b : Option Nat) : Option Nat := match a, b with
  | none, b => b
  | some x, none => some x
  | some x, some y => if x < y then some y else some x
def dmx (D : Nat → Option Nat) (a : Option Nat) : Nat → Option Nat
  | 0 => a
  | d + 1 => omx (dmx D a d) (D d)
theorem omx_lt {n : Nat} {a b : Option Nat} (ha : ∀ x, a = some x → x < n) (hb : ∀ x, b = some x → x < n) : ∀ x, omx a b = some x → x < n := by
  intro x e
  unfold omx at e
  cases a with
  | none => exact hb x e
  | some y =>
    cases b with
    | none => exact ha x e
    | some z =>
      dsimp only at e
      by_cases h : y < z
      · rw [if_pos h] at e; exact hb x e
      · rw [if_neg h] at e; exact ha x e
theorem dmx_lt {n : Nat} {D : Nat → Option Nat} {a : Option Nat} (ha : ∀ x, a = some x → x < n) (hD : ∀ d x, D d = some x → x < n) : ∀ t x, dmx D a t = some x → x < n := by
  intro t
  induction t with
  | zero => exact ha
  | succ t ih => exact omx_lt ih (hD t)
/-- the step of either side -/
theorem omx_if {n : Nat} (hn : n ≤ 2 ^ 30) {a b : Option Nat} (ha : ∀ x, a = some x → x < n) (hb : ∀ x, b = some x → x < n) {α : Type} (f : Int32 → α) : (if oM b ≤ oM a then f (oM a) else f (oM b)) = f (oM (omx a b)) := by
  unfold omx
  cases a with
  | none =>
    cases b with
    | none => rw [if_pos (Int32.le_refl _)]
    | some y =>
      have hy := hb y rfl
      rw [if_neg]
      show ¬ nI y ≤ -2
      intro h6
      exact absurd (Int32.le_trans (nI_pos' (n := y) (by omega)) h6) (by decide)
  | some x =>
    have hx := ha x rfl
    cases b with
    | none =>
      rw [if_pos]
      show (-2 : Int32) ≤ nI x
      exact Int32.le_trans (by decide : (-2 : Int32) ≤ 0) (nI_pos' (by omega))
    | some y =>
      have hy := hb y rfl
      show (if nI y ≤ nI x then f (nI x) else f (nI y)) = _
      rw [if_le (by omega) (by omega)]
      dsimp only
      by_cases h6 : x < y
      · rw [if_neg (by omega), if_pos h6]; rfl
      · rw [if_pos (by omega), if_neg h6]; rfl
theorem omx_n (a : Option Nat) : omx a none = a := by cases a <;> rfl
theorem dmx_none {D : Nat → Option Nat} {a : Option Nat} {t : Nat} (h : ∀ d, d < t → D d = none) : dmx D a t = a := by
  induction t with
  | zero => rfl
  | succ t ih =>
    show omx (dmx D a t) (D t) = a
    rw [ih (fun d hd => h d (by omega)), h t (by omega)]
    cases a <;> rfl
theorem omx_le {a b : Option Nat} {x : Nat} : omx a b = some x ↔ (a = some x ∧ ∀ y, b = some y → y ≤ x) ∨ (b = some x ∧ ∀ y, a = some y → y < x) := by
  unfold omx
  cases a with
  | none =>
    constructor
    · intro e; exact Or.inr ⟨e, fun y e2 => by cases e2⟩
    · rintro (⟨e, _⟩ | ⟨e, _⟩)
      · cases e
      · exact e
  | some u =>
    cases b with
    | none =>
      constructor
      · intro e; exact Or.inl ⟨e, fun y e2 => by cases e2⟩
      · rintro (⟨e, _⟩ | ⟨e, _⟩)
        · exact e
        · cases e
    | some v =>
      dsimp only
      by_cases h : u < v
      · rw [if_pos h]
        constructor
        · intro e; cases e; exact Or.inr ⟨rfl, fun y e2 => by cases e2; exact h⟩
        · rintro (⟨e, e2⟩ | ⟨e, _⟩)
          · cases e; have := e2 v rfl; omega
          · exact e
      · rw [if_neg h]
        constructor
        · intro e; cases e; exact Or.inl ⟨rfl, fun y e2 => by cases e2; omega⟩
        · rintro (⟨e, _⟩ | ⟨e, e2⟩)
          · exact e
          · cases e; have := e2 u rfl; omega
/-- the most of all -/
theorem dmx_is {D : Nat → Option Nat} {a : Option Nat} {t x : Nat} (hx : ∃ d, d < t ∧ D d = some x) (hle : ∀ d y, d < t → D d = some y → y ≤ x) : dmx D a t = omx a (some x) := by
  have key : ∀ t, (∀ d y, d < t → D d = some y → y ≤ x) → ((∃ d, d < t ∧ D d = some x) → dmx D a t = omx a (some x)) ∧ ((∀ d, d < t → D d ≠ some x) → ∀ y, dmx D a t = some y → (a = some y) ∨ y < x) := by
    intro t
    induction t with
    | zero => exact fun _ => ⟨fun ⟨d, h, _⟩ => absurd h (Nat.not_lt_zero d), fun _ y e => Or.inl e⟩
    | succ t ih =>
      intro hle
      obtain ⟨i1, i2⟩ := ih (fun d y hd => hle d y (by omega))
      constructor
      · rintro ⟨d, hd, e⟩
        show omx (dmx D a t) (D t) = _
        by_cases hex : ∃ d, d < t ∧ D d = some x
        · rw [i1 hex]
          cases hD : D t with
          | none => exact omx_n _
          | some y =>
            have hy := hle t y (by omega) hD
            cases a with
            | none =>
              simp only [omx]
              rw [if_neg (by omega)]
            | some u =>
              simp only [omx]
              by_cases h5 : u < x
              · rw [if_pos h5]
                dsimp only
                rw [if_neg (by omega)]
              · rw [if_neg h5]
                dsimp only
                rw [if_neg (by omega)]
        · have hdt : d = t := by
            rcases Nat.lt_or_ge d t with h5 | h5
            · exact absurd ⟨d, h5, e⟩ hex
            · omega
          subst hdt
          rw [e]
          have i3 := i2 (fun d2 h5 e5 => hex ⟨d2, h5, e5⟩)
          cases hm : dmx D a d with
          | none =>
            cases a with
            | none => rfl
            | some u =>
              exfalso
              -- the most is never less than what it began with
              have : ∀ t, dmx D (some u) t ≠ none := by
                intro t
                induction t with
                | zero => exact fun h => by cases h
                | succ t ih2 =>
                  intro h5
                  have h5 : omx (dmx D (some u) t) (D t) = none := h5
                  cases h6 : dmx D (some u) t with
                  | none => exact ih2 h6
                  | some z =>
                    rw [h6] at h5
                    unfold omx at h5
                    cases h7 : D t with
                    | none => rw [h7] at h5; cases h5
                    | some z2 =>
                      rw [h7] at h5
                      dsimp only at h5
                      split at h5 <;> cases h5
              exact this d hm
          | some y =>
            rcases i3 y hm with h5 | h5
            · rw [h5]
            · -- y < x, so x is more than all
              have ha : ∀ u, a = some u → u ≤ y := by
                rintro u rfl
                have : ∀ t y, dmx D (some u) t = some y → u ≤ y := by
                  intro t
                  induction t with
                  | zero => intro y e2; cases e2; exact Nat.le_refl _
                  | succ t ih2 =>
                    intro y e2
                    have e2 : omx (dmx D (some u) t) (D t) = some y := e2
                    rcases omx_le.mp e2 with ⟨h6, _⟩ | ⟨h6, h7⟩
                    · exact ih2 y h6
                    · cases h8 : dmx D (some u) t with
                      | none =>
                        exfalso
                        have : ∀ t, dmx D (some u) t ≠ none := by
                          intro t
                          induction t with
                          | zero => exact fun h => by cases h
                          | succ t ih3 =>
                            intro h9
                            have h9 : omx (dmx D (some u) t) (D t) = none := h9
                            cases h10 : dmx D (some u) t with
                            | none => exact ih3 h10
                            | some z =>
                              rw [h10] at h9
                              unfold omx at h9
                              cases h11 : D t with
                              | none => rw [h11] at h9; cases h9
                              | some z2 =>
                                rw [h11] at h9
                                dsimp only at h9
                                split at h9 <;> cases h9
                        exact this t h8
                      | some z =>
                        have := ih2 z h8
                        have := h7 z h8
                        omega
                exact this d y hm
              have e1 : omx (some y) (some x) = some x := by
                unfold omx
                dsimp only
                rw [if_pos h5]
              rw [e1]
              cases a with
              | none => rfl
              | some u =>
                have := ha u rfl
                unfold omx
                dsimp only
                rw [if_pos (by omega)]
      · intro hno y e
        have e : omx (dmx D a t) (D t) = some y := e
        rcases omx_le.mp e with ⟨h6, _⟩ | ⟨h6, _⟩
        · exact i2 (fun d hd => hno d (by omega)) y h6
        · right
          have h7 := hle t y (by omega) h6
          have h8 := hno t (by omega)
          rw [h6] at h8
          have : y ≠ x := fun e5 => h8 (by rw [e5])
          omega
  exact (key t hle).1 hx
