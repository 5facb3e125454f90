/-! Parts of a set; the cell that parts. -/
theorem neg_low (x : Int64) : -x = (x - 1) ^^^ (-1) := by
  apply Int64.toBitVec_inj.mp
  have e1 : ((x - 1) ^^^ (-1)).toBitVec = ~~~ (x.toBitVec - 1#64) := by
    rw [Int64.toBitVec_xor, Int64.toBitVec_sub]
    show (x.toBitVec - 1#64) ^^^ BitVec.allOnes 64 = _
    rw [BitVec.xor_allOnes]
  rw [e1, Int64.toBitVec_neg, ← BitVec.not_neg, BitVec.not_not]
theorem low_bit {x : Int64} {k : Nat} (hk : k < 64) (h1 : tb x k = true) (h2 : ∀ j, j < k → tb x j = false) : x &&& (-x) = bitL (nI k) := by
  have hx : x ≠ 0 := tb_ne0.mpr ⟨k, hk, h1⟩
  obtain ⟨k2, hk2, a1, a2, a3⟩ := tb_low hx
  have e : k2 = k := by
    rcases Nat.lt_trichotomy k2 k with h | h | h
    · rw [h2 k2 h] at a1; cases a1
    · exact h
    · rw [a2 k h] at h1; cases h1
  subst e
  refine tb_ext (fun j hj => ?_)
  rw [neg_low, tb_andnot, tb_bit k2 hk]
  have := a3 j
  rw [tb_and] at this
  cases h3 : tb x j
  · by_cases e : j = k2
    · subst e; rw [h1] at h3; cases h3
    · simp [e]
  · rw [h3] at this
    simp only [Bool.true_and] at this
    rw [this]
    simp
def pLs (g : GrS) (m : Int64) : Nat → Int64
  | 0 => m
  | i + 1 => pLs g m i &&& (FL g m (pLs g m i &&& (-(pLs g m i))) ^^^ (-1))
/-- a set of whole parts -/
def Whl (w h : Nat) (m l : Int64) : Prop := (∀ k, tb l k = true → tb m k = true) ∧ ∀ c d, tb l c = true → adj w h d c → tb m d = true → tb l d = true
def rep (g : GrS) (m : Int64) (d : Nat) : Bool := tb m d && decide (∀ e, e < d → tb (FL g m (bitL (nI d) &&& m)) e = false)
section
variable {g : GrS} {w h : Nat} {m l : Int64}
theorem Whl_Cn {c d : Nat} (H : WH w h) (hm : Sub m (w * h)) (W : Whl w h m l) (hc : tb l c = true) (p : Cn w h m c d) : tb l d = true :=
  p.ind (P := fun d => tb l d = true) (fun _ => hc) (fun d e q ih a b => W.2 d e ih (adj_symm H (hm _ (Cn_r q)) (hm _ b) a) b)
theorem bit_one {c : Nat} (hc : tb m c = true) (hc2 : c < 64) : bitL (nI c) &&& m = bitL (nI c) := tb_ext (fun d _ => by
  rw [tb_and, tb_bit c hc2]
  by_cases e : d = c
  · subst e; rw [hc]; simp
  · simp [e])
theorem FL_bit (H : WH w h) (G : GrOK g w h) (hm : Sub m (w * h)) {c : Nat} (hc : c < w * h) (d : Nat) : tb (FL g m (bitL (nI c) &&& m)) d = true ↔ Cn w h m c d := by
  have hn := H.n
  rw [FL_iff H G hm bit_in]
  constructor
  · rintro ⟨e, h1, h2⟩
    rw [tb_and, tb_bit c (by omega), Bool.and_eq_true, decide_eq_true_iff] at h1
    rw [h1.1] at h2
    exact h2
  · intro p
    exact ⟨c, by rw [tb_and, tb_bit c (by omega), Cn_l p]; simp, p⟩
theorem low_ex {x : Int64} (hx : x ≠ 0) : ∃ k, k < 64 ∧ tb x k = true ∧ ∀ j, j < k → tb x j = false := by
  obtain ⟨k, h1, h2, h3, _⟩ := tb_low hx
  exact ⟨k, h1, h2, h3⟩
theorem pLs_Whl (H : WH w h) (G : GrOK g w h) (hm : Sub m (w * h)) (i : Nat) : Whl w h m (pLs g m i) := by
  induction i with
  | zero => exact ⟨fun _ h => h, fun _ _ _ _ h => h⟩
  | succ i ih =>
    have e : ∀ k, tb (pLs g m (i + 1)) k = (tb (pLs g m i) k && !tb (FL g m (pLs g m i &&& (-(pLs g m i)))) k) := fun k => tb_andnot _ _ _
    have hf : ∀ k, tb (pLs g m i &&& (-(pLs g m i))) k = true → tb m k = true := fun k hk => by
      rw [tb_and, Bool.and_eq_true] at hk
      exact ih.1 k hk.1
    refine ⟨fun k hk => ?_, fun c d hc a hd => ?_⟩
    · rw [e, Bool.and_eq_true] at hk
      exact ih.1 k hk.1
    · rw [e, Bool.and_eq_true] at hc ⊢
      refine ⟨ih.2 c d hc.1 a hd, ?_⟩
      cases h5 : tb (FL g m (pLs g m i &&& (-(pLs g m i)))) d
      · rfl
      · obtain ⟨e, h6, h7⟩ := (FL_iff H G hm hf d).mp h5
        have hcm := ih.1 c hc.1
        have := (FL_iff H G hm hf c).mpr ⟨e, h6, .st h7 a hcm⟩
        rw [this] at hc
        cases hc.2
theorem pLs_low (H : WH w h) (G : GrOK g w h) (hm : Sub m (w * h)) {i k : Nat} (h1 : tb (pLs g m i) k = true) (h2 : ∀ j, j < k → tb (pLs g m i) j = false) (d : Nat) : tb (pLs g m (i + 1)) d = true ↔ tb (pLs g m i) d = true ∧ ¬ Cn w h m k d := by
  have hn := H.n
  have hk := hm k ((pLs_Whl H G hm i).1 k h1)
  have hkm := (pLs_Whl H G hm i).1 k h1
  have e : tb (pLs g m (i + 1)) d = (tb (pLs g m i) d && !tb (FL g m (pLs g m i &&& (-(pLs g m i)))) d) := tb_andnot _ _ _
  rw [e, low_bit (by omega) h1 h2, ← bit_one hkm (by omega), Bool.and_eq_true, ← FL_bit H G hm hk]
  simp
theorem rep_iff (H : WH w h) (G : GrOK g w h) (hm : Sub m (w * h)) {d : Nat} : rep g m d = true ↔ tb m d = true ∧ ∀ e, e < d → ¬ Cn w h m d e := by
  unfold rep
  rw [Bool.and_eq_true, decide_eq_true_iff]
  constructor
  · rintro ⟨h1, h2⟩
    refine ⟨h1, fun e he p => ?_⟩
    have := (FL_bit H G hm (hm d h1) e).mpr p
    rw [h2 e he] at this
    cases this
  · rintro ⟨h1, h2⟩
    refine ⟨h1, fun e he => ?_⟩
    cases h3 : tb (FL g m (bitL (nI d) &&& m)) e
    · rfl
    · exact absurd ((FL_bit H G hm (hm d h1) e).mp h3) (h2 e he)
/-- the parts that are left: one less with each -/
theorem pLs_rep (H : WH w h) (G : GrOK g w h) (hm : Sub m (w * h)) {i : Nat} (h0 : pLs g m i ≠ 0) : fb_ct (fun d => tb (pLs g m (i + 1)) d && rep g m d) 64 + 1 = fb_ct (fun d => tb (pLs g m i) d && rep g m d) 64 := by
  obtain ⟨k, hk, h1, h2⟩ := low_ex h0
  have W := pLs_Whl H G hm i
  have hkm := W.1 k h1
  have hrk : rep g m k = true := (rep_iff H G hm).mpr ⟨hkm, fun e he p => by
    have := Whl_Cn H hm W h1 p
    rw [h2 e he] at this
    cases this⟩
  have e : ∀ d, (tb (pLs g m (i + 1)) d && rep g m d) = (if d = k then false else (tb (pLs g m i) d && rep g m d)) := by
    intro d
    by_cases hd : d = k
    · rw [if_pos hd, hd]
      cases h3 : tb (pLs g m (i + 1)) k
      · rfl
      · exact absurd (Cn.rf hkm) ((pLs_low H G hm h1 h2 k).mp h3).2
    · rw [if_neg hd]
      cases h3 : rep g m d
      · simp
      · cases h4 : tb (pLs g m i) d
        · cases h5 : tb (pLs g m (i + 1)) d
          · rfl
          · rw [((pLs_low H G hm h1 h2 d).mp h5).1] at h4; cases h4
        · have : tb (pLs g m (i + 1)) d = true := (pLs_low H G hm h1 h2 d).mpr ⟨h4, fun p => by
            have h6 := (rep_iff H G hm).mp h3
            rcases Nat.lt_trichotomy k d with h7 | h7 | h7
            · exact h6.2 k h7 (Cn_symm H hm p)
            · exact hd h7.symm
            · rw [h2 d h7] at h4; cases h4⟩
          rw [this]
  rw [fb_ct_cong (fun d _ => e d)]
  have := fb_ct_upd (fun d => tb (pLs g m i) d && rep g m d) false hk
  rw [h1, hrk] at this
  simpa using this
/-- how many parts -/
def prt (g : GrS) (m : Int64) : Nat := fb_ct (rep g m) 64
theorem prt_0 (g : GrS) (m : Int64) : fb_ct (fun d => tb (pLs g m 0) d && rep g m d) 64 = prt g m := fb_ct_cong (fun d _ => by
  show (tb m d && (tb m d && _)) = (tb m d && _)
  cases tb m d <;> rfl)
theorem prt_n (H : WH w h) (G : GrOK g w h) (hm : Sub m (w * h)) {i : Nat} (hi : ∀ j, j < i → pLs g m j ≠ 0) : fb_ct (fun d => tb (pLs g m i) d && rep g m d) 64 + i = prt g m := by
  induction i with
  | zero => exact prt_0 g m
  | succ i ih =>
    have h1 := ih (fun j hj => hi j (by omega))
    have h2 := pLs_rep H G hm (hi i (by omega))
    omega
theorem prt_le (H : WH w h) (hm : Sub m (w * h)) : prt g m ≤ 48 := by
  have hn := H.n
  have h1 : prt g m = fb_ct (rep g m) 48 := by
    show fb_ct (rep g m) (48 + 16) = _
    rw [fb_ct_split]
    have : fb_ct (fun k => rep g m (48 + k)) 16 = 0 := fb_ct_zero.mpr (fun k _ => by
      cases h2 : rep g m (48 + k)
      · rfl
      · unfold rep at h2
        rw [Bool.and_eq_true] at h2
        have := hm _ h2.1
        omega)
    omega
  rw [h1]
  exact fb_ct_le _ _
theorem prt_end (H : WH w h) (G : GrOK g w h) (hm : Sub m (w * h)) : pLs g m (prt g m) = 0 ∧ ∀ j, j < prt g m → pLs g m j ≠ 0 := by
  have key : ∀ i, i ≤ prt g m → ∀ j, j < i → pLs g m j ≠ 0 := by
    intro i
    induction i with
    | zero => intro _ j hj; omega
    | succ i ih =>
      intro hi j hj
      by_cases e : j = i
      · subst e
        intro h0
        have := prt_n H G hm (ih (by omega))
        have h3 : fb_ct (fun d => tb (pLs g m j) d && rep g m d) 64 = 0 := fb_ct_zero.mpr (fun k _ => by rw [h0, tb_0]; rfl)
        omega
      · exact ih (by omega) j (by omega)
  refine ⟨?_, key _ (Nat.le_refl _)⟩
  have h1 := prt_n H G hm (key _ (Nat.le_refl _))
  have h2 : fb_ct (fun d => tb (pLs g m (prt g m)) d && rep g m d) 64 = 0 := by omega
  by_cases h3 : pLs g m (prt g m) = 0
  · exact h3
  · have := pLs_rep H G hm h3
    omega
theorem ct_two {p : Nat → Bool} {i j n : Nat} (hij : i < j) (hj : j < n) (h1 : p i = true) (h2 : p j = true) : 2 ≤ fb_ct p n := by
  have a1 : fb_ct p (i + 1) = fb_ct p i + 1 := by rw [fb_ct_succ, if_pos h1]
  have a2 : fb_ct p (j + 1) = fb_ct p j + 1 := by rw [fb_ct_succ, if_pos h2]
  have a3 := fb_ct_mono p (m := i + 1) (n := j) (by omega)
  have a4 := fb_ct_mono p (m := j + 1) (n := n) (by omega)
  omega
theorem ct_one {p : Nat → Bool} {n : Nat} (hh : ∀ i j, p i = true → p j = true → i = j) : fb_ct p n ≤ 1 := by
  rcases Nat.lt_or_ge 1 (fb_ct p n) with h1 | h1
  · obtain ⟨i, _, h2, h3⟩ := fb_ct_kth (p := p) (k := 0) (n := n) (by omega)
    obtain ⟨j, _, h4, h5⟩ := fb_ct_kth (p := p) (k := 1) (n := n) h1
    rw [hh i j h2 h4] at h3
    omega
  · exact h1
/-- the least cell of a part -/
theorem rep_ex (H : WH w h) (G : GrOK g w h) (hm : Sub m (w * h)) {c : Nat} (hc : tb m c = true) : ∃ d, rep g m d = true ∧ Cn w h m c d := by
  have hn := H.n
  have hc2 := hm c hc
  have h0 : FL g m (bitL (nI c) &&& m) ≠ 0 := tb_ne0.mpr ⟨c, by omega, (FL_bit H G hm hc2 c).mpr (.rf hc)⟩
  obtain ⟨d, _, h1, h2⟩ := low_ex h0
  have p := (FL_bit H G hm hc2 d).mp h1
  refine ⟨d, (rep_iff H G hm).mpr ⟨Cn_r p, fun e he q => ?_⟩, p⟩
  have := (FL_bit H G hm hc2 e).mpr (Cn_trans p q)
  rw [h2 e he] at this
  cases this
end
