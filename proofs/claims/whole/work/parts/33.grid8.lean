/-! Parts: what both sides answer. -/
def clr (x : Int64) (p : Nat → Bool) : Nat → Int64
  | 0 => x
  | c + 1 => if p c = true then clr x p c &&& (bitL (nI c) ^^^ (-1)) else clr x p c
def sets (p : Nat → Bool) : Nat → Int64
  | 0 => 0
  | c + 1 => if p c = true then sets p c ||| bitL (nI c) else sets p c
theorem tb_clr (x : Int64) (p : Nat → Bool) {c : Nat} (hc : c ≤ 64) (k : Nat) : tb (clr x p c) k = (tb x k && !(decide (k < c) && p k)) := by
  induction c with
  | zero => show tb x k = _; simp
  | succ c ih =>
    have ih : tb (clr x p c) k = (tb x k && !(decide (k < c) && p k)) := ih (by omega)
    show tb (if p c = true then clr x p c &&& (bitL (nI c) ^^^ (-1)) else clr x p c) k = _
    by_cases h : p c = true
    · rw [if_pos h, tb_andnot, tb_bit c (by omega), ih]
      by_cases e : k = c
      · subst e; simp [h]
      · have : decide (k < c + 1) = decide (k < c) := by rw [decide_eq_decide]; omega
        rw [this]; simp [e]
    · rw [if_neg h, ih]
      by_cases e : k = c
      · subst e; simp [h]
      · have : decide (k < c + 1) = decide (k < c) := by rw [decide_eq_decide]; omega
        rw [this]
theorem tb_sets (p : Nat → Bool) {c : Nat} (hc : c ≤ 64) (k : Nat) : tb (sets p c) k = (decide (k < c) && p k) := by
  induction c with
  | zero => show tb 0 k = _; rw [tb_0]; simp
  | succ c ih =>
    have ih : tb (sets p c) k = (decide (k < c) && p k) := ih (by omega)
    show tb (if p c = true then sets p c ||| bitL (nI c) else sets p c) k = _
    by_cases h : p c = true
    · rw [if_pos h, tb_or, tb_bit c (by omega), ih]
      by_cases e : k = c
      · subst e; simp [h]
      · have : decide (k < c + 1) = decide (k < c) := by rw [decide_eq_decide]; omega
        rw [this]; simp [e]
    · rw [if_neg h, ih]
      by_cases e : k = c
      · subst e; simp [h]
      · have : decide (k < c + 1) = decide (k < c) := by rw [decide_eq_decide]; omega
        rw [this]
section
variable {g : GrS} {w h : Nat} {m : Int64}
theorem Cn_mono {o : Int64} {c d : Nat} (ho : ∀ k, tb o k = true → tb m k = true) (p : Cn w h o c d) : Cn w h m c d :=
  p.ind (P := fun d => Cn w h m c d) (fun h1 => .rf (ho c h1)) (fun _ _ _ ih a b => .st ih a (ho _ b))
/-- which cell parts -/
theorem parting (H : WH w h) (G : GrOK g w h) (hm : Sub m (w * h)) {c : Nat} (hc : tb m c = true) : (prt g m < prt g (m &&& (bitL (nI c) ^^^ (-1)))) ↔ ((besd g (bitL (nI c)) &&& (m &&& (bitL (nI c) ^^^ (-1)))) &&& (FL g (m &&& (bitL (nI c) ^^^ (-1))) ((besd g (bitL (nI c)) &&& (m &&& (bitL (nI c) ^^^ (-1)))) &&& (-(besd g (bitL (nI c)) &&& (m &&& (bitL (nI c) ^^^ (-1)))))) ^^^ (-1))) ≠ 0 := by
  have hn := H.n
  have hcn := hm c hc
  have ho : ∀ k, tb (m &&& (bitL (nI c) ^^^ (-1))) k = true ↔ tb m k = true ∧ k ≠ c := fun k => by
    rw [tb_andnot, tb_bit c (by omega)]
    simp
  generalize hoe : m &&& (bitL (nI c) ^^^ (-1)) = o at *
  have hom : Sub o (w * h) := fun k hk => hm k ((ho k).mp hk).1
  have hN : ∀ k, tb (besd g (bitL (nI c)) &&& o) k = true ↔ adj w h k c ∧ tb o k = true := fun k => by
    rw [tb_and, Bool.and_eq_true, besd_iff H G (Sub_bit hcn (by omega))]
    constructor
    · rintro ⟨⟨_, e, a, b⟩, h2⟩
      rw [tb_bit c (by omega), decide_eq_true_iff] at b
      exact ⟨b ▸ a, h2⟩
    · rintro ⟨a, h2⟩
      exact ⟨⟨hom k h2, c, a, by rw [tb_bit c (by omega)]; simp⟩, h2⟩
  generalize besd g (bitL (nI c)) &&& o = nr at *
  have hsub : ∀ k, tb o k = true → tb m k = true := fun k hk => ((ho k).mp hk).1
  -- away from c nothing changes
  have far : ∀ d e, Cn w h m d e → ¬ Cn w h m d c → Cn w h o d e := fun d e p hd => by
    refine p.ind (P := fun e => Cn w h o d e) (fun h1 => .rf ((ho d).mpr ⟨h1, fun e => hd (e ▸ .rf h1)⟩)) (fun e f q ih a b => .st ih a ((ho f).mpr ⟨b, fun ef => hd (ef ▸ .st q a b)⟩))
  -- near c all comes from a neighbour
  have near : ∀ d, Cn w h m c d → d ≠ c → ∃ y, tb nr y = true ∧ Cn w h o y d := fun d p => by
    refine p.ind (P := fun d => d ≠ c → ∃ y, tb nr y = true ∧ Cn w h o y d) (fun _ h => absurd rfl h) (fun d e q ih a b he => ?_)
    have hoq := (ho e).mpr ⟨b, he⟩
    by_cases hd : d = c
    · subst hd
      exact ⟨e, (hN e).mpr ⟨adj_symm H hcn (hm e b) a, hoq⟩, .rf hoq⟩
    · obtain ⟨y, h1, h2⟩ := ih hd
      exact ⟨y, h1, .st h2 a hoq⟩
  have nrK : ∀ y, tb nr y = true → Cn w h m y c := fun y hy => .st (.rf (hsub y ((hN y).mp hy).2)) ((hN y).mp hy).1 hc
  let K : Nat → Bool := fun d => tb (FL g m (bitL (nI c) &&& m)) d
  have hK : ∀ d, K d = true ↔ Cn w h m c d := FL_bit H G hm hcn
  have split : ∀ p : Nat → Bool, fb_ct p 64 = fb_ct (fun d => p d && K d) 64 + fb_ct (fun d => p d && !K d) 64 := fun p => by
    rw [← fb_ct_or (fun k _ hh => by
      rw [Bool.and_eq_true, Bool.and_eq_true] at hh
      rw [hh.1.2] at hh
      cases hh.2.2)]
    refine fb_ct_cong (fun d _ => ?_)
    cases p d <;> cases K d <;> rfl
  have same : ∀ d, (rep g m d && !K d) = (rep g o d && !K d) := fun d => by
    cases hk : K d
    · have hk2 : ¬ Cn w h m d c := fun p => by rw [(hK d).mpr (Cn_symm H hm p)] at hk; cases hk
      have : rep g m d = true ↔ rep g o d = true := by
        rw [rep_iff H G hm, rep_iff H G hom]
        constructor
        · rintro ⟨h1, h2⟩
          exact ⟨(ho d).mpr ⟨h1, fun e => hk2 (e ▸ .rf h1)⟩, fun e he p => h2 e he (Cn_mono hsub p)⟩
        · rintro ⟨h1, h2⟩
          exact ⟨hsub d h1, fun e he p => h2 e he (far d e p hk2)⟩
      cases h1 : rep g m d <;> cases h2 : rep g o d <;> simp_all
    · simp
  have one : fb_ct (fun d => rep g m d && K d) 64 = 1 := by
    have a1 : fb_ct (fun d => rep g m d && K d) 64 ≤ 1 := ct_one (fun i j hi hj => by
      rw [Bool.and_eq_true, hK, rep_iff H G hm] at hi hj
      have p := Cn_trans (Cn_symm H hm hi.2) hj.2
      rcases Nat.lt_trichotomy i j with h | h | h
      · exact absurd (Cn_symm H hm p) (hj.1.2 i h)
      · exact h
      · exact absurd p (hi.1.2 j h))
    obtain ⟨d, h1, h2⟩ := rep_ex H G hm hc
    have a2 : 0 < fb_ct (fun d => rep g m d && K d) 64 := fb_ct_pos.mpr ⟨d, by have := hm d (Cn_r h2); omega, by rw [h1, (hK d).mpr h2]; rfl⟩
    omega
  have e1 : (prt g m < prt g o) ↔ 2 ≤ fb_ct (fun d => rep g o d && K d) 64 := by
    unfold prt
    rw [split (rep g m), split (rep g o), one, fb_ct_cong (fun d _ => same d)]
    omega
  rw [e1]
  constructor
  · intro h2 h0
    have : fb_ct (fun d => rep g o d && K d) 64 ≤ 1 := by
      by_cases hz : nr = 0
      · refine ct_one (fun i j hi _ => ?_)
        rw [Bool.and_eq_true, hK, rep_iff H G hom] at hi
        obtain ⟨y, h3, _⟩ := near i hi.2 ((ho i).mp hi.1.1).2
        rw [hz, tb_0] at h3
        cases h3
      · obtain ⟨x, hx, h3, h4⟩ := low_ex hz
        rw [low_bit hx h3 h4] at h0
        have hxo := ((hN x).mp h3).2
        have all : ∀ y, tb nr y = true → Cn w h o x y := fun y hy => by
          rw [← FL_bit H G hom (hom x hxo), bit_one hxo hx]
          cases h5 : tb (FL g o (bitL (nI x))) y
          · have := tb_andnot nr (FL g o (bitL (nI x))) y
            rw [h0, tb_0, hy, h5] at this
            cases this
          · rfl
        refine ct_one (fun i j hi hj => ?_)
        rw [Bool.and_eq_true, hK, rep_iff H G hom] at hi hj
        obtain ⟨y, h5, h6⟩ := near i hi.2 ((ho i).mp hi.1.1).2
        obtain ⟨z, h7, h8⟩ := near j hj.2 ((ho j).mp hj.1.1).2
        have p := Cn_trans (Cn_symm H hom (Cn_trans (all y h5) h6)) (Cn_trans (all z h7) h8)
        rcases Nat.lt_trichotomy i j with h | h | h
        · exact absurd (Cn_symm H hom p) (hj.1.2 i h)
        · exact h
        · exact absurd p (hi.1.2 j h)
    omega
  · intro h0
    obtain ⟨y, _, hy⟩ := tb_ne0.mp h0
    rw [tb_andnot, Bool.and_eq_true] at hy
    have hz : nr ≠ 0 := fun e => by rw [e, tb_0] at hy; cases hy.1
    obtain ⟨x, hx, h3, h4⟩ := low_ex hz
    rw [low_bit hx h3 h4] at hy
    have hxo := ((hN x).mp h3).2
    have hyo := ((hN y).mp hy.1).2
    have hxy : ¬ Cn w h o x y := fun p => by
      have := (FL_bit H G hom (hom x hxo) y).mpr p
      rw [bit_one hxo hx] at this
      rw [this] at hy
      cases hy.2
    obtain ⟨i, a1, a2⟩ := rep_ex H G hom hxo
    obtain ⟨j, b1, b2⟩ := rep_ex H G hom hyo
    have hij : i ≠ j := fun e => hxy (Cn_trans a2 (Cn_symm H hom (e ▸ b2)))
    have ki : (rep g o i && K i) = true := by rw [a1, (hK i).mpr (Cn_trans (Cn_symm H hm (nrK x h3)) (Cn_mono hsub a2))]; rfl
    have kj : (rep g o j && K j) = true := by rw [b1, (hK j).mpr (Cn_trans (Cn_symm H hm (nrK y hy.1)) (Cn_mono hsub b2))]; rfl
    have hin := hom i (Cn_r a2)
    have hjn := hom j (Cn_r b2)
    rcases Nat.lt_or_ge i j with h | h
    · exact ct_two h (by omega) ki kj
    · exact ct_two (by omega) (by omega : i < 64) kj ki
end
section
variable {mz : MzS} {tp : TpS} {tk : TkS} {rd : RdS} {hi : HiS} {sc : ScS} {pl : PlS} {dr : PlS} {wa : WaS} {wb : WaS} {rc : Nat → Int32} {w h : Nat} {m : Int64}
theorem e_countParts (H : WH w h) (G : GrOK pl.1 w h) (hm : Sub m (w * h)) : EX0_countParts [.ref 15, .long m] (CH mz tp tk rd hi sc pl dr wa wb rc) = some (nI (prt pl.1 m)) := by
  obtain ⟨h0, h1⟩ := prt_end H G hm
  have h2 := prt_le (g := pl.1) H hm
  rw [eX0_countParts_s, qX0_countParts_0]
  refine lp_run (fun i => [(0, .ref 15), (1, .long m), (3, .int (nI i)), (4, .long (pLs pl.1 m i)), (6, .int (nI i))]) (fun _ => CH mz tp tk rd hi sc pl dr wa wb rc) (t := prt pl.1 m) (by have := FU_ge; omega) (fun i hii k => ?_) (fun k => ?_)
  · have hf : ∀ k, tb (pLs pl.1 m i &&& (-(pLs pl.1 m i))) k = true → tb m k = true := fun k hk => by
      rw [tb_and, Bool.and_eq_true] at hk
      exact (pLs_Whl H G hm i).1 k hk.1
    rw [qX0_countParts_8, l48, if_le (by omega) (by omega), if_neg (by omega), lg0, if_neg (h1 i hii), qX0_countParts_32 (h := e_flood H G hm hf), nI_1]
    rfl
  · rw [qX0_countParts_8, lg0, if_pos h0, ite_self]
theorem e_isParting (H : WH w h) (G : GrOK pl.1 w h) (hm : Sub m (w * h)) {c : Nat} (hc : c < w * h) : EX0_isParting [.ref 15, .long m, .int (nI c)] (CH mz tp tk rd hi sc pl dr wa wb rc) = some (tb m c && decide (prt pl.1 m < prt pl.1 (m &&& (bitL (nI c) ^^^ (-1))))) := by
  have hn := H.n
  rw [eX0_isParting_s, qX0_isParting_0, qX0_isParting_27 (h := e_isIn _ _ (by omega)), if_b2i]
  by_cases h1 : tb m c = true
  · have ho : Sub (m &&& (bitL (nI c) ^^^ (-1))) (w * h) := Sub_andl hm
    have hf : ∀ k, tb ((besd pl.1 (bitL (nI c)) &&& (m &&& (bitL (nI c) ^^^ (-1)))) &&& (-(besd pl.1 (bitL (nI c)) &&& (m &&& (bitL (nI c) ^^^ (-1)))))) k = true → tb (m &&& (bitL (nI c) ^^^ (-1))) k = true := fun k hk => by
      rw [tb_and, Bool.and_eq_true, tb_and, Bool.and_eq_true] at hk
      exact hk.1.2
    rw [if_pos h1, qX0_isParting_44 (h := e_flood H G ho hf), lg0, h1]
    have := parting H G hm h1
    by_cases h2 : prt pl.1 m < prt pl.1 (m &&& (bitL (nI c) ^^^ (-1)))
    · rw [if_neg (this.mp h2), decide_eq_true h2]; rfl
    · rw [decide_eq_false h2]
      rw [if_pos]
      · rfl
      · by_cases h3 : (besd pl.1 (bitL (nI c)) &&& (m &&& (bitL (nI c) ^^^ (-1)))) &&& (FL pl.1 (m &&& (bitL (nI c) ^^^ (-1))) ((besd pl.1 (bitL (nI c)) &&& (m &&& (bitL (nI c) ^^^ (-1)))) &&& (-(besd pl.1 (bitL (nI c)) &&& (m &&& (bitL (nI c) ^^^ (-1)))))) ^^^ (-1)) = 0
        · exact h3
        · exact absurd (this.mpr h3) h2
  · rw [if_neg h1]
    cases h2 : tb m c
    · rfl
    · exact absurd h2 h1
end
section
variable {mp : MpS} {mq : MsS} {ma : MaS} {me : MeS} {rdv : Value} {w h : Nat} {x : Int64} {g : GrS}
theorem e_partsOf (H : WH w h) (G : GrOK g w h) (h1 : me.1.1 = nI w) (h2 : me.1.2.1 = nI h) (hx : Sub x (w * h)) : ∃ F Q, EX12_partsOf [.ref 0, .long x] (M1 mp mq ma me rdv) = some (nI (prt g x), M1 mp mq (sFQ ma F Q) me rdv) := by
  have hn := H.n
  obtain ⟨z0, z1⟩ := prt_end H G hx
  have z2 := prt_le (g := g) H hx
  rw [eX12_partsOf_s, qX12_partsOf_0]
  have L2 := lp_inv2 (α := Unit) (B := fun _ => BX12_partsOf_5) (fun i lv hp => ∃ F Q, lv = [(0, .ref 0), (3, .long (pLs g x i)), (5, .int (nI i))] ∧ hp = M1 mp mq (sFQ ma F Q) me rdv) (Q := fun r => ∃ F Q, r () = some (nI (prt g x), M1 mp mq (sFQ ma F Q) me rdv)) (t := prt g x) (N := FU) (by have := FU_ge; omega) (fun i lv hp hi hP => ?_) (fun lv hp hP => ?_) (lv := [(0, .ref 0), (3, .long x), (5, .int 0)]) (hp := M1 mp mq ma me rdv) ⟨_, _, rfl, rfl⟩
  · obtain ⟨r, ⟨F, Q, hr⟩, e⟩ := L2
    exact ⟨F, Q, (e ()).trans hr⟩
  · obtain ⟨F, Q, rfl, rfl⟩ := hP
    obtain ⟨k, hk, h3, h4⟩ := low_ex (z1 i hi)
    have W := pLs_Whl H G hx i
    have hkx := W.1 k h3
    have hkn := hx k hkx
    have hls : Sub (pLs g x i) (w * h) := fun j hj => hx j (W.1 j hj)
    obtain ⟨F2, Q2, hF2, eF⟩ := e_laysFar (mp := mp) (mq := mq) (ma := sFQ ma F Q) (rdv := rdv) H G h1 h2 hls hkn
    -- cells of the part of k
    have hd : ∀ d, F2 d = -2 ∨ 48 ≤ d ∨ (d < 48 ∧ tb (FL g x (pLs g x i &&& (-(pLs g x i)))) d = true ∧ F2 d ≠ -2) := fun d => by
      rcases Nat.lt_or_ge d 48 with h5 | h5
      · cases hdd : dst g (pLs g x i) (bitL (nI k) &&& pLs g x i) d with
        | none => exact Or.inl (by rw [hF2 d h5, hdd]; rfl)
        | some q =>
          have h6 := (dst_some H G hls bit_in).mp hdd
          have h7 := dst_lt H G hls bit_in hdd
          refine Or.inr (Or.inr ⟨h5, ?_, by rw [hF2 d h5, hdd]; exact nI_m2 (by omega)⟩)
          rw [low_bit hk h3 h4, FR_pass]
          refine ⟨q, by omega, ?_⟩
          rw [← FR_part (l := pLs g x i) H G hx W.1 W.2 (fun j hj => by
            rw [tb_bit k hk, decide_eq_true_iff] at hj
            rw [hj]; exact h3)]
          rw [bit_one h3 hk] at h6
          exact h6
      · exact Or.inr (Or.inl h5)
    have hd2 : ∀ d, d < 48 → tb (FL g x (pLs g x i &&& (-(pLs g x i)))) d = true → F2 d ≠ -2 := fun d h5 h6 => by
      rw [low_bit hk h3 h4, FR_pass] at h6
      obtain ⟨q, h7, h8⟩ := h6
      rw [← FR_part (l := pLs g x i) H G hx W.1 W.2 (fun j hj => by
            rw [tb_bit k hk, decide_eq_true_iff] at hj
            rw [hj]; exact h3), ← bit_one h3 hk] at h8
      rw [hF2 d h5, (dst_some H G hls bit_in).mpr h8]
      exact nI_m2 (by omega)
    refine Or.inl ⟨[(0, .ref 0), (3, .long (pLs g x (i + 1))), (5, .int (nI (i + 1)))], M1 mp mq (sFQ ma F2 Q2) me rdv, ⟨F2, Q2, rfl, rfl⟩, fun _ kk => ?_⟩
    rw [qX12_partsOf_5, lg0, if_neg (z1 i hi), qX12_partsOf_14 (h := e_first _ hk h3 h4), qX12_partsOf_17 (h := eF)]
    have ee : clr (pLs g x i) (fun c => decide (F2 c ≠ -2)) (w * h) = pLs g x (i + 1) := tb_ext (fun d _ => by
      rw [tb_clr _ _ (by omega), show tb (pLs g x (i + 1)) d = (tb (pLs g x i) d && !tb (FL g x (pLs g x i &&& (-(pLs g x i)))) d) from tb_andnot _ _ _]
      cases h5 : tb (pLs g x i) d
      · rfl
      · have hdn := hls d h5
        rw [decide_eq_true hdn]
        cases h6 : tb (FL g x (pLs g x i &&& (-(pLs g x i)))) d
        · have : F2 d = -2 := by
            rcases hd d with h7 | h7 | h7
            · exact h7
            · omega
            · rw [h7.2.1] at h6; cases h6
          simp [this]
        · simp [hd2 d (by omega) h6])
    rw [← ee]
    refine lp_run (B := BX12_partsOf_23 kk) (fun c => [(0, .ref 0), (3, .long (clr (pLs g x i) (fun c => decide (F2 c ≠ -2)) c)), (5, .int (nI i)), (6, .int (nI c))]) (fun _ => M1 mp mq (sFQ ma F2 Q2) me rdv) (t := w * h) (N := FU) (by have := FU_ge; omega) (fun c hc k2 => ?_) (fun k2 => ?_)
    · rw [qX12_partsOf_23, h1, h2, pk_mul, if_le (by omega) (by omega), if_neg (by omega), if_neg (nI_in (by omega : c < 48) (by omega)), nI_clamp (by omega), nI_1]
      by_cases h5 : F2 c = -2
      · rw [if_pos h5, show clr (pLs g x i) (fun c => decide (F2 c ≠ -2)) (c + 1) = clr (pLs g x i) (fun c => decide (F2 c ≠ -2)) c from if_neg (by simp [h5])]
      · rw [if_neg h5, show clr (pLs g x i) (fun c => decide (F2 c ≠ -2)) (c + 1) = clr (pLs g x i) (fun c => decide (F2 c ≠ -2)) c &&& (bitL (nI c) ^^^ (-1)) from if_pos (by simp [h5])]
    · rw [qX12_partsOf_23, h1, h2, pk_mul, if_le (by omega) (by omega), if_pos (by omega), nI_1]
  · obtain ⟨F, Q, rfl, rfl⟩ := hP
    refine ⟨fun _ => some (nI (prt g x), M1 mp mq (sFQ ma F Q) me rdv), ⟨F, Q, rfl⟩, fun _ k => ?_⟩
    rw [qX12_partsOf_5, lg0, if_pos z0]
end
