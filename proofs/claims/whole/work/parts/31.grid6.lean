/-! The model's laysFar. -/
def BIN (w h : Nat) (x : Int64) (fr q many : Nat) (qf : Nat → Nat) (L : Nat → Option Nat) (F Qa : Nat → Int32) : Prop :=
  BFS w h x fr many qf L ∧ many ≤ 48 ∧ (∀ i a, i < many → L (qf i) = some a → a ≤ i) ∧ (∀ i d k, i < q → L (qf i) = some k → adj w h d (qf i) → tb x d = true → ∃ j, j ≤ k + 1 ∧ L d = some j) ∧ (∀ i, i < many → Qa i = nI (qf i)) ∧ (∀ d, d < 48 → F d = oM (L d))
theorem BIN_lvl {w h : Nat} {x : Int64} {fr q many d k : Nat} {qf : Nat → Nat} {L : Nat → Option Nat} {F Qa : Nat → Int32} (B : BIN w h x fr q many qf L F Qa) (hd : L d = some k) : k < 48 := by
  obtain ⟨⟨_, _, b3, _⟩, h1, h2, _⟩ := B
  obtain ⟨i, hi, rfl⟩ := b3 d k hd
  have := h2 i k hi hd
  omega
section
variable {mp : MpS} {mq : MsS} {ma : MaS} {me : MeS} {rdv : Value} {w h : Nat} {x : Int64} {g : GrS}
theorem lf_side (H : WH w h) (h1 : me.1.1 = nI w) (h2 : me.1.2.1 = nI h) (hx : Sub x (w * h)) {fr q many : Nat} {qf : Nat → Nat} {L : Nat → Option Nat} {F Qa : Nat → Int32} (B : BIN w h x fr q many qf L F Qa) (hq : q < many) (hmx : ∀ k, L (qf q) = some k → ∀ i a, i < many → L (qf i) = some a → a ≤ k + 1) : ∃ r : KT HP → Option HP, (∃ many2 qf2 L2 F2 Qa2, BIN w h x fr (q + 1) many2 qf2 L2 F2 Qa2 ∧ q < many2 ∧ (∀ k, L2 (qf2 q) = some k → ∀ i a, i < many2 → L2 (qf2 i) = some a → a ≤ k + 1) ∧ r = fun k => k [(0, .ref 0), (1, .long x), (4, .int (nI many2)), (5, .int (nI (q + 1)))] [] (M1 mp mq (sFQ ma F2 Qa2) me rdv)) ∧ ∀ k, lp (BX12_laysFar_64 k) FU [(0, .ref 0), (1, .long x), (4, .int (nI many)), (5, .int (nI q)), (6, .int 0)] [] (M1 mp mq (sFQ ma F Qa) me rdv) = r k := by
  have hn := H.n
  refine lp_inv2 (fun s lv hp => ∃ many qf L F Qa, BIN w h x fr q many qf L F Qa ∧ q < many ∧ (∀ k, L (qf q) = some k → ∀ i a, i < many → L (qf i) = some a → a ≤ k + 1) ∧ (∀ k, L (qf q) = some k → ∀ s2 d, s2 < s → nb w h (qf q) s2 = some d → tb x d = true → ∃ j, j ≤ k + 1 ∧ L d = some j) ∧ lv = [(0, .ref 0), (1, .long x), (4, .int (nI many)), (5, .int (nI q)), (6, .int (nI s))] ∧ hp = M1 mp mq (sFQ ma F Qa) me rdv) (t := 4) (by have := FU_ge; omega) (fun s lv hp hs hP => ?_) (fun lv hp hP => ?_) ⟨many, qf, L, F, Qa, B, hq, hmx, fun _ _ s2 _ h _ => absurd h (Nat.not_lt_zero s2), rfl, rfl⟩
  · obtain ⟨many, qf, L, F, Qa, B, hq, hmx, hsd, rfl, rfl⟩ := hP
    have hlv := fun {d k} => BIN_lvl (d := d) (k := k) B
    obtain ⟨B1, B2, B3, B4, B5, B6⟩ := id B
    have hqx : tb x (qf q) = true := B1.1 q hq
    have hqn := hx _ hqx
    obtain ⟨k0, hk0⟩ := B1.2.2.2.1 q hq
    have eq1 : (sFQ ma F Qa).2.2.2.1 (nI q).toNatClampNeg = nI (qf q) := by rw [nI_clamp (by omega)]; exact B5 q hq
    refine Or.inl ?_
    cases hb : nb w h (qf q) s with
    | none =>
      refine ⟨_, _, ⟨many, qf, L, F, Qa, B, hq, hmx, fun k hk s2 d h3 h4 h5 => ?_, rfl, rfl⟩, fun a k => ?_⟩
      · by_cases e : s2 = s
        · subst e; rw [hb] at h4; cases h4
        · exact hsd k hk s2 d (by omega) h4 h5
      · rw [qX12_laysFar_64, l4, if_le (by omega) (by omega), if_neg (by omega), if_neg (nI_in (by omega : q < 48) (by omega)), eq1, qX12_laysFar_83 (h := e_to H h1 h2 hqn hs), hb, if_pos (show oI none = -1 from rfl), nI_1]
    | some d =>
      have hd := nb_lt H hqn hs hb
      have hst : ∀ a k, BX12_laysFar_64 a k [(0, .ref 0), (1, .long x), (4, .int (nI many)), (5, .int (nI q)), (6, .int (nI s))] [] (M1 mp mq (sFQ ma F Qa) me rdv) = (if tb x d = true then (if F d = -2 then (if many < 48 then k [(0, .ref 0), (1, .long x), (4, .int (nI (many + 1))), (5, .int (nI q)), (6, .int (nI (s + 1)))] [] (M1 mp mq (sFQ ma (upd F d (F (qf q) + 1)) (upd Qa many (nI d))) me rdv) else none) else k [(0, .ref 0), (1, .long x), (4, .int (nI many)), (5, .int (nI q)), (6, .int (nI (s + 1)))] [] (M1 mp mq (sFQ ma F Qa) me rdv)) else k [(0, .ref 0), (1, .long x), (4, .int (nI many)), (5, .int (nI q)), (6, .int (nI (s + 1)))] [] (M1 mp mq (sFQ ma F Qa) me rdv)) := by
        intro a k
        rw [qX12_laysFar_64, l4, if_le (by omega) (by omega), if_neg (by omega), if_neg (nI_in (by omega : q < 48) (by omega)), eq1, qX12_laysFar_83 (h := e_to H h1 h2 hqn hs), hb, if_neg (show ¬ oI (some d) = -1 from nI_m1 (by omega)), show oI (some d) = nI d from rfl, qX12_laysFar_97 (h := e_has _ _ (by omega)), if_b2i, nI_1, nI_1]
        rw [eq1, nI_clamp (by omega : d < 2 ^ 31), nI_clamp (by omega : qf q < 2 ^ 31), nI_clamp (by omega : many < 2 ^ 31)]
        have hdn : ¬ (nI d < 0 ∨ 48 ≤ d) := fun h => h.elim (nI_pos (by omega)) (by omega)
        rw [if_neg hdn, if_neg (nI_in (by omega : q < 48) (by omega)), if_neg (show ¬ (nI (qf q) < 0 ∨ 48 ≤ qf q) from fun h => h.elim (nI_pos (by omega)) (by omega)), if_neg hdn]
        by_cases h5 : many < 48
        · rw [if_neg (show ¬ (nI many < 0 ∨ 48 ≤ many) from fun h => h.elim (nI_pos (by omega)) (by omega)), if_pos h5]
        · rw [if_pos (show (nI many < 0 ∨ 48 ≤ many) from Or.inr (by omega)), if_neg h5]
      by_cases h5 : tb x d = true
      · by_cases h6 : L d = none
        · have hF : F d = -2 := by rw [B6 d (by omega), h6]; rfl
          have hFq : F (qf q) + 1 = nI (k0 + 1) := by rw [B6 _ (by omega), hk0]; exact nI_1 k0
          obtain ⟨c1, c2⟩ := BFS_add H hx B1 hk0 h6 h5 (adj_symm H hqn hd (adj_iff.mpr ⟨s, hs, hb⟩)) (hmx k0 hk0)
          have qe : ∀ i, i < many → (if i = many then d else qf i) = qf i := fun i hi => if_neg (by omega)
          have hnd : ∀ i, i < many → qf i ≠ d := fun i hi e => by
            obtain ⟨k, hk⟩ := B1.2.2.2.1 i hi
            rw [e, h6] at hk
            cases hk
          have hLe : ∀ i, i < many → (if qf i = d then some (k0 + 1) else L (qf i)) = L (qf i) := fun i hi => if_neg (hnd i hi)
          have hLk : ∀ e j, L e = some j → (if e = d then some (k0 + 1) else L e) = some j := fun e j he => by
            rw [if_neg (fun ee => by rw [ee, h6] at he; cases he)]; exact he
          refine ⟨_, _, ⟨many + 1, fun i => if i = many then d else qf i, fun e => if e = d then some (k0 + 1) else L e, upd F d (F (qf q) + 1), upd Qa many (nI d), ⟨c2, by omega, ?_, ?_, ?_, ?_⟩, by omega, ?_, ?_, rfl, rfl⟩, fun a k => ?_⟩
          · intro i a hi h7
            dsimp only at h7
            by_cases e : i = many
            · rw [if_pos e, if_pos rfl] at h7
              have := B3 q k0 hq hk0
              have := Option.some.inj h7
              omega
            · rw [qe i (by omega), hLe i (by omega)] at h7
              exact B3 i a (by omega) h7
          · intro i e j hi h7 h8 h9
            dsimp only at h7 h8 ⊢
            rw [qe i (by omega), hLe i (by omega)] at h7
            rw [qe i (by omega)] at h8
            obtain ⟨j2, h10, h11⟩ := B4 i e j hi h7 h8 h9
            exact ⟨j2, h10, hLk e j2 h11⟩
          · intro i hi
            dsimp only
            by_cases e : i = many
            · rw [e, pk_us, if_pos rfl]
            · rw [pk_un e, if_neg e]; exact B5 i (by omega)
          · intro e he
            dsimp only
            by_cases e2 : e = d
            · rw [e2, pk_us, if_pos rfl, hFq]; rfl
            · rw [pk_un e2, if_neg e2]; exact B6 e he
          · intro k hk i a hi h7
            dsimp only at hk h7
            rw [qe q hq, hLe q hq, hk0] at hk
            have hk := Option.some.inj hk
            by_cases e : i = many
            · rw [if_pos e, if_pos rfl] at h7
              have := Option.some.inj h7
              omega
            · rw [qe i (by omega), hLe i (by omega)] at h7
              have := hmx k0 hk0 i a (by omega) h7
              omega
          · intro k hk s2 e h7 h8 h9
            dsimp only at hk h8 ⊢
            rw [qe q hq, hLe q hq, hk0] at hk
            rw [qe q hq] at h8
            have hk := Option.some.inj hk
            by_cases e2 : s2 = s
            · subst e2
              rw [hb] at h8
              have := Option.some.inj h8
              subst this
              exact ⟨k0 + 1, by omega, if_pos rfl⟩
            · obtain ⟨j2, h10, h11⟩ := hsd k0 hk0 s2 e (by omega) h8 h9
              exact ⟨j2, by omega, hLk e j2 h11⟩
          · rw [hst, if_pos h5, if_pos hF, if_pos c1]
        · obtain ⟨j, hj⟩ := Option.ne_none_iff_exists'.mp h6
          have hF : ¬ F d = -2 := by rw [B6 d (by omega), hj]; exact nI_m2 (by have := hlv hj; omega)
          refine ⟨_, _, ⟨many, qf, L, F, Qa, B, hq, hmx, fun k hk s2 e h3 h4 h7 => ?_, rfl, rfl⟩, fun a k => ?_⟩
          · by_cases e2 : s2 = s
            · subst e2
              rw [hb] at h4
              have := Option.some.inj h4
              subst this
              obtain ⟨i, hi, e3⟩ := B1.2.2.1 d j hj
              exact ⟨j, hmx k hk i j hi (by rw [e3]; exact hj), hj⟩
            · exact hsd k hk s2 e (by omega) h4 h7
          · rw [hst, if_pos h5, if_neg hF]
      · refine ⟨_, _, ⟨many, qf, L, F, Qa, B, hq, hmx, fun k hk s2 e h3 h4 h7 => ?_, rfl, rfl⟩, fun a k => ?_⟩
        · by_cases e2 : s2 = s
          · subst e2
            rw [hb] at h4
            have := Option.some.inj h4
            subst this
            exact absurd h7 h5
          · exact hsd k hk s2 e (by omega) h4 h7
        · rw [hst, if_neg h5]
  · obtain ⟨many, qf, L, F, Qa, B, hq, hmx, hsd, rfl, rfl⟩ := hP
    refine ⟨_, ⟨many, qf, L, F, Qa, ⟨B.1, B.2.1, B.2.2.1, fun i d k hi h3 h4 h5 => ?_, B.2.2.2.2⟩, hq, hmx, rfl⟩, fun a k => ?_⟩
    · by_cases e : i = q
      · subst e
        have hqn := hx _ (B.1.1 i hq)
        obtain ⟨s, h6, h7⟩ := adj_iff.mp (adj_symm H (hx d h5) hqn h4)
        exact hsd k h3 s d h6 h7 h5
      · exact B.2.2.2.1 i d k (by omega) h3 h4 h5
    · rw [qX12_laysFar_64, l4, if_le (by omega) (by omega), if_pos (by omega), nI_1]
theorem e_laysFar (H : WH w h) (G : GrOK g w h) (h1 : me.1.1 = nI w) (h2 : me.1.2.1 = nI h) (hx : Sub x (w * h)) {fr : Nat} (hfr : fr < w * h) : ∃ F Q, (∀ d, d < 48 → F d = oM (dst g x (bitL (nI fr) &&& x) d)) ∧ EX12_laysFar [.ref 0, .long x, .int (nI fr)] (M1 mp mq ma me rdv) = some (M1 mp mq (sFQ ma F Q) me rdv) := by
  have hn := H.n
  have hf := bit_in (m := x) (c := fr)
  rw [eX12_laysFar_s, qX12_laysFar_0]
  have e0 : M1 mp mq ma me rdv = M1 mp mq (sFQ ma (fun k => if k < 0 then -2 else ma.2.2.1 k) ma.2.2.2.1) me rdv := by rw [fill_0]
  have L1 : lp (BX12_laysFar_3) FU [(0, .ref 0), (1, .long x), (3, .int (nI fr)), (4, .int 0)] [] (M1 mp mq ma me rdv) = BX12_laysFar_27 [(0, .ref 0), (1, .long x), (3, .int (nI fr))] [.int (nI fr), .long x] (M1 mp mq (sFQ ma (fun k => if k < 48 then -2 else ma.2.2.1 k) ma.2.2.2.1) me rdv) := by
    rw [e0]
    refine lp_run (fun i => [(0, .ref 0), (1, .long x), (3, .int (nI fr)), (4, .int (nI i))]) (fun i => M1 mp mq (sFQ ma (fun k => if k < i then -2 else ma.2.2.1 k) ma.2.2.2.1) me rdv) (t := 48) (by have := FU_ge; omega) (fun i hii k => ?_) (fun k => ?_)
    · rw [qX12_laysFar_3, l48, if_le (by omega) (by omega), if_neg (by omega), if_neg (nI_in hii (by omega)), nI_1, nI_clamp (by omega), upd_fill]
    · rw [qX12_laysFar_3, l48, if_le (by omega) (by omega), if_pos (by omega)]
  rw [L1, qX12_laysFar_27 (h := e_has _ _ (by omega)), if_b2i]
  by_cases hh : tb x fr = true
  · rw [if_pos hh, if_neg (nI_in (by omega : fr < 48) (by omega)), nI_clamp (by omega)]
    have L2 := lp_inv2 (α := Unit) (B := fun _ => BX12_laysFar_54) (fun q lv hp => ∃ many qf L F Qa, BIN w h x fr q many qf L F Qa ∧ q ≤ many ∧ (q < many → ∀ k, L (qf q) = some k → ∀ i a, i < many → L (qf i) = some a → a ≤ k + 1) ∧ lv = [(0, .ref 0), (1, .long x), (4, .int (nI many)), (5, .int (nI q))] ∧ hp = M1 mp mq (sFQ ma F Qa) me rdv) (Q := fun r => ∃ F Q, (∀ d, d < 48 → F d = oM (dst g x (bitL (nI fr) &&& x) d)) ∧ r () = some (M1 mp mq (sFQ ma F Q) me rdv)) (t := 49) (N := FU) (by have := FU_ge; omega) (fun q lv hp hq hP => ?_) (fun lv hp hP => ?_) (lv := [(0, .ref 0), (1, .long x), (4, .int 1), (5, .int 0)]) (hp := M1 mp mq (sFQ ma (upd (fun k => if k < 48 then -2 else ma.2.2.1 k) fr 0) (upd ma.2.2.2.1 0 (nI fr))) me rdv) ⟨1, fun _ => fr, fun d => if d = fr then some 0 else none, _, _, ⟨⟨fun _ _ => hh, fun i j _ _ => by omega, ?_, ?_, ?_, ?_, ?_⟩, by omega, ?_, fun i _ _ h => absurd h (Nat.not_lt_zero i), ?_, ?_⟩, by omega, ?_, rfl, rfl⟩
    · obtain ⟨r, ⟨F, Q, hF, hr⟩, e⟩ := L2
      exact ⟨F, Q, hF, (e ()).trans hr⟩
    · obtain ⟨many, qf, L, F, Qa, B, hq2, hmx, rfl, rfl⟩ := hP
      have hm48 := B.2.1
      by_cases e : q = many
      · subst e
        refine Or.inr ⟨fun _ => some (M1 mp mq (sFQ ma F Qa) me rdv), ⟨F, Qa, fun d hd => ?_, rfl⟩, fun a k => ?_⟩
        · rw [B.2.2.2.2.2 d hd, dst_of (f := bitL (nI fr) &&& x) H G hx hf ?_ B.1.2.2.2.2.2.1 ?_ d]
          · intro d
            rw [B.1.2.2.2.2.1, tb_and, tb_bit fr (by omega), Bool.and_eq_true, decide_eq_true_iff]
            exact ⟨fun e => ⟨e, e ▸ hh⟩, fun h => h.1⟩
          · intro c d k h3 h4 h5
            obtain ⟨i, hi, rfl⟩ := B.1.2.2.1 c k h3
            exact B.2.2.2.1 i d k hi h3 h4 h5
        · rw [qX12_laysFar_54, if_le (by omega) (by omega), if_pos (by omega)]
      · have hq3 : q < many := by omega
        obtain ⟨r, ⟨many2, qf2, L2, F2, Qa2, B2, hq4, hmx2, rfl⟩, hr⟩ := lf_side (mp := mp) (mq := mq) (ma := ma) (rdv := rdv) H h1 h2 hx B hq3 (hmx hq3)
        refine Or.inl ⟨_, _, ⟨many2, qf2, L2, F2, Qa2, B2, by omega, fun hq5 k hk i a hi h7 => ?_, rfl, rfl⟩, fun a k => ?_⟩
        · obtain ⟨k0, hk0⟩ := B2.1.2.2.2.1 q hq4
          have := B2.1.2.2.2.2.2.2 q (q + 1) k0 k (by omega) hq5 hk0 hk
          have := hmx2 k0 hk0 i a hi h7
          omega
        · rw [qX12_laysFar_54, if_le (by omega) (by omega), if_neg (by omega)]
          exact hr k
    · obtain ⟨many, qf, L, F, Qa, B, hq2, _⟩ := hP
      have := B.2.1
      omega
    · intro d k h5
      dsimp only at h5
      by_cases e : d = fr
      · exact ⟨0, by omega, e.symm⟩
      · rw [if_neg e] at h5; cases h5
    · intro i _
      exact ⟨0, if_pos rfl⟩
    · intro d
      dsimp only
      by_cases e : d = fr
      · rw [if_pos e]; exact ⟨fun _ => e, fun _ => rfl⟩
      · rw [if_neg e]; exact ⟨fun h => (by cases h), fun h => absurd h e⟩
    · intro d k h5
      dsimp only at h5
      by_cases e : d = fr
      · rw [if_pos e] at h5; cases h5
      · rw [if_neg e] at h5; cases h5
    · intro i j a b _ _ h5 h6
      dsimp only at h5 h6
      rw [if_pos rfl] at h5 h6
      have := Option.some.inj h5
      omega
    · intro i a _ h5
      dsimp only at h5
      rw [if_pos rfl] at h5
      have := Option.some.inj h5
      omega
    · intro i hi
      obtain rfl : i = 0 := by omega
      exact pk_us
    · intro d hd
      dsimp only
      by_cases e : d = fr
      · rw [e, pk_us, if_pos rfl]; rfl
      · rw [pk_un e, if_neg e, if_pos hd]; rfl
    · intro _ k h5 i a _ h6
      dsimp only at h5 h6
      rw [if_pos rfl] at h5 h6
      have := Option.some.inj h6
      omega
  · rw [if_neg hh]
    refine ⟨_, _, fun d hd => ?_, rfl⟩
    have : dst g x (bitL (nI fr) &&& x) d = none := by
      refine (dst_none H G hx hf).mpr (fun k => ?_)
      cases h5 : tb (FR g x (bitL (nI fr) &&& x) k).1 d
      · rfl
      · obtain ⟨e, h6⟩ := FR_down H G hx hf h5 0 (by omega)
        have h6 : tb (bitL (nI fr) &&& x) e = true := h6
        rw [tb_and, tb_bit fr (by omega), Bool.and_eq_true, decide_eq_true_iff] at h6
        rw [h6.1] at h6
        exact absurd h6.2 hh
    rw [this]
    exact if_pos hd
end
