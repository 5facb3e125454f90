/-! Strokes: the model's table. -/
section
variable {th mtr wh ta mfa : Int32} {mo : Int64} {sd ac mk : Int32} {mq : MsS} {ma : MaS} {me : MeS} {rdv : Value} {LE CT : Nat → Int32} {w h n : Nat} {g : GrS} {td : Int64} {cel : Nat → Nat}
theorem m_isBeside (H : WH w h) (G : GrOK g w h) (h1 : me.1.1 = nI w) (h2 : me.1.2.1 = nI h) {c d : Nat} (hc : c < w * h) (hd : d < w * h) : EX12_isBeside [.ref 0, .int (nI c), .int (nI d)] (M1 (th, mtr, wh, ta, mfa, mo, sd, ac, mk) mq (MAs ma LE CT) me rdv) = some (tb (besd g (bitL (nI d))) c) := by
  have hn := H.n
  have hiff : tb (besd g (bitL (nI d))) c = true ↔ ∃ s, s < 4 ∧ nb w h c s = some d := by
    rw [besd_iff H G (Sub_bit hd (by omega)), ← adj_iff]
    constructor
    · rintro ⟨_, x, h5, h6⟩
      rw [tb_bit d (by omega)] at h6
      rw [← of_decide_eq_true h6]
      exact h5
    · intro h5
      exact ⟨hc, d, h5, by rw [tb_bit d (by omega)]; simp⟩
  have ho : ∀ s, s < 4 → (oI (nb w h c s) = nI d ↔ nb w h c s = some d) := fun s hs => by
    cases hnb : nb w h c s with
    | none => exact ⟨fun e => absurd e.symm (nI_m1 (by omega)), fun e => by cases e⟩
    | some x =>
      have hx := nb_lt H hc hs hnb
      show nI x = nI d ↔ _
      rw [nI_eq (by omega) (by omega)]
      exact ⟨fun e => by rw [e], fun e => by cases e; rfl⟩
  rw [eX12_isBeside_s_s, qX12_isBeside_0_s]
  have go : ∀ (t : Nat) (v : Bool), t ≤ 4 → (∀ s, s < t → ¬ nb w h c s = some d) → ((t = 4 ∧ v = false) ∨ (t < 4 ∧ nb w h c t = some d ∧ v = true)) → lp BX12_isBeside_2 FU [(0, .ref 0), (1, .int (nI c)), (2, .int (nI d)), (3, .int 0)] [] (M1 (th, mtr, wh, ta, mfa, mo, sd, ac, mk) mq (MAs ma LE CT) me rdv) = some v := by
    intro t v ht hno hv
    refine lp_run (fun s => [(0, .ref 0), (1, .int (nI c)), (2, .int (nI d)), (3, .int (nI s))]) (fun _ => M1 (th, mtr, wh, ta, mfa, mo, sd, ac, mk) mq (MAs ma LE CT) me rdv) (t := t) (by have := FU_ge; omega) (fun s hs k => ?_) (fun k => ?_)
    · rw [qX12_isBeside_2_s, if_neg (nle4 (by omega)), qX12_isBeside_13_s (h := e_to H h1 h2 hc (by omega)), if_neg (fun e => hno s hs ((ho s (by omega)).mp e)), nI_1]
    · rcases hv with ⟨rfl, rfl⟩ | ⟨h6, h7, rfl⟩
      · rw [qX12_isBeside_2_s, if_pos (by decide)]
      · rw [qX12_isBeside_2_s, if_neg (nle4 h6), qX12_isBeside_13_s (h := e_to H h1 h2 hc h6), if_pos ((ho t h6).mpr h7)]
  rcases first_or (P := fun s => nb w h c s = some d) 4 with ⟨t, a1, a2, a3⟩ | a3
  · rw [hiff.mpr ⟨t, a1, a2⟩]
    exact go t true (by omega) a3 (Or.inr ⟨a1, a2, rfl⟩)
  · have : tb (besd g (bitL (nI d))) c = false := by
      cases h5 : tb (besd g (bitL (nI d))) c
      · rfl
      · obtain ⟨s, h6, h7⟩ := hiff.mp h5
        exact absurd h7 (a3 s h6)
    rw [this]
    exact go 4 false (Nat.le_refl _) a3 (Or.inl ⟨rfl, rfl⟩)
/-- what the table knows -/
def LEk (n : Nat) (ad : Nat → Nat → Bool) (S i : Nat) (LE : Nat → Int32) : Prop := ∀ U j, 1 ≤ U → U < 2 ^ n → j < n → (U < S ∨ (U = S ∧ j < i)) → LE (12 * U + j) = if U.testBit j = true then nI (Gd n ad U j) else -2
theorem m_strokesTo (H : WH w h) (G : GrOK g w h) (h1 : me.1.1 = nI w) (h2 : me.1.2.1 = nI h) (hn12 : n ≤ 12) (hc : CelOK td (w * h) n cel) (hCT : ∀ k, k < n → CT k = nI (cel k)) {S i : Nat} (hS : S < 2 ^ n) (hi : i < n) (hb : S.testBit i = true) (hne : S ≠ 2 ^ i) (L : LEk n (adB g cel) S i LE) : EX12_strokesTo [.ref 0, .int (nI (S ^^^ 2 ^ i)), .int (nI i), .int (nI n)] (M1 (th, mtr, wh, ta, mfa, mo, sd, ac, mk) mq (MAs ma LE CT) me rdv) = some (nI (Gd n (adB g cel) S i)) := by
  have hn := H.n
  have hp12 : 2 ^ n ≤ 2 ^ 12 := Nat.pow_le_pow_right (by omega) hn12
  have h4096 : (2 : Nat) ^ 12 = 4096 := by decide
  have hS2 := tx_lt2 hS hi
  have hlt := tx_lt hb
  have h1S : 1 ≤ S ^^^ 2 ^ i := by
    rcases Nat.eq_zero_or_pos (S ^^^ 2 ^ i) with h0 | h0
    · have := tx_tx S i
      rw [h0, Nat.zero_xor] at this
      exact absurd this.symm hne
    · exact h0
  have hLE : ∀ k, k < n → LE (12 * (S ^^^ 2 ^ i) + k) = if (S ^^^ 2 ^ i).testBit k = true then nI (Gd n (adB g cel) (S ^^^ 2 ^ i) k) else -2 := fun k hk => L _ k h1S hS2 hk (Or.inl hlt)
  rw [Gd_eq hb, if_neg hne, eX12_strokesTo_s_s, qX12_strokesTo_0_s, nI_1]
  have hmb := mnf_b (fun k => if (S ^^^ 2 ^ i).testBit k = true then some (Gd n (adB g cel) (S ^^^ 2 ^ i) k + (if adB g cel k i = true then 0 else 1)) else none) (n + 1)
  refine lp_run (fun k => [(0, .ref 0), (1, .int (nI (S ^^^ 2 ^ i))), (2, .int (nI i)), (3, .int (nI n)), (4, .int (nI (mnf (fun k => if (S ^^^ 2 ^ i).testBit k = true then some (Gd n (adB g cel) (S ^^^ 2 ^ i) k + (if adB g cel k i = true then 0 else 1)) else none) (n + 1) k))), (5, .int (nI k))]) (fun _ => M1 (th, mtr, wh, ta, mfa, mo, sd, ac, mk) mq (MAs ma LE CT) me rdv) (t := n) (by have := FU_ge; omega) (fun k hk K => ?_) (fun K => ?_)
  · have e12 : 12 * nI (S ^^^ 2 ^ i) + nI k = nI (12 * (S ^^^ 2 ^ i) + k) := by rw [l12, pk_mul, nI_add]
    have hbk := hmb k
    rw [qX12_strokesTo_8_s, if_le (by omega) (by omega), if_neg (by omega), e12, if_neg (nI_in (by omega : 12 * (S ^^^ 2 ^ i) + k < 49152) (by omega)), nI_clamp (by omega), hLE k hk, mnf_s, nI_1]
    by_cases h5 : (S ^^^ 2 ^ i).testBit k = true
    · have hg := Gd_n (ad := adB g cel) hS2 h5
      rw [if_pos h5, if_pos h5, if_neg (nI_m2 (by omega)), if_neg (nI_in (by omega : k < 12) (by omega)), if_neg (nI_in (by omega : i < 12) (by omega)), nI_clamp (by omega), nI_clamp (by omega), hCT k hk, hCT i hi, qX12_strokesTo_52_s (h := m_isBeside H G h1 h2 (hc k hk).1 (hc i hi).1), if_b2i]
      dsimp only
      have fin : ∀ x, x ≤ n + 1 → BX12_strokesTo_61 K [(0, .ref 0), (1, .int (nI (S ^^^ 2 ^ i))), (2, .int (nI i)), (3, .int (nI n)), (4, .int (nI (mnf (fun k => if (S ^^^ 2 ^ i).testBit k = true then some (Gd n (adB g cel) (S ^^^ 2 ^ i) k + (if adB g cel k i = true then 0 else 1)) else none) (n + 1) k))), (5, .int (nI k)), (6, .int (nI x))] [] (M1 (th, mtr, wh, ta, mfa, mo, sd, ac, mk) mq (MAs ma LE CT) me rdv) = K [(0, .ref 0), (1, .int (nI (S ^^^ 2 ^ i))), (2, .int (nI i)), (3, .int (nI n)), (4, .int (nI (if mnf (fun k => if (S ^^^ 2 ^ i).testBit k = true then some (Gd n (adB g cel) (S ^^^ 2 ^ i) k + (if adB g cel k i = true then 0 else 1)) else none) (n + 1) k ≤ x then mnf (fun k => if (S ^^^ 2 ^ i).testBit k = true then some (Gd n (adB g cel) (S ^^^ 2 ^ i) k + (if adB g cel k i = true then 0 else 1)) else none) (n + 1) k else x))), (5, .int (nI (k + 1)))] [] (M1 (th, mtr, wh, ta, mfa, mo, sd, ac, mk) mq (MAs ma LE CT) me rdv) := fun x hx => by
        rw [qX12_strokesTo_61_s, if_le (by omega) (by omega), nI_1]
        by_cases h6 : mnf (fun k => if (S ^^^ 2 ^ i).testBit k = true then some (Gd n (adB g cel) (S ^^^ 2 ^ i) k + (if adB g cel k i = true then 0 else 1)) else none) (n + 1) k ≤ x
        · rw [if_pos h6, if_pos h6]
        · rw [if_neg h6, if_neg h6]
      by_cases h6 : adB g cel k i = true
      · rw [if_pos h6, if_pos h6]
        exact fin _ (by omega)
      · rw [if_neg h6, if_neg h6, nI_1]
        exact fin _ (by omega)
    · rw [if_neg h5, if_neg h5, if_pos rfl]
  · rw [qX12_strokesTo_8_s, if_le (by omega) (by omega), if_pos (by omega)]
theorem m_strokesNow (H : WH w h) (G : GrOK g w h) (h1 : me.1.1 = nI w) (h2 : me.1.2.1 = nI h) (hn12 : n ≤ 12) (htd : me.2.1.2.1 &&& (mo ^^^ (-1)) = td) (hsub : Sub td (w * h)) (hpc : pcn td = n) (hc : CelOK td (w * h) n cel) {f : Nat} (hf0 : n = 0 → f = 0) (hf : n ≠ 0 → (∀ j, j < n → f ≤ Gd n (adB g cel) (2 ^ n - 1) j) ∧ ∃ j, j < n ∧ Gd n (adB g cel) (2 ^ n - 1) j = f) : ∃ LE' CT', EX12_strokesNow [.ref 0] (M1 (th, mtr, wh, ta, mfa, mo, sd, ac, mk) mq (MAs ma LE CT) me rdv) = some (nI f, M1 (th, mtr, wh, ta, mfa, mo, sd, ac, mk) mq (MAs ma LE' CT') me rdv) := by
  have hn := H.n
  have hp12 : 2 ^ n ≤ 2 ^ 12 := Nat.pow_le_pow_right (by omega) hn12
  have h4096 : (2 : Nat) ^ 12 = 4096 := by decide
  have hp1 : 1 ≤ 2 ^ n := Nat.one_le_two_pow
  -- the cells
  have hctn : ∀ c, c ≤ w * h → fb_ct (tb td) c ≤ n := fun c hcw => by
    have := fb_ct_mono (tb td) (m := c) (n := 64) (by omega)
    show _ ≤ n
    rw [← hpc]
    exact this
  have hfull : fb_ct (tb td) (w * h) = n := by
    rw [← hpc]
    exact (ct_cut (fun k hk => hsub k hk) (by omega)).symm
  rw [eX12_strokesNow_s_s, qX12_strokesNow_0_s]
  have L1 := lp_inv (B := BX12_strokesNow_4) (fun c lv hp => ∃ CT', c ≤ w * h ∧ (∀ k, k < fb_ct (tb td) c → CT' k = nI (cel k)) ∧ lv = [(0, .ref 0), (1, .int (nI (fb_ct (tb td) c))), (2, .int (nI c))] ∧ hp = M1 (th, mtr, wh, ta, mfa, mo, sd, ac, mk) mq (MAs ma LE CT') me rdv) (Q := fun r => ∃ CT', (∀ k, k < n → CT' k = nI (cel k)) ∧ r = (if n = 0 then some (0, M1 (th, mtr, wh, ta, mfa, mo, sd, ac, mk) mq (MAs ma LE CT') me rdv) else lp BX12_strokesNow_55 FU [(0, .ref 0), (1, .int (nI n)), (2, .int (nI n)), (3, .int 1)] [] (M1 (th, mtr, wh, ta, mfa, mo, sd, ac, mk) mq (MAs ma LE CT') me rdv))) (t := w * h) (N := FU) (by have := FU_ge; omega) (fun c lv hp hcw hI => ?_) (fun lv hp hI => ?_) (lv := [(0, .ref 0), (1, .int 0), (2, .int 0)]) (hp := M1 (th, mtr, wh, ta, mfa, mo, sd, ac, mk) mq (MAs ma LE CT) me rdv) ⟨CT, Nat.zero_le _, fun k hk => absurd hk (Nat.not_lt_zero k), rfl, rfl⟩
  · obtain ⟨r, ⟨CT', hCT, hr⟩, e⟩ := L1
    rw [e, hr]
    by_cases h0 : n = 0
    · rw [if_pos h0, hf0 h0]
      exact ⟨LE, CT', rfl⟩
    · rw [if_neg h0]
      obtain ⟨hf1, jf, hjf, hjf2⟩ := hf h0
      have hfb : ∀ j, j < n → (2 ^ n - 1).testBit j = true := fun j hj => by
        rw [Nat.testBit_two_pow_sub_one]; exact decide_eq_true hj
      have L2 := lp_inv (B := BX12_strokesNow_55) (fun s lv hp => ∃ LE' best, s + 1 ≤ 2 ^ n ∧ LEk n (adB g cel) (s + 1) 0 LE' ∧ (s + 1 < 2 ^ n → best = n) ∧ (s + 1 = 2 ^ n → best = f) ∧ lv = [(0, .ref 0), (1, .int (nI n)), (2, .int (nI best)), (3, .int (nI (s + 1)))] ∧ hp = M1 (th, mtr, wh, ta, mfa, mo, sd, ac, mk) mq (MAs ma LE' CT') me rdv) (Q := fun r => ∃ LE', r = some (nI f, M1 (th, mtr, wh, ta, mfa, mo, sd, ac, mk) mq (MAs ma LE' CT') me rdv)) (t := 2 ^ n - 1) (N := FU) (by have := FU_ge; omega) (fun s lv hp hs hI => ?_) (fun lv hp hI => ?_) (lv := [(0, .ref 0), (1, .int (nI n)), (2, .int (nI n)), (3, .int 1)]) (hp := M1 (th, mtr, wh, ta, mfa, mo, sd, ac, mk) mq (MAs ma LE CT') me rdv) ⟨LE, n, by omega, fun U j a1 a2 a3 a4 => by omega, fun _ => rfl, fun h5 => ?_, rfl, rfl⟩
      · obtain ⟨r2, ⟨LE', hr2⟩, e2⟩ := L2
        exact ⟨LE', CT', e2.trans hr2⟩
      · obtain ⟨LE1, best, b1, b2, b3, b4, rfl, rfl⟩ := hI
        have hb3 := b3 (by omega)
        subst hb3
        clear b4
        -- one set
        have hin : ∀ i, i < best → 12 * (s + 1) + i < 49152 := fun i hi => by omega
        have L3 := lp_inv2 (α := KT (Int32 × HP)) (B := fun K => BX12_strokesNow_65 K) (fun i lv hp => ∃ LE' bs, i ≤ best ∧ LEk best (adB g cel) (s + 1) i LE' ∧ (s + 1 < 2 ^ best - 1 → bs = best) ∧ (s + 1 = 2 ^ best - 1 → bs ≤ best ∧ (∀ j, j < i → bs ≤ Gd best (adB g cel) (2 ^ best - 1) j) ∧ (bs = best ∨ ∃ j, j < i ∧ Gd best (adB g cel) (2 ^ best - 1) j = bs)) ∧ lv = [(0, .ref 0), (1, .int (nI best)), (2, .int (nI bs)), (3, .int (nI (s + 1))), (4, .int (nI i))] ∧ hp = M1 (th, mtr, wh, ta, mfa, mo, sd, ac, mk) mq (MAs ma LE' CT') me rdv) (Q := fun r => ∃ LE' bs, LEk best (adB g cel) (s + 2) 0 LE' ∧ (s + 2 < 2 ^ best → bs = best) ∧ (s + 2 = 2 ^ best → bs = f) ∧ r = fun K => K [(0, .ref 0), (1, .int (nI best)), (2, .int (nI bs)), (3, .int (nI (s + 2)))] [] (M1 (th, mtr, wh, ta, mfa, mo, sd, ac, mk) mq (MAs ma LE' CT') me rdv)) (t := best) (N := FU) (by have := FU_ge; omega) (fun i lv hp hib hI => ?_) (fun lv hp hI => ?_) (lv := [(0, .ref 0), (1, .int (nI best)), (2, .int (nI best)), (3, .int (nI (s + 1))), (4, .int 0)]) (hp := M1 (th, mtr, wh, ta, mfa, mo, sd, ac, mk) mq (MAs ma LE1 CT') me rdv) ⟨LE1, best, Nat.zero_le _, b2, fun _ => rfl, fun _ => ⟨Nat.le_refl _, fun j hj => absurd hj (Nat.not_lt_zero j), Or.inl rfl⟩, rfl, rfl⟩
        · obtain ⟨r3, ⟨LE2, bs, c1, c2, c3, rfl⟩, e3⟩ := L3
          refine Or.inl ⟨_, _, ⟨LE2, bs, by omega, c1, c2, c3, rfl, rfl⟩, fun k => ?_⟩
          rw [qX12_strokesNow_55_s, sh13 best (by omega), if_le (by omega) (by omega), if_neg (by omega)]
          exact e3 k
        · obtain ⟨LE2, bs, c0, c1, c2, c3, rfl, rfl⟩ := hI
          have hbs : bs ≤ best := by
            rcases Nat.lt_or_ge (s + 1) (2 ^ best - 1) with h5 | h5
            · rw [c2 h5]; exact Nat.le_refl _
            · exact (c3 (by omega)).1
          have hSb : s + 1 < 2 ^ best := by omega
          have e12 : 12 * nI (s + 1) + nI i = nI (12 * (s + 1) + i) := by rw [l12, pk_mul, nI_add]
          have hinx := nI_in (hin i hib) (by omega)
          have efull : nI (2 ^ best) - 1 = nI (2 ^ best - 1) := pk_sub (b := 1) hp1
          -- the table grows
          have hgrow : ∀ v, v = (if (s + 1).testBit i = true then nI (Gd best (adB g cel) (s + 1) i) else -2) → LEk best (adB g cel) (s + 1) (i + 1) (upd LE2 (12 * (s + 1) + i) v) := fun v hv U j a1 a2 a3 a4 => by
            by_cases e : U = s + 1 ∧ j = i
            · obtain ⟨rfl, rfl⟩ := e
              rw [pk_us]
              exact hv
            · rw [pk_un (by omega)]
              exact c1 U j a1 a2 a3 (by omega)
          have h65 : ∀ K k, BX12_strokesNow_65 K k [(0, .ref 0), (1, .int (nI best)), (2, .int (nI bs)), (3, .int (nI (s + 1))), (4, .int (nI i))] [] (M1 (th, mtr, wh, ta, mfa, mo, sd, ac, mk) mq (MAs ma LE2 CT') me rdv) = BX12_strokesNow_114 K k [(0, .ref 0), (1, .int (nI best)), (2, .int (nI bs)), (3, .int (nI (s + 1))), (4, .int (nI i)), (5, .int (if (s + 1).testBit i = true then nI (Gd best (adB g cel) (s + 1) i) else -2))] [] (M1 (th, mtr, wh, ta, mfa, mo, sd, ac, mk) mq (MAs ma LE2 CT') me rdv) := fun K k => by
            rw [qX12_strokesNow_65_s, if_le (by omega) (by omega), if_neg (by omega)]
            by_cases h5 : (s + 1).testBit i = true
            · rw [if_pos ((nI_has (by omega) (by omega)).mpr h5), if_pos h5, sh13 i (by omega), if_eq (by omega) (by have := Nat.pow_lt_pow_right (a := 2) (by omega) hib; omega)]
              by_cases h6 : s + 1 = 2 ^ i
              · rw [if_pos h6, qX12_strokesNow_112_s, Gd_eq h5, if_pos h6]
                rfl
              · rw [if_neg h6, ← sh13 i (by omega), nI_drop h5 (by omega), qX12_strokesNow_109_s (h := m_strokesTo H G h1 h2 hn12 hc hCT hSb hib h5 h6 c1), qX12_strokesNow_112_s]
            · rw [if_neg (fun e => h5 ((nI_has (by omega) (by omega)).mp e)), if_neg h5]
          by_cases hful : s + 1 = 2 ^ best - 1
          · obtain ⟨d1, d2, d3⟩ := c3 hful
            have hbt : (s + 1).testBit i = true := by rw [hful]; exact hfb i hib
            have hgn := Gd_n (ad := adB g cel) hSb hbt
            by_cases h6 : bs ≤ Gd best (adB g cel) (s + 1) i
            · refine Or.inl ⟨_, _, ⟨_, bs, by omega, hgrow _ rfl, fun h7 => by omega, fun _ => ⟨hbs, fun j hj => ?_, ?_⟩, rfl, rfl⟩, fun K k => ?_⟩
              · by_cases e : j = i
                · rw [e, ← hful]; exact h6
                · exact d2 j (by omega)
              · rcases d3 with h7 | ⟨j, h7, h8⟩
                · exact Or.inl h7
                · exact Or.inr ⟨j, by omega, h8⟩
              · rw [h65, qX12_strokesNow_114_s, e12, if_neg hinx, nI_clamp (by have := hin i hib; omega), sh13 best (by omega), efull, if_pos (by rw [hful]), if_pos hbt, if_le (by omega) (by omega), if_pos h6, nI_1]
            · refine Or.inl ⟨_, _, ⟨_, Gd best (adB g cel) (s + 1) i, by omega, hgrow _ rfl, fun h7 => by omega, fun _ => ⟨by omega, fun j hj => ?_, ?_⟩, rfl, rfl⟩, fun K k => ?_⟩
              · by_cases e : j = i
                · rw [e, ← hful]; exact Nat.le_refl _
                · have := d2 j (by omega); omega
              · exact Or.inr ⟨i, by omega, by rw [← hful]⟩
              · rw [h65, qX12_strokesNow_114_s, e12, if_neg hinx, nI_clamp (by have := hin i hib; omega), sh13 best (by omega), efull, if_pos (by rw [hful]), if_pos hbt, if_le (by omega) (by omega), if_neg h6, nI_1]
          · refine Or.inl ⟨_, _, ⟨_, bs, by omega, hgrow _ rfl, c2, fun h7 => absurd h7 hful, rfl, rfl⟩, fun K k => ?_⟩
            rw [h65, qX12_strokesNow_114_s, e12, if_neg hinx, nI_clamp (by have := hin i hib; omega), sh13 best (by omega), efull, if_eq (by omega) (by omega), if_neg hful, nI_1]
        · obtain ⟨LE2, bs, c0, c1, c2, c3, rfl, rfl⟩ := hI
          refine ⟨_, ⟨LE2, bs, fun U j a1 a2 a3 a4 => c1 U j a1 a2 a3 (by omega), fun h5 => c2 (by omega), fun h5 => ?_, rfl⟩, fun K k => ?_⟩
          · obtain ⟨d1, d2, d3⟩ := c3 (by omega)
            have e1 := d2 jf hjf
            rw [hjf2] at e1
            have hgn := Gd_n (ad := adB g cel) (show 2 ^ best - 1 < 2 ^ best from Nat.sub_lt (Nat.lt_of_lt_of_le Nat.zero_lt_one hp1) Nat.zero_lt_one) (hfb jf hjf)
            rw [hjf2] at hgn
            rcases d3 with h7 | ⟨j, h7, h8⟩
            · omega
            · have := hf1 j h7; omega
          · rw [qX12_strokesNow_65_s, if_le (by omega) (by omega), if_pos (by omega), nI_1]
      · obtain ⟨LE1, best, b1, b2, b3, b4, rfl, rfl⟩ := hI
        have hbf := b4 (by omega)
        subst hbf
        refine ⟨_, ⟨LE1, rfl⟩, fun k => ?_⟩
        rw [qX12_strokesNow_55_s, sh13 n (by omega), if_le (by omega) (by omega), if_pos (show 2 ^ n ≤ 2 ^ n - 1 + 1 from Nat.le_of_eq (Nat.sub_add_cancel hp1).symm)]
      · have hpn : 2 ≤ 2 ^ n := by
          have := Nat.pow_le_pow_right (n := 2) (by omega) (show 1 ≤ n by omega)
          simpa using this
        omega
  · obtain ⟨CT1, _, hCT1, rfl, rfl⟩ := hI
    have hle := hctn (c + 1) (by omega)
    by_cases h5 : tb td c = true
    · have hs : fb_ct (tb td) (c + 1) = fb_ct (tb td) c + 1 := by rw [fb_ct_succ, if_pos h5]
      have hlt : fb_ct (tb td) c < n := by omega
      refine Or.inl ⟨_, _, ⟨upd CT1 (fb_ct (tb td) c) (nI c), by omega, fun k hk => ?_, rfl, rfl⟩, fun K => ?_⟩
      · rw [hs] at hk
        by_cases e : k = fb_ct (tb td) c
        · rw [e, pk_us]
          obtain ⟨_, h7, h8⟩ := hc _ hlt
          exact congrArg nI (fb_ct_kth_one h5 h7 h8.symm)
        · rw [pk_un e]
          exact hCT1 k (by omega)
      · rw [qX12_strokesNow_4_s, h1, h2, pk_mul, if_le (by omega) (by omega), if_neg (by omega), htd, qX12_strokesNow_20_s (h := e_has _ _ (by omega)), if_b2i, if_pos h5, if_neg (nI_in (by omega : fb_ct (tb td) c < 12) (by omega)), nI_clamp (by omega), nI_1, nI_1, hs]
    · have hs : fb_ct (tb td) (c + 1) = fb_ct (tb td) c := by rw [fb_ct_succ, if_neg h5]; rfl
      refine Or.inl ⟨_, _, ⟨CT1, by omega, fun k hk => hCT1 k (by rw [hs] at hk; exact hk), rfl, rfl⟩, fun K => ?_⟩
      rw [qX12_strokesNow_4_s, h1, h2, pk_mul, if_le (by omega) (by omega), if_neg (by omega), htd, qX12_strokesNow_20_s (h := e_has _ _ (by omega)), if_b2i, if_neg h5, nI_1, hs]
  · obtain ⟨CT1, _, hCT1, rfl, rfl⟩ := hI
    rw [hfull] at hCT1
    refine ⟨_, ⟨CT1, hCT1, rfl⟩, fun K => ?_⟩
    rw [qX12_strokesNow_4_s, h1, h2, pk_mul, if_le (by omega) (by omega), if_pos (by omega), hfull]
    by_cases h0 : n = 0
    · rw [if_pos h0, if_pos (by rw [h0]; rfl)]
    · rw [if_neg h0, if_neg (nI_ne0 (by omega) (by omega))]
end
theorem op_strokes : Step Inv EX10_strokes fIH EX12_strokes fIH [] := by
  refine step_q (fun cl se tr fa fp tp tk rd hi sc pl dr wa wb rc th wh ta mo sd mq ma rdv _ _ => ⟨1, by decide, rfl, rfl⟩) (fun cl se tr fa fp tp tk rd hi sc pl dr wa wb rc th wh ta ac mk mq ma me rdv _ I => ?_)
  obtain ⟨T, S, w, h, du, pa, sh, gc, hq, wc, ⟨H, G, N, P, GA, NO, HE, WK⟩, C, HI⟩ := id I
  have hn := H.n
  have hsub : Sub (pl.2.1.2.1.1 &&& (cl ^^^ (-1))) (w * h) := Sub_andl P.2.2.2.2.1
  have htd : me.2.1.2.1 &&& (cl ^^^ (-1)) = pl.2.1.2.1.1 &&& (cl ^^^ (-1)) := by rw [← P.1]
  have hp64 := pcn_le (pl.2.1.2.1.1 &&& (cl ^^^ (-1)))
  obtain ⟨cel, hcel⟩ := cel_ex hsub
  by_cases h12 : pcn (pl.2.1.2.1.1 &&& (cl ^^^ (-1))) ≤ 12
  · obtain ⟨⟨be, fe, la⟩⟩ : Nonempty ((Nat → Int32) × (Nat → Int32) × (Nat → Int32)) := ⟨sc⟩
    obtain ⟨be', fe', la', f, f1, f2, e1⟩ := c_strokes (mz := (1, cl, se, tr, fa, fp)) (tp := tp) (tk := tk) (rd := rd) (hi := hi) (be := sc.1) (fe := sc.2.1) (la := sc.2.2) (pl := pl) (dr := dr) (wa := wa) (wb := wb) (rc := rc) hn.1 h12 rfl hcel
    obtain ⟨LE', CT', e2⟩ := m_strokesNow (th := 0) (mtr := tr) (wh := wh) (ta := ta) (mfa := fa) (mo := cl) (sd := se) (ac := ac) (mk := mk) (mq := mq) (ma := ma) (rdv := rdv) (LE := ma.2.2.2.2.2.2.2.2.2.1) (CT := ma.2.2.2.2.2.2.2.2.2.2.1) H G N.1.1 N.1.2 h12 htd hsub rfl hcel f1 f2
    refine ⟨nI f, 0, (be', fe', la'), wa, wb, rc, mq, MAs ma LE' CT', by decide, ⟨rfl, rfl, rfl, rfl, rfl⟩, ?_, ?_⟩
    · rw [eX10_strokes_s_1, qX10_strokes_0_1, bcnt_eq, l12, if_le (by omega) (by omega), if_pos h12]
      exact qX10_strokes_47_1 (h := e1) ..
    · have e3 : EX12_strokes [.ref 0] (M1 (th, tr, wh, ta, fa, cl, se, ac, mk) mq (MAs ma ma.2.2.2.2.2.2.2.2.2.1 ma.2.2.2.2.2.2.2.2.2.2.1) me rdv) = some (nI f, M1 (0, 0, -1, ta, fa, cl, se, ac, mk) mq (MAs ma LE' CT') me rdv) := by
        rw [eX12_strokes_s_s, qX12_strokes_0_s, htd, qX12_strokes_22_s (h := e_bits _ _), l12, if_le (by omega) (by omega), if_pos h12, qX12_strokes_40_s (h := e2)]
      exact e3
  · refine ⟨-1, 3, sc, wa, wb, rc, mq, ma, by decide, KeepMa.rf _, ?_, ?_⟩
    · rw [eX10_strokes_s_1, qX10_strokes_0_1, bcnt_eq, l12, if_le (by omega) (by omega), if_neg h12]
    · have e3 : EX12_strokes [.ref 0] (M1 (th, tr, wh, ta, fa, cl, se, ac, mk) mq (MAs ma ma.2.2.2.2.2.2.2.2.2.1 ma.2.2.2.2.2.2.2.2.2.2.1) me rdv) = some (-1, M1 (0, 3, -1, ta, fa, cl, se, ac, mk) mq (MAs ma ma.2.2.2.2.2.2.2.2.2.1 ma.2.2.2.2.2.2.2.2.2.2.1) me rdv) := by
        rw [eX12_strokes_s_s, qX12_strokes_0_s, htd, qX12_strokes_22_s (h := e_bits _ _), l12, if_le (by omega) (by omega), if_neg h12]
      exact e3
