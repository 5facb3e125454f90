/-! Rings: who goes on for long goes round. -/
abbrev kyp (p : PS) : Nat := 4 * p.1 + p.2.1
theorem stT_det {w h : Nat} {m : Int64} {kd : Nat} {p q : PS} (h1 : p.1 = q.1) (h2 : p.2.1 = q.2.1) : (stT w h m kd p).1 = (stT w h m kd q).1 ∧ (stT w h m kd p).2.1 = (stT w h m kd q).2.1 := by
  unfold stT
  rw [h1, h2]
  rcases fs4_ok (fun i => mto w h m q.1 (sdT kd q.2.1 i)) with ⟨e, _⟩ | ⟨i, d, e, _⟩
  · rw [e]; exact ⟨h1, h2⟩
  · rw [e]; exact ⟨rfl, rfl⟩
section
variable {ky : Nat → Nat} {t i : Nat}
theorem per_1 (hd : ∀ a b, ky a = ky b → ky (a + 1) = ky (b + 1)) (hit : i < t) (e : ky i = ky t) (d : Nat) : ky (i + d + (t - i)) = ky (i + d) := by
  induction d with
  | zero => rw [Nat.add_zero, show i + (t - i) = t by omega]; exact e.symm
  | succ d ih =>
    have := hd _ _ ih
    rw [show i + (d + 1) + (t - i) = i + d + (t - i) + 1 by omega, show i + (d + 1) = i + d + 1 by omega]
    exact this
theorem per_k (hd : ∀ a b, ky a = ky b → ky (a + 1) = ky (b + 1)) (hit : i < t) (e : ky i = ky t) (d k : Nat) : ky (i + d + k * (t - i)) = ky (i + d) := by
  induction k with
  | zero => rw [Nat.zero_mul, Nat.add_zero]
  | succ k ih =>
    rw [Nat.succ_mul, show i + d + (k * (t - i) + (t - i)) = i + (d + k * (t - i)) + (t - i) by omega, per_1 hd hit e, show i + (d + k * (t - i)) = i + d + k * (t - i) by omega]
    exact ih
theorem per_mod (hd : ∀ a b, ky a = ky b → ky (a + 1) = ky (b + 1)) (hit : i < t) (e : ky i = ky t) (d : Nat) : ky (i + d) = ky (i + d % (t - i)) := by
  have h1 := Nat.mod_add_div d (t - i)
  have h2 := per_k hd hit e (d % (t - i)) (d / (t - i))
  rw [← h2]
  congr 1
  rw [Nat.mul_comm] at h1
  omega
theorem per_first (hd : ∀ a b, ky a = ky b → ky (a + 1) = ky (b + 1)) (hit : i < t) (e : ky i = ky t) (hf : ∀ a b, a < b → b < t → ky a ≠ ky b) {s : Nat} (hs : i ≤ s) : ky (s + (t - i)) = ky s ∧ ∀ q, 0 < q → q < t - i → ky (s + q) ≠ ky s := by
  obtain ⟨d, rfl⟩ : ∃ d, s = i + d := ⟨s - i, by omega⟩
  refine ⟨per_1 hd hit e d, fun q h0 hq h5 => ?_⟩
  rw [show i + d + q = i + (d + q) by omega, per_mod hd hit e (d + q), per_mod hd hit e d] at h5
  have hp : 0 < t - i := by omega
  have m1 := Nat.mod_lt (d + q) hp
  have m2 := Nat.mod_lt d hp
  have hne : (d + q) % (t - i) ≠ d % (t - i) := by
    intro h6
    have a1 := Nat.mod_add_div (d + q) (t - i)
    have a2 := Nat.mod_add_div d (t - i)
    rw [h6] at a1
    have a3 : (t - i) * ((d + q) / (t - i)) = (t - i) * (d / (t - i)) + q := by omega
    rcases Nat.lt_trichotomy ((d + q) / (t - i)) (d / (t - i)) with h7 | h7 | h7
    · have := Nat.mul_le_mul_left (t - i) (Nat.le_of_lt h7); omega
    · rw [h7] at a3; omega
    · have := Nat.mul_le_mul_left (t - i) (show d / (t - i) + 1 ≤ (d + q) / (t - i) from h7)
      rw [Nat.mul_add, Nat.mul_one] at this
      omega
  rcases Nat.lt_or_gt_of_ne hne with h7 | h7
  · exact hf _ _ (show i + (d + q) % (t - i) < i + d % (t - i) by omega) (by omega) h5
  · exact hf _ _ (show i + d % (t - i) < i + (d + q) % (t - i) by omega) (by omega) h5.symm
/-- the first that comes again -/
theorem rep_first (hb : ∀ a, ky a < 192) : ∃ t i, i < t ∧ t ≤ 192 ∧ ky i = ky t ∧ ∀ a b, a < b → b < t → ky a ≠ ky b := by
  obtain ⟨a, b, h1, h2, h3⟩ := fb_twice (m := 192) (n := 193) (f := ky) (fun i _ => hb i) (by omega)
  have hdec : DecidablePred (fun b => ∃ a, a < b ∧ ky a = ky b) := fun z => Classical.propDecidable _
  obtain ⟨t, ht, ⟨i, hi, e⟩, hno⟩ := fb_first (p := fun b => ∃ a, a < b ∧ ky a = ky b) (n := 193) ⟨b, h2, a, h1, h3⟩
  exact ⟨t, i, hi, by omega, e, fun a b hab hbt e2 => hno b hbt ⟨a, hab, e2⟩⟩
end
section
variable {w h : Nat} {g : GrS} {m : Int64} {no : Int32} {kd : Nat} {p : PS}
theorem tra_stay {i0 : Nat} (e : tra w h g m no kd p (i0 + 1) = tra w h g m no kd p i0) : ∀ i, i0 ≤ i → tra w h g m no kd p i = tra w h g m no kd p i0 := by
  intro i hi
  obtain ⟨d, rfl⟩ : ∃ d, i = i0 + d := ⟨i - i0, by omega⟩
  clear hi
  induction d with
  | zero => rfl
  | succ d ih => rw [show i0 + (d + 1) = i0 + d + 1 by omega, tra_s, ih, ← tra_s]; exact e
theorem pcn_orb {b : Int64} {d : Nat} (hd : d < 64) (hb : tb b d = false) : pcn (b ||| bitL (nI d)) = pcn b + 1 := by
  have e1 : pcn (b ||| bitL (nI d)) = fb_ct (fun k => if k = d then true else tb b k) 64 := fb_ct_cong (fun k _ => by
    rw [tb_orb b hd]
    by_cases e : k = d
    · rw [if_pos e, e]; simp
    · rw [if_neg e]; simp [e])
  have e2 := fb_ct_upd (tb b) true (i := d) (n := 64) hd
  rw [hb] at e2
  rw [e1]
  show _ = fb_ct (tb b) 64 + 1
  simpa using e2
theorem pcn_sub48 {b : Int64} (hb : Sub b 48) : pcn b ≤ 48 := by
  have : pcn b = fb_ct (tb b) 48 := by
    show fb_ct (tb b) (48 + 16) = _
    rw [fb_ct_split]
    have : fb_ct (fun k => tb b (48 + k)) 16 = 0 := fb_ct_zero.mpr (fun k _ => by
      cases h2 : tb b (48 + k)
      · rfl
      · have := hb _ h2; omega)
    omega
  rw [this]
  exact fb_ct_le _ 48
/-- who goes nowhere twice comes to rest -/
theorem once_rest {c f v : Nat} (H : WH w h) (P : PSOK (w * h) c (ps0 c f v)) (i : Nat) (hi : 95 ≤ i) : tra w h g m no 2 (ps0 c f v) (i + 1) = tra w h g m no 2 (ps0 c f v) i := by
  have hn := H.n
  have key : ∀ i, (∃ i0, i0 < i ∧ tra w h g m no 2 (ps0 c f v) (i0 + 1) = tra w h g m no 2 (ps0 c f v) i0) ∨ ∃ D : Nat → Nat, D c = 0 ∧ (∀ k, tb (tra w h g m no 2 (ps0 c f v) i).2.2.2.1 k = true → k ≠ c → D k = D ((tra w h g m no 2 (ps0 c f v) i).2.2.2.2 k) + 1) ∧ i + 2 + D (tra w h g m no 2 (ps0 c f v) i).1 = 2 * pcn (tra w h g m no 2 (ps0 c f v) i).2.2.2.1 := by
    intro i
    induction i with
    | zero =>
      refine Or.inr ⟨fun _ => 0, rfl, fun k hk hkc => ?_, ?_⟩
      · have hk : tb (0 ||| bitL (nI c)) k = true := hk
        have hc := P.1
        have hc : c < w * h := hc
        rw [tb_0b (by omega)] at hk
        exact absurd (of_decide_eq_true hk) hkc
      · show 0 + 2 + 0 = 2 * pcn (0 ||| bitL (nI c))
        have hc := P.1
        have hc : c < w * h := hc
        rw [pcn_orb (by omega) (tb_0 c), pcn_0]
    | succ i ih =>
      rcases ih with ⟨i0, h1, h2⟩ | ⟨D, d1, d2, d3⟩
      · exact Or.inl ⟨i0, by omega, h2⟩
      · have Pi := tra_ok (g := g) (m := m) (no := no) (kd := 2) H P i
        have es : tra w h g m no 2 (ps0 c f v) (i + 1) = stO w h m (tra w h g m no 2 (ps0 c f v) i) := rfl
        have estay : stO w h m (tra w h g m no 2 (ps0 c f v) i) = tra w h g m no 2 (ps0 c f v) i → ∃ i0, i0 < i + 1 ∧ tra w h g m no 2 (ps0 c f v) (i0 + 1) = tra w h g m no 2 (ps0 c f v) i0 := fun e => ⟨i, by omega, es.trans e⟩
        rw [es]
        generalize tra w h g m no 2 (ps0 c f v) i = q at *
        obtain ⟨qc, qf, qv, qb, qo⟩ := q
        obtain ⟨p1, p2, p3, p4, p5, p6, p7, p8⟩ := Pi
        dsimp only at p1 p2 p3 p4 p5 p6 p7 p8 d2 d3
        unfold stO at estay ⊢
        rcases fs4_ok (frs w h m (qc, qf, qv, qb, qo)) with ⟨e, _⟩ | ⟨s, d, e, hs, hd, _⟩
        · rw [e] at estay ⊢
          dsimp only at estay ⊢
          by_cases h5 : tb m (qo qc) = true
          · rw [if_pos h5] at estay ⊢
            by_cases hqc : qc = c
            · left
              refine estay ?_
              have : qo qc = qc := by rw [hqc]; exact p8
              rw [this]
              exact ent_self (p := (qc, qf, qv, qb, qo)) hn.1 ⟨p1, p2, p3, p4, p5, p6, p7, p8⟩
            · right
              have hob := p7 qc p5
              have hD := d2 qc p5 hqc
              refine ⟨D, d1, fun k hk hkc => ?_, ?_⟩
              · have hk : tb (qb ||| bitL (nI (qo qc))) k = true := hk
                have hon := p4 _ hob
                rw [tb_orb _ (by omega)] at hk
                show D k = D (if k = qo qc ∧ tb qb (qo qc) = false then qc else qo k) + 1
                rw [if_neg (fun e5 => by rw [hob] at e5; exact absurd e5.2 (by decide))]
                refine d2 k ?_ hkc
                by_cases e6 : k = qo qc
                · rw [e6]; exact hob
                · simpa [e6] using hk
              · show i + 1 + 2 + D (qo qc) = 2 * pcn (qb ||| bitL (nI (qo qc)))
                have hon := p4 _ hob
                have eb : qb ||| bitL (nI (qo qc)) = qb := tb_ext (fun k _ => by
                  rw [tb_orb _ (by omega)]
                  by_cases e6 : k = qo qc
                  · rw [e6, hob]; rfl
                  · simp [e6])
                rw [eb]
                omega
          · rw [if_neg h5] at estay ⊢
            exact Or.inl (estay rfl)
        · rw [e]
          right
          obtain ⟨hm, hb⟩ := frs_some hd
          have hb : tb qb d = false := hb
          have hdn := mto_lt H p1 hs hm
          refine ⟨fun k => if k = d then D qc + 1 else D k, ?_, fun k hk hkc => ?_, ?_⟩
          · show (if c = d then D qc + 1 else D c) = 0
            rw [if_neg]
            · exact d1
            · rintro rfl
              rw [p6] at hb; cases hb
          · have hk : tb (qb ||| bitL (nI d)) k = true := hk
            rw [tb_orb _ (by omega)] at hk
            show (if k = d then D qc + 1 else D k) = (if (if k = d ∧ tb qb d = false then qc else qo k) = d then D qc + 1 else D (if k = d ∧ tb qb d = false then qc else qo k)) + 1
            have hcd : qc ≠ d := by
              rintro rfl
              rw [p5] at hb; cases hb
            by_cases e6 : k = d
            · rw [if_pos e6, if_pos (show k = d ∧ tb qb d = false from ⟨e6, hb⟩), if_neg hcd]
            · rw [if_neg e6, if_neg (fun e7 : k = d ∧ _ => e6 e7.1)]
              have hkb : tb qb k = true := by simpa [e6] using hk
              have hok := p7 k hkb
              rw [if_neg]
              · exact d2 k hkb hkc
              · intro e7
                rw [e7, hb] at hok; cases hok
          · show i + 1 + 2 + (if d = d then D qc + 1 else D d) = 2 * pcn (qb ||| bitL (nI d))
            rw [if_pos rfl, pcn_orb (by omega) hb]
            omega
  have hex : ∃ i0, i0 < i ∧ tra w h g m no 2 (ps0 c f v) (i0 + 1) = tra w h g m no 2 (ps0 c f v) i0 := by
    rcases key i with h1 | ⟨D, _, _, d3⟩
    · exact h1
    · have Pi := tra_ok (g := g) (m := m) (no := no) (kd := 2) H P i
      have := pcn_sub48 (b := (tra w h g m no 2 (ps0 c f v) i).2.2.2.1) (fun k hk => by have := Pi.2.2.2.1 k hk; omega)
      omega
  obtain ⟨i0, h1, h2⟩ := hex
  rw [tra_stay h2 (i + 1) (by omega), tra_stay h2 i (by omega)]
theorem bst_le {tn : Nat → Int32} {c t : Nat} : ∀ {s d}, s < t → mto w h m c s = some d → tn d ≠ -2 → ∃ e, bst w h m tn c t = some e ∧ tn e ≤ tn d := by
  induction t with
  | zero => intro s d hs; omega
  | succ t ih =>
    intro s d hs hm hd
    rw [bst_s]
    by_cases e : s = t
    · subst e
      rw [hm]
      dsimp only
      rw [if_neg hd]
      cases hb : bst w h m tn c s with
      | none => exact ⟨d, rfl, Int32.le_refl _⟩
      | some y =>
        dsimp only
        by_cases hl : tn d < tn y
        · rw [if_pos hl]; exact ⟨d, rfl, Int32.le_refl _⟩
        · rw [if_neg hl]; exact ⟨y, rfl, Int32.not_lt.mp hl⟩
    · obtain ⟨e1, h1, h2⟩ := ih (by omega : s < t) hm hd
      cases hm2 : mto w h m c t with
      | none => exact ⟨e1, h1, h2⟩
      | some x =>
        dsimp only
        by_cases hx : tn x = -2
        · rw [if_pos hx]; exact ⟨e1, h1, h2⟩
        · rw [if_neg hx, h1]
          dsimp only
          by_cases hl : tn x < tn e1
          · rw [if_pos hl]; exact ⟨x, rfl, Int32.le_trans (Int32.le_of_lt hl) h2⟩
          · rw [if_neg hl]; exact ⟨e1, rfl, h2⟩
/-- who follows the noise comes to rest -/
theorem cow_rest {c f v : Nat} (H : WH w h) (G : GrOK g w h) (hm : Sub m (w * h)) (hno : no = -2 ∨ ∃ c, c < w * h ∧ no = nI c) (P : PSOK (w * h) c (ps0 c f v)) (i : Nat) (hi : 49 ≤ i) : tra w h g m no 3 (ps0 c f v) (i + 1) = tra w h g m no 3 (ps0 c f v) i := by
  have hn := H.n
  have key : ∀ i, (∃ i0, i0 < i ∧ tra w h g m no 3 (ps0 c f v) (i0 + 1) = tra w h g m no 3 (ps0 c f v) i0) ∨ i = 0 ∨ ∃ a, tnz g m no (tra w h g m no 3 (ps0 c f v) i).1 = nI a ∧ a + i ≤ 48 ∧ tb m (tra w h g m no 3 (ps0 c f v) i).1 = true := by
    intro i
    induction i with
    | zero => exact Or.inr (Or.inl rfl)
    | succ i ih =>
      have Pi := tra_ok (g := g) (m := m) (no := no) (kd := 3) H P i
      have es : tra w h g m no 3 (ps0 c f v) (i + 1) = stC w h m no (tnz g m no) (tra w h g m no 3 (ps0 c f v) i) := rfl
      have estay : stC w h m no (tnz g m no) (tra w h g m no 3 (ps0 c f v) i) = tra w h g m no 3 (ps0 c f v) i → ∃ i0, i0 < i + 1 ∧ tra w h g m no 3 (ps0 c f v) (i0 + 1) = tra w h g m no 3 (ps0 c f v) i0 := fun e => ⟨i, by omega, es.trans e⟩
      rcases ih with ⟨i0, h1, h2⟩ | ih
      · exact Or.inl ⟨i0, by omega, h2⟩
      · rw [es]
        generalize tra w h g m no 3 (ps0 c f v) i = q at *
        have hqn := Pi.1
        unfold stC at estay ⊢
        by_cases h0 : nI q.1 = no
        · rw [if_pos h0] at estay ⊢; exact Or.inl (estay rfl)
        · rw [if_neg h0] at estay ⊢
          cases hb : bst w h m (tnz g m no) q.1 4 with
          | none => rw [hb] at estay; exact Or.inl (estay rfl)
          | some e =>
            right
            right
            obtain ⟨⟨s, hs, hms⟩, hne⟩ := bst_some hb
            have hen := mto_lt H hqn hs hms
            have hem := (mto_some hms).2
            obtain ⟨a, ha, hea⟩ : ∃ a, a < 48 ∧ tnz g m no e = nI a := by
              rcases tnz_ok H G hm hno e (by omega) with h5 | h5
              · exact absurd h5 hne
              · exact h5
            refine ⟨a, hea, ?_, hem⟩
            rcases ih with rfl | ⟨b, hb1, hb2, hb3⟩
            · omega
            · -- the last cell had a neighbour nearer
              rcases hno with hno | ⟨nc, hnc, hno⟩
              · unfold tnz at hea
                rw [if_pos hno] at hea
                exact absurd hea.symm (nI_m2 (by omega))
              · have hd1 : dst g m (bitL no &&& m) q.1 = some b := by
                  unfold tnz at hb1
                  rw [if_neg (by rw [hno]; exact nI_m2 (by omega))] at hb1
                  cases hd : dst g m (bitL no &&& m) q.1 with
                  | none => rw [hd] at hb1; exact absurd hb1.symm (nI_m2 (by omega))
                  | some b2 =>
                    rw [hd] at hb1
                    have hb1 : nI b2 = nI b := hb1
                    have : b2 < 48 := by rw [hno] at hd; exact dst_lt H G hm bit_in hd
                    rw [nI_eq (by omega) (by omega)] at hb1
                    rw [hb1]
                rw [hno] at hd1
                have hF := (dst_some H G hm bit_in).mp hd1
                cases b with
                | zero =>
                  exfalso
                  have hF : tb (bitL (nI nc) &&& m) q.1 = true := hF
                  rw [tb_and, Bool.and_eq_true, tb_bit nc (by omega)] at hF
                  have := of_decide_eq_true hF.1
                  rw [this] at h0
                  exact h0 hno.symm
                | succ b =>
                  obtain ⟨⟨x, hx1, hx2⟩, _⟩ := (FR_succ H G hm bit_in b q.1).mp hF
                  obtain ⟨s2, hs2, hnb⟩ := adj_iff.mp hx1
                  have hxm := FR_in bit_in hx2
                  have hmt : mto w h m q.1 s2 = some x := by
                    unfold mto
                    rw [hnb, Option.bind_some, if_pos hxm]
                  have htx : tnz g m no x = nI b := by
                    unfold tnz
                    rw [if_neg (by rw [hno]; exact nI_m2 (by omega)), hno, (dst_some H G hm bit_in).mpr hx2]
                    rfl
                  obtain ⟨e2, h6, h7⟩ := bst_le (tn := tnz g m no) hs2 hmt (by rw [htx]; exact nI_m2 (by omega))
                  rw [hb] at h6
                  cases h6
                  rw [hea, htx, nI_leI (by omega) (by omega)] at h7
                  omega
  have hex : ∃ i0, i0 < i ∧ tra w h g m no 3 (ps0 c f v) (i0 + 1) = tra w h g m no 3 (ps0 c f v) i0 := by
    rcases key i with h1 | h1 | ⟨a, _, h2, _⟩
    · exact h1
    · omega
    · omega
  obtain ⟨i0, h1, h2⟩ := hex
  rw [tra_stay h2 (i + 1) (by omega), tra_stay h2 i (by omega)]
end
