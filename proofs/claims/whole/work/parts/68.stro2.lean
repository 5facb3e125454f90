/-! Strokes: the class' table. -/
theorem upd_upd (f : Nat → Int32) (i : Nat) (x y : Int32) : upd (upd f i x) i y = upd f i y := by
  funext k
  by_cases e : k = i
  · subst e; rw [pk_us, pk_us]
  · rw [pk_un e, pk_un e, pk_un e]
def bsn (p : Nat → Bool) : Nat → Nat
  | 0 => 0
  | j + 1 => if p j = true then bsn p j ||| 2 ^ j else bsn p j
theorem bsn_bit (p : Nat → Bool) (t k : Nat) : (bsn p t).testBit k = (decide (k < t) && p k) := by
  induction t with
  | zero => show (0 : Nat).testBit k = _; rw [Nat.zero_testBit, decide_eq_false (by omega)]; rfl
  | succ t ih =>
    show (if p t = true then bsn p t ||| 2 ^ t else bsn p t).testBit k = _
    by_cases h : p t = true
    · rw [if_pos h, to_bit, ih]
      by_cases e : t = k
      · subst e; simp [h]
      · rw [decide_eq_false e, Bool.or_false]
        congr 1
        rw [decide_eq_decide]; omega
    · rw [if_neg h, ih]
      by_cases e : t = k
      · subst e; simp [h]
      · congr 1
        rw [decide_eq_decide]; omega
def Prc (S i U j : Nat) : Prop := U ^^^ 2 ^ j < S ∨ (U ^^^ 2 ^ j = S ∧ j < i)
def CI (n : Nat) (ad : Nat → Nat → Bool) (S i : Nat) (fe la : Nat → Int32) : Prop := (fe 0 = 0 ∧ la 0 = 0) ∧ ∀ U, U ≠ 0 → U < 2 ^ n → ∃ f l : Nat, f ≤ 13 ∧ l < 2 ^ n ∧ fe U = nI f ∧ la U = nI l ∧ (∀ j, l.testBit j = true ↔ (U.testBit j = true ∧ Prc S i U j ∧ Gd n ad U j = f)) ∧ (∀ j, U.testBit j = true → Prc S i U j → f ≤ Gd n ad U j) ∧ ((f = 13 ∧ ∀ j, U.testBit j = true → ¬ Prc S i U j) ∨ ∃ j, U.testBit j = true ∧ Prc S i U j ∧ Gd n ad U j = f)
theorem CI_cong {n : Nat} {ad : Nat → Nat → Bool} {S i S2 i2 : Nat} {fe la : Nat → Int32} (h : ∀ U j, U < 2 ^ n → U.testBit j = true → (Prc S i U j ↔ Prc S2 i2 U j)) (I : CI n ad S i fe la) : CI n ad S2 i2 fe la := by
  refine ⟨I.1, fun U h0 hU => ?_⟩
  obtain ⟨f, l, a1, a2, a3, a4, a5, a6, a7⟩ := I.2 U h0 hU
  refine ⟨f, l, a1, a2, a3, a4, fun j => ?_, fun j hj hp => a6 j hj ((h U j hU hj).mpr hp), ?_⟩
  · refine (a5 j).trans ⟨fun ⟨b1, b2, b3⟩ => ⟨b1, (h U j hU b1).mp b2, b3⟩, fun ⟨b1, b2, b3⟩ => ⟨b1, (h U j hU b1).mpr b2, b3⟩⟩
  · rcases a7 with ⟨b1, b2⟩ | ⟨j, b1, b2, b3⟩
    · exact Or.inl ⟨b1, fun j hj hp => b2 j hj ((h U j hU hj).mpr hp)⟩
    · exact Or.inr ⟨j, b1, (h U j hU b1).mp b2, b3⟩
/-- all of a set is known when its turn comes -/
theorem CI_at {n : Nat} {ad : Nat → Nat → Bool} {S i : Nat} {fe la : Nat → Int32} (I : CI n ad S i fe la) (h0 : S ≠ 0) (hS : S < 2 ^ n) : ∃ f l : Nat, f ≤ n ∧ l < 2 ^ n ∧ fe S = nI f ∧ la S = nI l ∧ (∀ j, l.testBit j = true ↔ (S.testBit j = true ∧ Gd n ad S j = f)) ∧ (∀ j, S.testBit j = true → f ≤ Gd n ad S j) ∧ ∃ j, S.testBit j = true ∧ Gd n ad S j = f := by
  have hp : ∀ j, S.testBit j = true → Prc S i S j := fun j hj => Or.inl (tx_lt hj)
  obtain ⟨f, l, a1, a2, a3, a4, a5, a6, a7⟩ := I.2 S h0 hS
  obtain ⟨k, hk⟩ := ne0_bit h0
  have hex : ∃ j, S.testBit j = true ∧ Gd n ad S j = f := by
    rcases a7 with ⟨_, b2⟩ | ⟨j, b1, _, b3⟩
    · exact absurd (hp k hk) (b2 k hk)
    · exact ⟨j, b1, b3⟩
  refine ⟨f, l, ?_, a2, a3, a4, fun j => ?_, fun j hj => a6 j hj (hp j hj), hex⟩
  · obtain ⟨j, b1, b2⟩ := hex
    rw [← b2]
    exact Gd_n hS b1
  · refine (a5 j).trans ⟨fun ⟨b1, _, b3⟩ => ⟨b1, b3⟩, fun ⟨b1, b3⟩ => ⟨b1, hp j b1, b3⟩⟩
theorem CI_step {n : Nat} {ad : Nat → Nat → Bool} {S i x : Nat} {fe la : Nat → Int32} (hn : n ≤ 12) (I : CI n ad S i fe la) (hS : S < 2 ^ n) (hi : i < n) (hb : S.testBit i = false) (hx : Gd n ad (S ^^^ 2 ^ i) i = x) : ∃ f l : Nat, f ≤ 13 ∧ l < 2 ^ n ∧ fe (S ^^^ 2 ^ i) = nI f ∧ la (S ^^^ 2 ^ i) = nI l ∧ (x < f → CI n ad S (i + 1) (upd fe (S ^^^ 2 ^ i) (nI x)) (upd la (S ^^^ 2 ^ i) (nI (2 ^ i)))) ∧ (x = f → CI n ad S (i + 1) fe (upd la (S ^^^ 2 ^ i) (nI (l ||| 2 ^ i)))) ∧ (f < x → CI n ad S (i + 1) fe la) := by
  have hbi : (S ^^^ 2 ^ i).testBit i = true := by rw [tx_bit, hb]; simp
  have h0 : S ^^^ 2 ^ i ≠ 0 := fun e => by rw [e, Nat.zero_testBit] at hbi; cases hbi
  have hU := tx_lt2 hS hi
  have hpw : 2 ^ i < 2 ^ n := Nat.pow_lt_pow_right (by omega) hi
  obtain ⟨f, l, a1, a2, a3, a4, a5, a6, a7⟩ := I.2 _ h0 hU
  -- what is new: (S ^^^ 2 ^ i, i)
  have hnew : ∀ U j, U < 2 ^ n → (Prc S (i + 1) U j ↔ Prc S i U j ∨ (U = S ^^^ 2 ^ i ∧ j = i)) := fun U j _ => by
    unfold Prc
    constructor
    · rintro (h | ⟨h1, h2⟩)
      · exact Or.inl (Or.inl h)
      · by_cases e : j = i
        · subst e
          exact Or.inr ⟨by rw [← h1, tx_tx], rfl⟩
        · exact Or.inl (Or.inr ⟨h1, by omega⟩)
    · rintro ((h | ⟨h1, h2⟩) | ⟨rfl, rfl⟩)
      · exact Or.inl h
      · exact Or.inr ⟨h1, by omega⟩
      · exact Or.inr ⟨tx_tx _ _, by omega⟩
  have hnot : ¬ Prc S i (S ^^^ 2 ^ i) i := by
    unfold Prc
    rw [tx_tx]
    omega
  have hoth : ∀ (fe2 la2 : Nat → Int32), (∀ U, U ≠ S ^^^ 2 ^ i → fe2 U = fe U ∧ la2 U = la U) → (∃ f l : Nat, f ≤ 13 ∧ l < 2 ^ n ∧ fe2 (S ^^^ 2 ^ i) = nI f ∧ la2 (S ^^^ 2 ^ i) = nI l ∧ (∀ j, l.testBit j = true ↔ ((S ^^^ 2 ^ i).testBit j = true ∧ Prc S (i + 1) (S ^^^ 2 ^ i) j ∧ Gd n ad (S ^^^ 2 ^ i) j = f)) ∧ (∀ j, (S ^^^ 2 ^ i).testBit j = true → Prc S (i + 1) (S ^^^ 2 ^ i) j → f ≤ Gd n ad (S ^^^ 2 ^ i) j) ∧ ((f = 13 ∧ ∀ j, (S ^^^ 2 ^ i).testBit j = true → ¬ Prc S (i + 1) (S ^^^ 2 ^ i) j) ∨ ∃ j, (S ^^^ 2 ^ i).testBit j = true ∧ Prc S (i + 1) (S ^^^ 2 ^ i) j ∧ Gd n ad (S ^^^ 2 ^ i) j = f)) → CI n ad S (i + 1) fe2 la2 := fun fe2 la2 hsame hU0 => by
    refine ⟨?_, fun U h5 h6 => ?_⟩
    · have := hsame 0 (Ne.symm h0)
      rw [this.1, this.2]
      exact I.1
    · by_cases e : U = S ^^^ 2 ^ i
      · rw [e]; exact hU0
      · obtain ⟨f, l, b1, b2, b3, b4, b5, b6, b7⟩ := I.2 U h5 h6
        have hp : ∀ j, Prc S (i + 1) U j ↔ Prc S i U j := fun j => by
          rw [hnew U j h6]
          exact ⟨fun h => h.elim id (fun h2 => absurd h2.1 e), Or.inl⟩
        rw [(hsame U e).1, (hsame U e).2]
        refine ⟨f, l, b1, b2, b3, b4, fun j => ?_, fun j hj hpj => b6 j hj ((hp j).mp hpj), ?_⟩
        · rw [hp j]; exact b5 j
        · rcases b7 with ⟨c1, c2⟩ | ⟨j, c1, c2, c3⟩
          · exact Or.inl ⟨c1, fun j hj hpj => c2 j hj ((hp j).mp hpj)⟩
          · exact Or.inr ⟨j, c1, (hp j).mpr c2, c3⟩
  have hPi : Prc S (i + 1) (S ^^^ 2 ^ i) i := (hnew _ _ hU).mpr (Or.inr ⟨rfl, rfl⟩)
  have hxn : x ≤ n := by rw [← hx]; exact Gd_n hU hbi
  refine ⟨f, l, a1, a2, a3, a4, fun hlt => ?_, fun heq => ?_, fun hgt => ?_⟩
  · refine hoth _ _ (fun U e => ⟨pk_un e, pk_un e⟩) ⟨x, 2 ^ i, by omega, hpw, pk_us, pk_us, fun j => ?_, fun j hj hp => ?_, Or.inr ⟨i, hbi, hPi, hx⟩⟩
    · rw [Nat.testBit_two_pow, decide_eq_true_iff]
      constructor
      · rintro rfl; exact ⟨hbi, hPi, hx⟩
      · rintro ⟨h1, h2, h3⟩
        rcases (hnew _ _ hU).mp h2 with h4 | ⟨_, h4⟩
        · have := a6 j h1 h4; omega
        · exact h4.symm
    · rcases (hnew _ _ hU).mp hp with h4 | ⟨_, h4⟩
      · have := a6 j hj h4; omega
      · rw [h4, hx]; exact Nat.le_refl _
  · refine hoth _ _ (fun U e => ⟨rfl, pk_un e⟩) ⟨f, l ||| 2 ^ i, a1, Nat.or_lt_two_pow a2 hpw, a3, pk_us, fun j => ?_, fun j hj hp => ?_, Or.inr ⟨i, hbi, hPi, by omega⟩⟩
    · rw [to_bit, Bool.or_eq_true, a5 j, decide_eq_true_iff]
      constructor
      · rintro (⟨h1, h2, h3⟩ | rfl)
        · exact ⟨h1, (hnew _ _ hU).mpr (Or.inl h2), h3⟩
        · exact ⟨hbi, hPi, by omega⟩
      · rintro ⟨h1, h2, h3⟩
        rcases (hnew _ _ hU).mp h2 with h4 | ⟨_, h4⟩
        · exact Or.inl ⟨h1, h4, h3⟩
        · exact Or.inr h4.symm
    · rcases (hnew _ _ hU).mp hp with h4 | ⟨_, h4⟩
      · exact a6 j hj h4
      · rw [h4]; omega
  · refine hoth _ _ (fun U e => ⟨rfl, rfl⟩) ⟨f, l, a1, a2, a3, a4, fun j => ?_, fun j hj hp => ?_, ?_⟩
    · rw [a5 j]
      constructor
      · rintro ⟨h1, h2, h3⟩; exact ⟨h1, (hnew _ _ hU).mpr (Or.inl h2), h3⟩
      · rintro ⟨h1, h2, h3⟩
        rcases (hnew _ _ hU).mp h2 with h4 | ⟨_, h4⟩
        · exact ⟨h1, h4, h3⟩
        · rw [h4] at h3; omega
    · rcases (hnew _ _ hU).mp hp with h4 | ⟨_, h4⟩
      · exact a6 j hj h4
      · rw [h4]; omega
    · rcases a7 with ⟨c1, c2⟩ | ⟨j, c1, c2, c3⟩
      · omega
      · exact Or.inr ⟨j, c1, (hnew _ _ hU).mpr (Or.inl c2), c3⟩
section
variable {mz : MzS} {tp : TpS} {tk : TkS} {rd : RdS} {hi : HiS} {be fe la : Nat → Int32} {pl dr : PlS} {wa wb : WaS} {rc : Nat → Int32} {n : Nat} {ad : Nat → Nat → Bool}
theorem c_oneMore (hn : n ≤ 12) (hbe : ∀ i, i < n → be i = nI (bsn (fun j => ad j i) n)) {S : Nat} (hS : S < 2 ^ n) (I : CI n ad S 0 fe la) : ∃ fe' la', CI n ad (S + 1) 0 fe' la' ∧ EX5_mowOneMore [.ref 10, .int (nI S), .int (nI n)] (CH mz tp tk rd hi (be, fe, la) pl dr wa wb rc) = some (CH mz tp tk rd hi (be, fe', la') pl dr wa wb rc) := by
  have hp12 : 2 ^ n ≤ 2 ^ 12 := Nat.pow_le_pow_right (by omega) hn
  have h4096 : (2 : Nat) ^ 12 = 4096 := by decide
  have hnext : ∀ {fe la}, CI n ad S n fe la → CI n ad (S + 1) 0 fe la := fun I => CI_cong (fun U j hU hj => by
    have hjn := tb_lt2 hU hj
    unfold Prc
    omega) I
  have h40 : ¬ (4096 : Int32) ≤ nI S := nI_ge (b := 4096) (by omega) (by omega)
  have h41 : nI S < (4096 : Int32) := nI_lt (b := 4096) (by omega) (by omega)
  rw [eX5_mowOneMore_s, qX5_mowOneMore_0, if_neg (nI_pos (by omega)), if_neg h40, if_pos h41]
  have L := lp_inv (B := BX5_mowOneMore_25) (fun i lv hp => ∃ fe' la', i ≤ n ∧ CI n ad S i fe' la' ∧ lv = [(0, .ref 10), (1, .int (nI S)), (2, .int (nI n)), (3, .int (nI i))] ∧ hp = CH mz tp tk rd hi (be, fe', la') pl dr wa wb rc) (Q := fun r => ∃ fe' la', CI n ad (S + 1) 0 fe' la' ∧ r = some (CH mz tp tk rd hi (be, fe', la') pl dr wa wb rc)) (t := n) (N := FU) (by have := FU_ge; omega) (fun i lv hp hin hI => ?_) (fun lv hp hI => ?_) (lv := [(0, .ref 10), (1, .int (nI S)), (2, .int (nI n)), (3, .int 0)]) (hp := CH mz tp tk rd hi (be, fe, la) pl dr wa wb rc) ⟨fe, la, Nat.zero_le _, I, rfl, rfl⟩
  · obtain ⟨r, ⟨fe', la', h1, hr⟩, e⟩ := L
    exact ⟨fe', la', h1, e.trans hr⟩
  · obtain ⟨fe1, la1, _, I1, rfl, rfl⟩ := hI
    have hpw : 2 ^ i < 2 ^ n := Nat.pow_lt_pow_right (by omega) hin
    have hor : S ||| 2 ^ i < 2 ^ n := Nat.or_lt_two_pow hS hpw
    cases hb : S.testBit i
    · -- one more cell
      have e1 := to_tx hb
      have hU := tx_lt2 hS hin
      have hbi : (S ^^^ 2 ^ i).testBit i = true := by rw [tx_bit, hb]; simp
      have hne : ¬ S ^^^ 2 ^ i = S := fun e => by rw [e, hb] at hbi; cases hbi
      have hinU := nI_in (by omega : S ^^^ 2 ^ i < 4096) (by omega)
      have hinS := nI_in (by omega : S < 4096) (by omega)
      have hini := nI_in (by omega : i < 12) (by omega)
      -- the strokes
      have hcost : ∀ k, BX5_mowOneMore_25 k [(0, .ref 10), (1, .int (nI S)), (2, .int (nI n)), (3, .int (nI i))] [] (CH mz tp tk rd hi (be, fe1, la1) pl dr wa wb rc) = BX5_mowOneMore_105 k [(0, .ref 10), (1, .int (nI S)), (2, .int (nI n)), (3, .int (nI i)), (4, .int (nI (S ^^^ 2 ^ i)))] [.int (nI (Gd n ad (S ^^^ 2 ^ i) i))] (CH mz tp tk rd hi (be, fe1, la1) pl dr wa wb rc) := fun k => by
        rw [qX5_mowOneMore_25, if_le (by omega) (by omega), if_neg (by omega), l12, if_le (by omega) (by omega), if_neg (by omega : ¬ 12 ≤ i), sh13 i (by omega), nI_or, e1, if_eq (by omega) (by omega), if_neg hne, show (4096 : Int32) = nI 4096 from rfl, if_le (by omega) (by omega), if_neg (by omega : ¬ 4096 ≤ S ^^^ 2 ^ i), if_le (by omega) (by omega), if_neg (by omega : ¬ 4096 ≤ S ^^^ 2 ^ i), if_neg hini, if_neg hinS, if_neg hinS, if_neg hinS, nI_clamp (by omega), nI_clamp (by omega), hbe i hin]
        by_cases h0 : S = 0
        · subst h0
          rw [I1.1.1, I1.1.2, if_pos (by rw [show (0 : Int32) = nI 0 from rfl, nI_and, Nat.and_zero])]
          have : Gd n ad (0 ^^^ 2 ^ i) i = 1 := by
            rw [Gd_eq hbi, if_pos (Nat.zero_xor _)]
          rw [this]
          rfl
        · obtain ⟨f, l, c1, c2, c3, c4, c5, c6, c7⟩ := CI_at I1 h0 hS
          obtain ⟨g1, g2⟩ := Gd_more hS h0 hin hb c6 c7
          have hle : bsn (fun j => ad j i) n &&& l ≤ l := Nat.and_le_right
          rw [c3, c4, nI_and]
          by_cases h5 : ∃ k, S.testBit k = true ∧ Gd n ad S k = f ∧ ad k i = true
          · rw [g1 h5, if_neg]
            obtain ⟨k2, h6, h7, h8⟩ := h5
            refine nI_ne0 (Nat.pos_of_ne_zero (fun e => ?_)) (by omega)
            have := congrArg (fun z => z.testBit k2) e
            simp only [Nat.testBit_and, bsn_bit, Nat.zero_testBit, (c5 k2).mpr ⟨h6, h7⟩, h8, decide_eq_true (tb_lt2 hS h6)] at this
            simp at this
          · rw [g2 h5, if_pos, nI_1]
            have : bsn (fun j => ad j i) n &&& l = 0 := Nat.eq_of_testBit_eq (fun k2 => by
              rw [Nat.testBit_and, bsn_bit, Nat.zero_testBit]
              cases h6 : l.testBit k2
              · simp
              · obtain ⟨h7, h8⟩ := (c5 k2).mp h6
                cases h9 : ad k2 i
                · simp
                · exact absurd ⟨k2, h7, h8, h9⟩ h5)
            rw [this]
            rfl
      obtain ⟨f, l, d1, d2, d3, d4, d5, d6, d7⟩ := CI_step hn I1 hS hin hb rfl
      have hxn : Gd n ad (S ^^^ 2 ^ i) i ≤ n := Gd_n hU hbi
      generalize Gd n ad (S ^^^ 2 ^ i) i = x at *
      rcases Nat.lt_trichotomy x f with h5 | h5 | h5
      · refine Or.inl ⟨_, _, ⟨_, _, by omega, d5 h5, rfl, rfl⟩, fun k => ?_⟩
        rw [hcost, qX5_mowOneMore_105, if_neg hinU, if_neg hinU, if_neg hinU, nI_clamp (by omega), d3, if_le (by omega) (by omega), if_neg (by omega), qX5_mowOneMore_136, if_neg hinU, if_neg hinU, if_neg hinU, nI_clamp (by omega), pk_us, if_pos rfl, pk_us, sh13 i (by omega), show (0 : Int32) = nI 0 from rfl, nI_or, Nat.zero_or, upd_upd, nI_1]
      · refine Or.inl ⟨_, _, ⟨_, _, by omega, d6 h5, rfl, rfl⟩, fun k => ?_⟩
        rw [hcost, qX5_mowOneMore_105, if_neg hinU, if_neg hinU, if_neg hinU, nI_clamp (by omega), d3, if_le (by omega) (by omega), if_pos (by omega), qX5_mowOneMore_136, if_neg hinU, if_neg hinU, if_neg hinU, nI_clamp (by omega), d3, if_pos (by rw [h5]), d4, sh13 i (by omega), nI_or, nI_1]
      · refine Or.inl ⟨_, _, ⟨_, _, by omega, d7 h5, rfl, rfl⟩, fun k => ?_⟩
        rw [hcost, qX5_mowOneMore_105, if_neg hinU, if_neg hinU, if_neg hinU, nI_clamp (by omega), d3, if_le (by omega) (by omega), if_pos (by omega), qX5_mowOneMore_136, if_neg hinU, if_neg hinU, if_neg hinU, nI_clamp (by omega), d3, if_eq (by omega) (by omega), if_neg (by omega), nI_1]
    · -- it is mown already
      have e1 : S ||| 2 ^ i = S := Nat.eq_of_testBit_eq (fun k => by
        rw [to_bit]
        by_cases e : i = k
        · subst e; rw [hb]; rfl
        · simp [e])
      refine Or.inl ⟨_, _, ⟨fe1, la1, by omega, CI_cong (fun U j hU hj => ?_) I1, rfl, rfl⟩, fun k => ?_⟩
      · unfold Prc
        constructor
        · rintro (h | ⟨h1, h2⟩)
          · exact Or.inl h
          · exact Or.inr ⟨h1, by omega⟩
        · rintro (h | ⟨h1, h2⟩)
          · exact Or.inl h
          · by_cases e : j = i
            · subst e
              rw [← h1, tx_bit, hj] at hb
              simp at hb
            · exact Or.inr ⟨h1, by omega⟩
      · rw [qX5_mowOneMore_25, if_le (by omega) (by omega), if_neg (by omega), l12, if_le (by omega) (by omega), if_neg (by omega : ¬ 12 ≤ i), sh13 i (by omega), nI_or, e1, if_pos rfl, nI_1]
  · obtain ⟨fe1, la1, _, I1, rfl, rfl⟩ := hI
    refine ⟨_, ⟨fe1, la1, hnext I1, rfl⟩, fun k => ?_⟩
    rw [qX5_mowOneMore_25, if_le (by omega) (by omega), if_pos (by omega)]
end
/-- the cells to mow, by their numbers -/
def CelOK (td : Int64) (m n : Nat) (cel : Nat → Nat) : Prop := ∀ k, k < n → cel k < m ∧ tb td (cel k) = true ∧ fb_ct (tb td) (cel k) = k
theorem cel_ex {td : Int64} {m : Nat} (h : Sub td m) : ∃ cel, CelOK td m (pcn td) cel := by
  have e : ∀ k, ∃ c, k < pcn td → c < m ∧ tb td c = true ∧ fb_ct (tb td) c = k := fun k => by
    by_cases hk : k < pcn td
    · obtain ⟨c, _, h1, h2⟩ := nth_ex hk
      exact ⟨c, fun _ => ⟨h c h1, h1, h2⟩⟩
    · exact ⟨0, fun h5 => absurd h5 hk⟩
  obtain ⟨f, hf⟩ := Classical.axiomOfChoice e
  exact ⟨f, hf⟩
abbrev adB (g : GrS) (cel : Nat → Nat) (k i : Nat) : Bool := tb (besd g (bitL (nI (cel i)))) (cel k)
theorem c_strokes {mz : MzS} {tp : TpS} {tk : TkS} {rd : RdS} {hi : HiS} {be fe la : Nat → Int32} {pl dr : PlS} {wa wb : WaS} {rc : Nat → Int32} {td : Int64} {m n : Nat} {cel : Nat → Nat} (hm : m ≤ 48) (hn : n ≤ 12) (hpc : pcn td = n) (hc : CelOK td m n cel) : ∃ be' fe' la' f, (n = 0 → f = 0) ∧ (n ≠ 0 → (∀ j, j < n → f ≤ Gd n (adB pl.1 cel) (2 ^ n - 1) j) ∧ ∃ j, j < n ∧ Gd n (adB pl.1 cel) (2 ^ n - 1) j = f) ∧ EX5_fewestStrokes [.ref 10, .ref 15, .long td] (CH mz tp tk rd hi (be, fe, la) pl dr wa wb rc) = some (nI f, CH mz tp tk rd hi (be', fe', la') pl dr wa wb rc) := by
  have hp12 : 2 ^ n ≤ 2 ^ 12 := Nat.pow_le_pow_right (by omega) hn
  have h4096 : (2 : Nat) ^ 12 = 4096 := by decide
  have hp1 : 1 ≤ 2 ^ n := Nat.one_le_two_pow
  -- who lies beside whom
  have hnth : ∀ hp k, k < n → EX10_nthCell [.long td, .int (nI k)] hp = some (nI (cel k)) := fun hp k hk => by
    obtain ⟨h1, h2, h3⟩ := hc k hk
    have := e_nth hp (by omega : cel k < 48) h2
    rw [h3] at this
    exact this
  have e1 : EX5_findBesides [.ref 10, .ref 15, .long td, .int (nI n)] (CH mz tp tk rd hi (be, fe, la) pl dr wa wb rc) = some (CH mz tp tk rd hi ((fun k => if k < n then nI (bsn (fun j => adB pl.1 cel j k) n) else be k), fe, la) pl dr wa wb rc) := by
    rw [eX5_findBesides_s, qX5_findBesides_0]
    refine lp_fill (fun i => [(0, .ref 10), (1, .ref 15), (2, .long td), (4, .int (nI n)), (5, .int (nI i))]) (fun A => CH mz tp tk rd hi (A, fe, la) pl dr wa wb rc) (fun k => nI (bsn (fun j => adB pl.1 cel j k) n)) (t := n) (by have := FU_ge; omega) (fun i hin k A => ?_) (fun k => ?_)
    · have hini := nI_in (by omega : i < 12) (by omega)
      rw [qX5_findBesides_3, if_le (by omega) (by omega), if_neg (by omega), l12, if_le (by omega) (by omega), if_neg (by omega : ¬ 12 ≤ i), qX5_findBesides_24 (h := hnth _ i hin), if_neg hini, nI_clamp (by omega)]
      have e2 : upd A i 0 = upd A i (nI (bsn (fun j => adB pl.1 cel j i) 0)) := rfl
      rw [e2]
      refine lp_run (B := BX5_findBesides_46 k) (fun j => [(0, .ref 10), (1, .ref 15), (2, .long td), (4, .int (nI n)), (5, .int (nI i)), (6, .long (besd pl.1 (bitL (nI (cel i))))), (8, .int (nI j))]) (fun j => CH mz tp tk rd hi (upd A i (nI (bsn (fun j => adB pl.1 cel j i) j)), fe, la) pl dr wa wb rc) (t := n) (N := FU) (by have := FU_ge; omega) (fun j hj k2 => ?_) (fun k2 => ?_)
      · have hcj := (hc j hj).1
        rw [qX5_findBesides_46, if_le (by omega) (by omega), if_neg (by omega), qX5_findBesides_58 (h := hnth _ j hj), qX5_findBesides_61 (h := e_isIn _ _ (by omega)), if_b2i, if_neg hini, if_neg hini, nI_clamp (by omega), pk_us, sh13 j (by omega), nI_or, upd_upd, nI_1]
        show _ = k2 _ [] (CH mz tp tk rd hi (upd A i (nI (if adB pl.1 cel j i = true then bsn (fun j => adB pl.1 cel j i) j ||| 2 ^ j else bsn (fun j => adB pl.1 cel j i) j)), fe, la) pl dr wa wb rc)
        by_cases h5 : adB pl.1 cel j i = true
        · rw [if_pos h5, if_pos h5]
        · rw [if_neg h5, if_neg h5]
      · rw [qX5_findBesides_46, if_le (by omega) (by omega), if_pos (by omega), nI_1]
    · rw [qX5_findBesides_3, if_le (by omega) (by omega), if_pos (by omega)]
  have e0 : EX5_fewestStrokes [.ref 10, .ref 15, .long td] (CH mz tp tk rd hi (be, fe, la) pl dr wa wb rc) = lp BX5_fewestStrokes_90 FU [(0, .ref 10), (4, .int (nI n)), (5, .int (nI (2 ^ n))), (6, .int 0)] [] (CH mz tp tk rd hi ((fun k => if k < n then nI (bsn (fun j => adB pl.1 cel j k) n) else be k), (fun k => if k < 2 ^ n then (if k = 0 then 0 else 13) else fe k), (fun k => if k < 2 ^ n then 0 else la k)) pl dr wa wb rc) := by
    have ec : (if bcnt td < 12 then bcnt td else 12) = nI n := by
      rw [bcnt_eq, hpc, l12, if_lt (by omega) (by omega)]
      by_cases h5 : n < 12
      · rw [if_pos h5]
      · rw [if_neg h5, show n = 12 by omega]
    rw [eX5_fewestStrokes_s, qX5_fewestStrokes_0, ec, qX5_fewestStrokes_16 (h := e1), sh13 n (by omega)]
    have L := lp_run (B := BX5_fewestStrokes_28) (N := FU) (fun i => [(0, .ref 10), (4, .int (nI n)), (5, .int (nI (2 ^ n))), (6, .int (nI i))]) (fun i => CH mz tp tk rd hi ((fun k => if k < n then nI (bsn (fun j => adB pl.1 cel j k) n) else be k), (fun k => if k < i then (if k = 0 then 0 else 13) else fe k), (fun k => if k < i then 0 else la k)) pl dr wa wb rc) (t := 2 ^ n) (r := lp BX5_fewestStrokes_90 FU [(0, .ref 10), (4, .int (nI n)), (5, .int (nI (2 ^ n))), (6, .int 0)] [] (CH mz tp tk rd hi ((fun k => if k < n then nI (bsn (fun j => adB pl.1 cel j k) n) else be k), (fun k => if k < 2 ^ n then (if k = 0 then 0 else 13) else fe k), (fun k => if k < 2 ^ n then 0 else la k)) pl dr wa wb rc)) (by have := FU_ge; omega) (fun i hin k => ?_) (fun k => ?_)
    · have z1 : (fun k => if k < 0 then (if k = 0 then (0 : Int32) else 13) else fe k) = fe := funext (fun k => if_neg (Nat.not_lt_zero k))
      have z2 : (fun k => if k < 0 then (0 : Int32) else la k) = la := funext (fun k => if_neg (Nat.not_lt_zero k))
      rw [z1, z2] at L
      exact L
    · have hini := nI_in (by omega : i < 4096) (by omega)
      have u1 := upd_fillf fe (fun k => if k = 0 then (0 : Int32) else 13) i
      have u2 := upd_fillf la (fun _ => (0 : Int32)) i
      rw [qX5_fewestStrokes_28, if_le (by omega) (by omega), if_neg (by omega), show (4096 : Int32) = nI 4096 from rfl, if_le (by omega) (by omega), if_neg (by omega : ¬ 4096 ≤ i), if_le (by omega) (by omega), if_neg (by omega : ¬ 4096 ≤ i), if_neg hini, if_neg hini, if_neg hini, if_neg hini, nI_clamp (by omega), nI_1]
      by_cases h5 : i = 0
      · subst h5
        rw [if_pos nI_0, ← u1, ← u2]
        rfl
      · rw [if_neg (nI_ne0 (by omega) (by omega)), ← u1, ← u2, if_neg h5]
    · rw [qX5_fewestStrokes_28, if_le (by omega) (by omega), if_pos (by omega)]
  have I0 : CI n (adB pl.1 cel) 0 0 (fun k => if k < 2 ^ n then (if k = 0 then 0 else 13) else fe k) (fun k => if k < 2 ^ n then 0 else la k) := by
    refine ⟨⟨?_, ?_⟩, fun U h0 hU => ⟨13, 0, by omega, by omega, ?_, ?_, fun j => ?_, fun j _ hp => ?_, Or.inl ⟨rfl, fun j _ hp => ?_⟩⟩⟩
    · dsimp only
      rw [if_pos (by omega), if_pos rfl]
    · dsimp only
      rw [if_pos (by omega)]
    · dsimp only
      rw [if_pos hU, if_neg h0]; rfl
    · dsimp only
      rw [if_pos hU]; rfl
    · rw [Nat.zero_testBit]
      constructor
      · intro h; cases h
      · rintro ⟨_, h2, _⟩
        rcases h2 with h2 | ⟨_, h2⟩ <;> omega
    · rcases hp with h2 | ⟨_, h2⟩ <;> omega
    · rcases hp with h2 | ⟨_, h2⟩ <;> omega
  have hbe : ∀ i, i < n → (fun k => if k < n then nI (bsn (fun j => adB pl.1 cel j k) n) else be k) i = nI (bsn (fun j => adB pl.1 cel j i) n) := fun i hin => if_pos hin
  rw [e0]
  generalize (fun k => if k < n then nI (bsn (fun j => adB pl.1 cel j k) n) else be k) = be2 at hbe ⊢
  have L := lp_inv (B := BX5_fewestStrokes_90) (fun S lv hp => ∃ fe' la', S ≤ 2 ^ n ∧ CI n (adB pl.1 cel) S 0 fe' la' ∧ lv = [(0, .ref 10), (4, .int (nI n)), (5, .int (nI (2 ^ n))), (6, .int (nI S))] ∧ hp = CH mz tp tk rd hi (be2, fe', la') pl dr wa wb rc) (Q := fun r => ∃ fe' la', CI n (adB pl.1 cel) (2 ^ n) 0 fe' la' ∧ r = some (fe' (2 ^ n - 1), CH mz tp tk rd hi (be2, fe', la') pl dr wa wb rc)) (t := 2 ^ n) (N := FU) (by have := FU_ge; omega) (fun S lv hp hS hI => ?_) (fun lv hp hI => ?_) (lv := [(0, .ref 10), (4, .int (nI n)), (5, .int (nI (2 ^ n))), (6, .int 0)]) ⟨_, _, Nat.zero_le _, I0, rfl, rfl⟩
  · obtain ⟨r, ⟨fe', la', h1, hr⟩, e⟩ := L
    by_cases h0 : n = 0
    · refine ⟨be2, fe', la', 0, fun _ => rfl, fun h => absurd h0 h, e.trans (hr.trans ?_)⟩
      rw [h0, show (2 : Nat) ^ 0 - 1 = 0 from rfl, h1.1.1]
      rfl
    · have hfull : ∀ j, j < n → (2 ^ n - 1).testBit j = true := fun j hj => by
        rw [Nat.testBit_two_pow_sub_one]; exact decide_eq_true hj
      have hU0 : 2 ^ n - 1 ≠ 0 := fun h5 => by
        have := hfull 0 (by omega)
        rw [h5, Nat.zero_testBit] at this
        cases this
      obtain ⟨f, l, a1, a2, a3, a4, a5, a6, a7⟩ := h1.2 (2 ^ n - 1) hU0 (by omega)
      have hp : ∀ j, j < n → Prc (2 ^ n) 0 (2 ^ n - 1) j := fun j hj => Or.inl (tx_lt2 (by omega) hj)
      refine ⟨be2, fe', la', f, fun h => absurd h h0, fun _ => ⟨fun j hj => a6 j (hfull j hj) (hp j hj), ?_⟩, e.trans (hr.trans ?_)⟩
      · rcases a7 with ⟨_, b2⟩ | ⟨j, b1, _, b3⟩
        · exact absurd (hp 0 (by omega)) (b2 0 (hfull 0 (by omega)))
        · exact ⟨j, tb_lt2 (by omega : 2 ^ n - 1 < 2 ^ n) b1, b3⟩
      · rw [a3]
  · obtain ⟨fe1, la1, _, I1, rfl, rfl⟩ := hI
    obtain ⟨fe2, la2, I2, e2⟩ := c_oneMore (mz := mz) (tp := tp) (tk := tk) (rd := rd) (hi := hi) (pl := pl) (dr := dr) (wa := wa) (wb := wb) (rc := rc) hn hbe hS I1
    refine Or.inl ⟨_, _, ⟨fe2, la2, by omega, I2, rfl, rfl⟩, fun k => ?_⟩
    rw [qX5_fewestStrokes_90, if_le (by omega) (by omega), if_neg (by omega), qX5_fewestStrokes_102 (h := e2), nI_1]
  · obtain ⟨fe1, la1, _, I1, rfl, rfl⟩ := hI
    refine ⟨_, ⟨fe1, la1, I1, rfl⟩, fun k => ?_⟩
    have e5 : nI (2 ^ n) - 1 = nI (2 ^ n - 1) := pk_sub (b := 1) hp1
    rw [qX5_fewestStrokes_90, if_le (by omega) (by omega), if_pos (by omega), e5, if_neg (nI_pos (by omega : 2 ^ n - 1 < 2 ^ 31)), show (4096 : Int32) = nI 4096 from rfl, if_le (by omega) (by omega), if_neg (by omega : ¬ 4096 ≤ 2 ^ n - 1), if_neg (nI_in (by omega : 2 ^ n - 1 < 4096) (by omega)), nI_clamp (by omega)]
