/-! What a walk is asked for. -/
theorem stp_b {w h : Nat} {g : GrS} {m : Int64} {no : Int32} {tn : Nat → Int32} {kd st : Nat} {p : PS} (H : WH w h) (P : PSOK (w * h) st p) (k : Nat) : tb (stp w h g m no tn kd p).2.2.2.1 k = (tb p.2.2.2.1 k || decide (k = (stp w h g m no tn kd p).1)) := by
  have hn := H.n
  have hok := stp_ok (g := g) (m := m) (no := no) (tn := tn) H P kd
  have ke : ∀ (d : Nat) (q : PS), q.2.2.2.1 = p.2.2.2.1 → d < w * h → tb (ent d q).2.2.2.1 k = (tb p.2.2.2.1 k || decide (k = (ent d q).1)) := fun d q e hd => by
    show tb (q.2.2.2.1 ||| bitL (nI d)) k = (tb p.2.2.2.1 k || decide (k = d))
    rw [tb_orb _ (by omega), e]
  have ks : ∀ q : PS, q.2.2.2.1 = p.2.2.2.1 → q.1 = p.1 → tb q.2.2.2.1 k = (tb p.2.2.2.1 k || decide (k = q.1)) := fun q e1 e2 => by
    rw [e1, e2]
    by_cases e : k = p.1
    · rw [e, P.2.2.2.2.1]; rfl
    · simp [e]
  unfold stp at hok ⊢
  by_cases h1 : kd < 2
  · rw [if_pos h1] at hok ⊢
    unfold stT at hok ⊢
    rcases fs4_ok (fun i => mto w h m p.1 (sdT kd p.2.1 i)) with ⟨e, _⟩ | ⟨i, d, e, hi, hd, _⟩
    · rw [e]; exact ks p rfl rfl
    · rw [e] at hok ⊢; exact ke d _ rfl hok.1
  · rw [if_neg h1] at hok ⊢
    by_cases h2 : kd = 2
    · rw [if_pos h2] at hok ⊢
      unfold stO at hok ⊢
      rcases fs4_ok (frs w h m p) with ⟨e, _⟩ | ⟨i, d, e, hi, hd, _⟩
      · rw [e] at hok ⊢
        dsimp only at hok ⊢
        by_cases h5 : tb m (p.2.2.2.2 p.1) = true
        · rw [if_pos h5] at hok ⊢; exact ke _ _ rfl hok.1
        · rw [if_neg h5]; exact ks p rfl rfl
      · rw [e] at hok ⊢; exact ke d _ rfl hok.1
    · rw [if_neg h2] at hok ⊢
      by_cases h3 : kd = 3
      · rw [if_pos h3] at hok ⊢
        unfold stC at hok ⊢
        by_cases h0 : nI p.1 = no
        · rw [if_pos h0]; exact ks p rfl rfl
        · rw [if_neg h0] at hok ⊢
          cases hb : bst w h m tn p.1 4 with
          | none => exact ks p rfl rfl
          | some d => rw [hb] at hok; exact ke d _ rfl hok.1
      · rw [if_neg h3] at hok ⊢
        unfold stLo at hok ⊢
        by_cases h0 : way g m p.1 = 0
        · rw [if_pos h0]; exact ks p rfl rfl
        · rw [if_neg h0] at hok ⊢
          cases hb : lot w h m p.1 4 0 (drw p.2.2.1 % way g m p.1) with
          | none => exact ks _ rfl rfl
          | some d => rw [hb] at hok; exact ke d _ rfl hok.1
theorem tra_been {w h : Nat} {g : GrS} {m : Int64} {no : Int32} {kd c f v : Nat} (H : WH w h) (P : PSOK (w * h) c (ps0 c f v)) (i k : Nat) : tb (tra w h g m no kd (ps0 c f v) i).2.2.2.1 k = true ↔ ∃ i', i' ≤ i ∧ (tra w h g m no kd (ps0 c f v) i').1 = k := by
  have hn := H.n
  induction i with
  | zero =>
    have hc := P.1
    have hc : c < w * h := hc
    show tb (0 ||| bitL (nI c)) k = true ↔ _
    rw [tb_0b (by omega), decide_eq_true_iff]
    constructor
    · intro e; exact ⟨0, Nat.le_refl 0, e.symm⟩
    · rintro ⟨i', hi, e⟩
      rcases (by omega : i' = 0) with rfl
      exact e.symm
  | succ i ih =>
    have e0 : (tb (tra w h g m no kd (ps0 c f v) (i + 1)).2.2.2.1 k = true) ↔ (tb (tra w h g m no kd (ps0 c f v) i).2.2.2.1 k = true ∨ k = (tra w h g m no kd (ps0 c f v) (i + 1)).1) := by
      rw [tra_s, stp_b H (tra_ok H P i), Bool.or_eq_true, decide_eq_true_iff]
    refine e0.trans ((or_congr ih Iff.rfl).trans ?_)
    constructor
    · rintro (⟨i', hi, e⟩ | e)
      · exact ⟨i', by omega, e⟩
      · exact ⟨i + 1, Nat.le_refl _, e.symm⟩
    · rintro ⟨i', hi, e⟩
      by_cases h5 : i' = i + 1
      · subst h5; exact Or.inr e.symm
      · exact Or.inl ⟨i', by omega, e⟩
/-- all that is known of a walk of the walker j over m -/
def WTwo (pl : PlS) (me : MeS) (w h du j s : Nat) (m : Int64) (l K : Nat) (od : Option Nat) (tr : Nat → PS) : Prop :=
  j < 5 ∧ l ≤ 99 ∧ WKO l du pl.2.2.2.2.2.2.2.2.1 tr K od ∧ (∀ i, (tr i).1 < w * h) ∧ (∀ i k, tb (tr i).2.2.2.1 k = true ↔ ∃ i', i' ≤ i ∧ (tr i').1 = k) ∧ (pl.2.2.2.1 j).2.2.2.2 = nI l ∧ me.2.2.2.2.2.2.2.2.1 j = nI l ∧
  (∀ mz tp tk rd hi sc dr wx wo rc, ∃ T' CF' SN', (∀ i, i < K → T' (l + i) = nI (tr i).1) ∧ EX8_goTillDusk [.ref 44, .ref 14, .int (nI j), .long m, .int (nI s)] (CH mz tp tk rd hi sc pl dr wx wo rc) = some (CH mz tp tk rd hi sc pl dr (wPa T' CF' SN' (24 + j) m (tr (K - 1)) (oM od) (las l K)) wo rc)) ∧
  (∀ mz tp tk rd hi sc dr wx wo rc, ∃ T' CF' SN', (∀ i, i < K → T' (l + i) = nI (tr i).1) ∧ EX8_goTillDusk [.ref 48, .ref 14, .int (nI j), .long m, .int (nI s)] (CH mz tp tk rd hi sc pl dr wo wx rc) = some (CH mz tp tk rd hi sc pl dr wo (wPb T' CF' SN' (24 + j) m (tr (K - 1)) (oM od) (las l K)) rc)) ∧
  (∀ th mtr wh ta mfa ac mk mq ma rdv ce fg ow ou sk bp F Q CF TN RW OR BE, ∃ F' Q' CF' TN' RW' ce' fg' ow', (∀ z, z < 201 → RW' z = oM (posn l K tr z)) ∧ EX12_walks [.ref 0, .int (nI j)] (M1 (th, mtr, wh, ta, mfa, m, nI s, ac, mk) (MQw mq ce fg ow ou sk bp) (MAw ma F Q CF TN RW OR BE) me rdv) = some (M1 (th, mtr, wh, ta, mfa, m, nI s, ac, mk) (MQw mq ce' fg' ow' (oM od) sk bp) (MAw ma F' Q' CF' TN' RW' OR BE) me rdv))
theorem walk_two {pl : PlS} {me : MeS} {w h du pa sh gc wc s j : Nat} {m : Int64} (H : WH w h) (G : GrOK pl.1 w h) (N : PlNu pl me w h du pa sh) (GA : PlGa pl me (w * h) gc) (NO : PlNo pl me (w * h)) (WK : PlWk pl me (w * h) wc) (hm : Sub m (w * h)) (hs : s < 65537) (hj : j < wc) : ∃ l K od tr, WTwo pl me w h du j s m l K od tr := by
  have hn := H.n
  obtain ⟨kd, c, f, l, W⟩ := WkJ_of WK hj
  have P0 : PSOK (w * h) c (ps0 c f ((s + j) % 65537)) := ps0_ok hn.1 W.2.2.1 W.2.2.2.1 (Nat.mod_lt _ (by omega))
  obtain ⟨K, od, O⟩ := WKO_ex l du pl.2.2.2.2.2.2.2.2.1 (tra w h pl.1 m pl.2.2.2.2.2.2.2.2.2.1 kd (ps0 c f ((s + j) % 65537)))
  have hdu := N.2.1.2.1
  refine ⟨l, K, od, _, W.1, W.2.2.2.2.1, O, fun i => (tra_ok H P0 i).1, fun i k => tra_been H P0 i k, W.2.2.2.2.2.1.2.2.2, W.2.2.2.2.2.2.2.2.2, fun mz tp tk rd hi sc dr wx wo rc => ?_, fun mz tp tk rd hi sc dr wx wo rc => ?_, fun th mtr wh ta mfa ac mk mq ma rdv ce fg ow ou sk bp F Q CF TN RW OR BE => ?_⟩
  · exact c_goa H G W NO hm hs hdu N.2.1.2.2.1 O
  · exact c_gob H G W NO hm hs hdu N.2.1.2.2.1 O
  · have NO2 : me.1.2.2.2.2.2.2.2.2.2.2.2 = -2 ∨ ∃ c, c < w * h ∧ me.1.2.2.2.2.2.2.2.2.2.2.2 = nI c := by rw [← NO.1]; exact NO.2
    rw [NO.1, GA.2.2.2.1] at O
    obtain ⟨F', Q', CF', TN', RW', h1, h2⟩ := m_walks (th := th) (mtr := mtr) (wh := wh) (ta := ta) (mfa := mfa) (mo := m) (sd := nI s) (ac := ac) (mk := mk) (mq := mq) (ma := ma) (rdv := rdv) (ce := ce) (fg := fg) (ow := ow) (ou := ou) (sk := sk) (bp := bp) (F := F) (Q := Q) (CF := CF) (TN := TN) (RW := RW) (OR := OR) (BE := BE) (pl := pl) H G N.1.1 N.1.2 W NO2 hm hs rfl hdu N.2.1.2.2.2 O
    rw [← NO.1] at h1 h2
    exact ⟨F', Q', CF', TN', RW', _, _, _, h1, h2⟩
theorem WKO_od {l du K : Nat} {gs : Int64} {tr : Nat → PS} {od : Option Nat} (O : WKO l du gs tr K od) (x : Nat) (e : od = some x) : x ≤ du := by
  subst e
  rcases O with ⟨_, _, h⟩ | ⟨_, h2, _, ⟨_, h⟩ | ⟨_, _, h⟩⟩
  · cases h
  · cases h; omega
  · cases h
/-- the cells where he was -/
def vst (l K : Nat) (tr : Nat → PS) : Nat → Int64
  | 0 => 0
  | z + 1 => match posn l K tr z with
    | none => vst l K tr z
    | some c => vst l K tr z ||| bitL (nI c)
theorem tb_vst {l K n : Nat} {tr : Nat → PS} (hn : n ≤ 48) (hc : ∀ i, (tr i).1 < n) (z k : Nat) : tb (vst l K tr z) k = true ↔ ∃ z', z' < z ∧ posn l K tr z' = some k := by
  induction z with
  | zero =>
    show tb 0 k = true ↔ _
    rw [tb_0]
    constructor
    · intro e; cases e
    · rintro ⟨z', h1, _⟩; omega
  | succ z ih =>
    have e0 : vst l K tr (z + 1) = match posn l K tr z with
      | none => vst l K tr z
      | some c => vst l K tr z ||| bitL (nI c) := rfl
    rw [e0]
    cases hp : posn l K tr z with
    | none =>
      dsimp only
      rw [ih]
      constructor
      · rintro ⟨z', h1, h2⟩; exact ⟨z', by omega, h2⟩
      · rintro ⟨z', h1, h2⟩
        by_cases e : z' = z
        · rw [e, hp] at h2; cases h2
        · exact ⟨z', by omega, h2⟩
    | some c =>
      have hcn : c < n := by
        unfold posn at hp
        by_cases h5 : l ≤ z ∧ z < l + K
        · rw [if_pos h5] at hp; cases hp; exact hc _
        · rw [if_neg h5] at hp; cases hp
      dsimp only
      rw [tb_orb _ (by omega), Bool.or_eq_true, ih, decide_eq_true_iff]
      constructor
      · rintro (⟨z', h1, h2⟩ | e)
        · exact ⟨z', by omega, h2⟩
        · exact ⟨z, by omega, by rw [hp, e]⟩
      · rintro ⟨z', h1, h2⟩
        by_cases e : z' = z
        · rw [e, hp] at h2; cases h2; exact Or.inr rfl
        · exact Or.inl ⟨z', by omega, h2⟩
theorem vst_end {l K du n : Nat} {tr : Nat → PS} (hn : n ≤ 48) (hc : ∀ i, (tr i).1 < n) (hb : ∀ i k, tb (tr i).2.2.2.1 k = true ↔ ∃ i', i' ≤ i ∧ (tr i').1 = k) (hK : (K = 0 ∧ du < l) ∨ (1 ≤ K ∧ l + K ≤ du + 1)) : vst l K tr (du + 1) = if du < l then 0 else (tr (K - 1)).2.2.2.1 := by
  refine tb_ext (fun k _ => ?_)
  have e : ∀ a b : Bool, (a = true ↔ b = true) → a = b := fun a b h => by cases a <;> cases b <;> simp_all
  refine e _ _ ?_
  rw [tb_vst hn hc]
  rcases hK with ⟨h1, h2⟩ | ⟨h1, h2⟩
  · rw [if_pos h2, tb_0]
    constructor
    · rintro ⟨z', h3, h4⟩
      unfold posn at h4
      rw [if_neg (by omega)] at h4
      cases h4
    · intro h; cases h
  · rw [if_neg (by omega), hb]
    constructor
    · rintro ⟨z', h3, h4⟩
      unfold posn at h4
      by_cases h5 : l ≤ z' ∧ z' < l + K
      · rw [if_pos h5] at h4
        cases h4
        exact ⟨z' - l, by omega, rfl⟩
      · rw [if_neg h5] at h4; cases h4
    · rintro ⟨i', h3, h4⟩
      refine ⟨l + i', by omega, ?_⟩
      unfold posn
      rw [if_pos (by omega), show l + i' - l = i' by omega, h4]
