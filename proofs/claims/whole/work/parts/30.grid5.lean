/-! The model's ground: cells beside one, and the queue of cells. -/
theorem lp_inv2 {α β : Type} {B : α → KT β → KT β} (P : Nat → LV → HP → Prop) {Q : (α → Option β) → Prop} {t N : Nat} (hN : t < N) (hs : ∀ c lv hp, c < t → P c lv hp → (∃ lv2 hp2, P (c + 1) lv2 hp2 ∧ ∀ a k, B a k lv [] hp = k lv2 [] hp2) ∨ ∃ r, Q r ∧ ∀ a k, B a k lv [] hp = r a) (he : ∀ lv hp, P t lv hp → ∃ r, Q r ∧ ∀ a k, B a k lv [] hp = r a) {lv : LV} {hp : HP} (h0 : P 0 lv hp) : ∃ r, Q r ∧ ∀ a, lp (B a) N lv [] hp = r a := by
  have : ∀ n c lv hp, P c lv hp → c ≤ t → t - c < n → ∃ r, Q r ∧ ∀ a, lp (B a) n lv [] hp = r a := by
    intro n
    induction n with
    | zero => intro c lv hp _ h1 h2; omega
    | succ n ih =>
      intro c lv hp h h1 h2
      by_cases hc : c = t
      · subst hc
        obtain ⟨r, hr, hk⟩ := he lv hp h
        exact ⟨r, hr, fun a => hk a _⟩
      · rcases hs c lv hp (by omega) h with ⟨lv2, hp2, h3, hk⟩ | ⟨r, hr, hk⟩
        · obtain ⟨r, hr, e⟩ := ih (c + 1) lv2 hp2 h3 (by omega) (by omega)
          exact ⟨r, hr, fun a => (hk a _).trans (e a)⟩
        · exact ⟨r, hr, fun a => hk a _⟩
  exact this N 0 lv hp h0 (by omega) (by omega)
def BFS (w h : Nat) (x : Int64) (fr many : Nat) (qf : Nat → Nat) (L : Nat → Option Nat) : Prop :=
  (∀ i, i < many → tb x (qf i) = true) ∧ (∀ i j, i < j → j < many → qf i ≠ qf j) ∧ (∀ d k, L d = some k → ∃ i, i < many ∧ qf i = d) ∧ (∀ i, i < many → ∃ k, L (qf i) = some k) ∧ (∀ d, L d = some 0 ↔ d = fr) ∧ (∀ d k, L d = some (k + 1) → tb x d = true ∧ ∃ c, adj w h d c ∧ L c = some k) ∧ (∀ i j a b, i ≤ j → j < many → L (qf i) = some a → L (qf j) = some b → a ≤ b)
theorem BFS_add {w h : Nat} {x : Int64} {fr many q k d : Nat} {qf : Nat → Nat} {L : Nat → Option Nat} (H : WH w h) (hx : Sub x (w * h)) (B : BFS w h x fr many qf L) (hL : L (qf q) = some k) (hd : L d = none) (hdx : tb x d = true) (ha : adj w h d (qf q)) (hmax : ∀ i a, i < many → L (qf i) = some a → a ≤ k + 1) : many < 48 ∧ BFS w h x fr (many + 1) (fun i => if i = many then d else qf i) (fun e => if e = d then some (k + 1) else L e) := by
  obtain ⟨b1, b2, b3, b4, b5, b6, b7⟩ := B
  have hnd : ∀ i, i < many → qf i ≠ d := fun i hi e => by
    obtain ⟨k, hk⟩ := b4 i hi
    rw [e, hd] at hk
    cases hk
  have c2 : ∀ i j, i < j → j < many + 1 → (if i = many then d else qf i) ≠ (if j = many then d else qf j) := by
    intro i j hij hj
    rw [if_neg (by omega)]
    by_cases e : j = many
    · rw [if_pos e]; exact hnd i (by omega)
    · rw [if_neg e]; exact b2 i j hij (by omega)
  have c1 : ∀ i, i < many + 1 → tb x (if i = many then d else qf i) = true := by
    intro i hi
    by_cases e : i = many
    · rw [if_pos e]; exact hdx
    · rw [if_neg e]; exact b1 i (by omega)
  have hn := fb_holes (w * h) (many + 1) (fun i => if i = many then d else qf i) (fun i hi => hx _ (c1 i hi)) c2
  have := H.n
  have hkd : (qf q) ≠ d := fun e => by rw [e, hd] at hL; cases hL
  have qe : ∀ i, i < many → (if i = many then d else qf i) = qf i := fun i hi => if_neg (by omega)
  have hLe : ∀ i, i < many → (if qf i = d then some (k + 1) else L (qf i)) = L (qf i) := fun i hi => if_neg (hnd i hi)
  refine ⟨by omega, c1, c2, ?_, ?_, ?_, ?_, ?_⟩
  · intro e j hj
    dsimp only at hj ⊢
    by_cases he : e = d
    · exact ⟨many, by omega, by rw [if_pos rfl, he]⟩
    · rw [if_neg he] at hj
      obtain ⟨i, h1, h2⟩ := b3 e j hj
      exact ⟨i, by omega, by rw [qe i h1, h2]⟩
  · intro i hi
    dsimp only
    by_cases e : i = many
    · rw [if_pos e, if_pos rfl]; exact ⟨_, rfl⟩
    · rw [qe i (by omega), hLe i (by omega)]; exact b4 i (by omega)
  · intro e
    dsimp only
    by_cases he : e = d
    · rw [if_pos he]
      constructor
      · intro h; cases h
      · intro h
        have := (b5 e).mpr h
        rw [he, hd] at this
        cases this
    · rw [if_neg he]; exact b5 e
  · intro e j hj
    dsimp only at hj ⊢
    by_cases he : e = d
    · rw [if_pos he] at hj
      obtain rfl : k = j := by have := Option.some.inj hj; omega
      exact ⟨he ▸ hdx, qf q, he ▸ ha, by rw [if_neg hkd]; exact hL⟩
    · rw [if_neg he] at hj
      obtain ⟨h1, c, h2, h3⟩ := b6 e j hj
      exact ⟨h1, c, h2, by rw [if_neg (fun ec => by rw [ec, hd] at h3; cases h3)]; exact h3⟩
  · intro i j a b hij hj h1 h2
    dsimp only at h1 h2
    by_cases e : j = many
    · rw [if_pos e, if_pos rfl] at h2
      by_cases e2 : i = many
      · rw [if_pos e2, if_pos rfl] at h1
        rw [h1] at h2
        have := Option.some.inj h2
        omega
      · rw [qe i (by omega), hLe i (by omega)] at h1
        have h3 := hmax i a (by omega) h1
        have := Option.some.inj h2
        omega
    · rw [qe j (by omega), hLe j (by omega)] at h2
      rw [qe i (by omega), hLe i (by omega)] at h1
      exact b7 i j a b hij (by omega) h1 h2
abbrev sFQ (ma : MaS) (F Q : Nat → Int32) : MaS := (ma.1, ma.2.1, F, Q, ma.2.2.2.2)
section
variable {mp : MpS} {mq : MsS} {ma : MaS} {me : MeS} {rdv : Value} {w h : Nat} {x : Int64} {g : GrS}
theorem e_to (H : WH w h) (h1 : me.1.1 = nI w) (h2 : me.1.2.1 = nI h) {c s : Nat} (hc : c < w * h) (hs : s < 4) : EX11_to [.ref 16, .int (nI c), .int (nI s)] (M1 mp mq ma me rdv) = some (oI (nb w h c s)) := by
  have hn := H.n
  obtain ⟨k1, k2, k3, k4⟩ := id H
  have hr : nI c - nI c / nI w * nI w = nI (c % w) := pk_rem (by omega) (by omega) (by omega)
  have hm : c % w < w := Nat.mod_lt _ (by omega)
  rw [eX11_to_s, qX11_to_0, h1, h2, if_pos (nI_ne0 (by omega) (by omega)), l0, l1, l2, if_eq (by omega) (by omega), if_eq (by omega) (by omega), if_eq (by omega) (by omega), hr, nI_add, nI_add, nI_add, pk_mul, if_lt (by omega) (by omega), if_le (by omega) (by omega), if_le (by omega) (by omega), if_le (by omega) (by omega)]
  rcases (by omega : s = 0 ∨ s = 1 ∨ s = 2 ∨ s = 3) with rfl | rfl | rfl | rfl
  · rw [if_pos rfl]
    by_cases h5 : w ≤ c
    · rw [if_neg (by omega), pk_sub h5, show nb w h c 0 = some (c - w) from if_pos h5]; rfl
    · rw [if_pos (by omega), show nb w h c 0 = none from if_neg h5]; rfl
  · rw [if_neg (by omega), if_pos rfl]
    by_cases h5 : c % w + 1 < w
    · rw [if_neg (by omega), show nb w h c 1 = some (c + 1) from if_pos h5]; rfl
    · rw [if_pos (by omega), show nb w h c 1 = none from if_neg h5]; rfl
  · rw [if_neg (by omega), if_neg (by omega), if_pos rfl]
    by_cases h5 : c + w < w * h
    · rw [if_neg (by omega), show nb w h c 2 = some (c + w) from if_pos h5]; rfl
    · rw [if_pos (by omega), show nb w h c 2 = none from if_neg h5]; rfl
  · rw [if_neg (by omega), if_neg (by omega), if_neg (by omega)]
    by_cases h5 : 0 < c % w
    · have : 1 ≤ c := by
        rcases Nat.eq_zero_or_pos c with rfl | h6
        · simp at h5
        · exact h6
      rw [if_neg (by omega), pk_sub this, show nb w h c 3 = some (c - 1) from if_pos h5]; rfl
    · rw [if_pos (by omega), show nb w h c 3 = none from if_neg h5]; rfl
def bsA (w h : Nat) (x : Int64) (c : Nat) : Nat → Int64
  | 0 => 0
  | s + 1 => match nb w h c s with
    | none => bsA w h x c s
    | some d => if tb x d = true then bsA w h x c s ||| bitL (nI d) else bsA w h x c s
theorem bsA_iff (H : WH w h) {c : Nat} (hc : c < w * h) {t : Nat} (ht : t ≤ 4) (d : Nat) : tb (bsA w h x c t) d = true ↔ ∃ s, s < t ∧ nb w h c s = some d ∧ tb x d = true := by
  have hn := H.n
  induction t with
  | zero =>
    constructor
    · intro e; rw [show bsA w h x c 0 = 0 from rfl, tb_0] at e; cases e
    · rintro ⟨s, h1, _⟩; omega
  | succ t ih =>
    have ih : tb (bsA w h x c t) d = true ↔ ∃ s, s < t ∧ nb w h c s = some d ∧ tb x d = true := ih (Nat.le_of_succ_le ht)
    cases hb : nb w h c t with
    | none =>
      rw [show bsA w h x c (t + 1) = bsA w h x c t by show (match nb w h c t with | none => _ | some d => _) = _; rw [hb], ih]
      constructor
      · rintro ⟨s, h1, h2⟩; exact ⟨s, by omega, h2⟩
      · rintro ⟨s, h1, h2, h3⟩
        refine ⟨s, ?_, h2, h3⟩
        by_cases e : s = t
        · subst e; rw [hb] at h2; cases h2
        · omega
    | some q =>
      rw [show bsA w h x c (t + 1) = (if tb x q = true then bsA w h x c t ||| bitL (nI q) else bsA w h x c t) by show (match nb w h c t with | none => _ | some d => _) = _; rw [hb]]
      have hq := nb_lt H hc (by omega) hb
      by_cases h5 : tb x q = true
      · rw [if_pos h5, tb_or, Bool.or_eq_true, ih, tb_bit q (by omega), decide_eq_true_iff]
        constructor
        · rintro (⟨s, h1, h2⟩ | rfl)
          · exact ⟨s, by omega, h2⟩
          · exact ⟨t, by omega, hb, h5⟩
        · rintro ⟨s, h1, h2, h3⟩
          by_cases e : s = t
          · subst e; rw [hb] at h2; exact Or.inr (Option.some.inj h2).symm
          · exact Or.inl ⟨s, by omega, h2, h3⟩
      · rw [if_neg h5, ih]
        constructor
        · rintro ⟨s, h1, h2⟩; exact ⟨s, by omega, h2⟩
        · rintro ⟨s, h1, h2, h3⟩
          refine ⟨s, ?_, h2, h3⟩
          by_cases e : s = t
          · subst e; rw [hb] at h2; rw [Option.some.inj h2] at h5; exact absurd h3 h5
          · omega
theorem bsA_eq (H : WH w h) (G : GrOK g w h) {c : Nat} (hc : c < w * h) : bsA w h x c 4 = besd g (bitL (nI c)) &&& x := tb_ext (fun d _ => by
  have hn := H.n
  have : tb (bsA w h x c 4) d = true ↔ tb (besd g (bitL (nI c)) &&& x) d = true := by
    rw [bsA_iff H hc (Nat.le_refl 4), tb_and, Bool.and_eq_true, besd_iff H G (Sub_bit hc (by omega))]
    constructor
    · rintro ⟨s, h1, h2, h3⟩
      have hd := nb_lt H hc h1 h2
      exact ⟨⟨hd, c, adj_symm H hc hd (adj_iff.mpr ⟨s, h1, h2⟩), by rw [tb_bit c (by omega)]; simp⟩, h3⟩
    · rintro ⟨⟨hd, e, h1, h2⟩, h3⟩
      rw [tb_bit c (by omega), decide_eq_true_iff] at h2
      subst h2
      obtain ⟨s, h4, h5⟩ := adj_iff.mp (adj_symm H hd hc h1)
      exact ⟨s, h4, h5, h3⟩
  cases h1 : tb (bsA w h x c 4) d <;> cases h2 : tb (besd g (bitL (nI c)) &&& x) d <;> simp_all)
theorem e_besideOf (H : WH w h) (G : GrOK g w h) (h1 : me.1.1 = nI w) (h2 : me.1.2.1 = nI h) {c : Nat} (hc : c < w * h) : EX12_besideOf [.ref 0, .long x, .int (nI c)] (M1 mp mq ma me rdv) = some (besd g (bitL (nI c)) &&& x) := by
  have hn := H.n
  rw [eX12_besideOf_s, qX12_besideOf_0, ← bsA_eq H G hc]
  refine lp_run (fun i => [(0, .ref 0), (1, .long x), (3, .int (nI c)), (4, .long (bsA w h x c i)), (6, .int (nI i))]) (fun _ => M1 mp mq ma me rdv) (t := 4) (by have := FU_ge; omega) (fun s hs k => ?_) (fun k => ?_)
  · rw [qX12_besideOf_6, l4, if_le (by omega) (by omega), if_neg (by omega), qX12_besideOf_19 (h := e_to H h1 h2 hc hs)]
    cases hb : nb w h c s with
    | none =>
      rw [if_pos (show oI none = -1 from rfl), nI_1, show bsA w h x c (s + 1) = bsA w h x c s by show (match nb w h c s with | none => _ | some d => _) = _; rw [hb]]
    | some d =>
      have hd := nb_lt H hc hs hb
      rw [if_neg (show ¬ oI (some d) = -1 from nI_m1 (by omega)), show oI (some d) = nI d from rfl, qX12_besideOf_33 (h := e_has _ _ (by omega)), if_b2i, nI_1, show bsA w h x c (s + 1) = (if tb x d = true then bsA w h x c s ||| bitL (nI d) else bsA w h x c s) by show (match nb w h c s with | none => _ | some d => _) = _; rw [hb]]
      by_cases h5 : tb x d = true
      · rw [if_pos h5, if_pos h5]
      · rw [if_neg h5, if_neg h5]
  · rw [qX12_besideOf_6, l4, if_le (by omega) (by omega), if_pos (by omega)]
end
