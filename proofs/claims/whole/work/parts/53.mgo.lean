/-! The model's walks. -/
theorem upd_fillf (f X : Nat → Int32) (i : Nat) : upd (fun k => if k < i then X k else f k) i (X i) = (fun k => if k < i + 1 then X k else f k) := by
  funext k
  by_cases e : k = i
  · subst e
    rw [pk_us, if_pos (by omega)]
  · rw [pk_un e]
    by_cases h : k < i
    · rw [if_pos h, if_pos (by omega)]
    · rw [if_neg h, if_neg (by omega)]
theorem lp_fill {β : Type} {B : KT β → KT β} (Fl : Nat → LV) (Fh : (Nat → Int32) → HP) (X : Nat → Int32) {A : Nat → Int32} {t N : Nat} {r : Option β} (hN : t < N) (hs : ∀ c, c < t → ∀ k A, B k (Fl c) [] (Fh A) = k (Fl (c + 1)) [] (Fh (upd A c (X c)))) (he : ∀ k, B k (Fl t) [] (Fh (fun k => if k < t then X k else A k)) = r) : lp B N (Fl 0) [] (Fh A) = r := by
  have e := lp_run (B := B) Fl (fun c => Fh (fun k => if k < c then X k else A k)) hN (fun c hc k => by rw [hs c hc, upd_fillf]) he
  have e0 : (fun k => if k < 0 then X k else A k) = A := funext (fun k => if_neg (Nat.not_lt_zero k))
  rw [e0] at e
  exact e
def lsm (du : Nat) : Option Nat → Nat
  | none => du
  | some x => x
def posn (l K : Nat) (tr : Nat → PS) (z : Nat) : Option Nat := if l ≤ z ∧ z < l + K then some (tr (z - l)).1 else none
section
variable {th mtr wh ta mfa : Int32} {mo : Int64} {sd ac mk : Int32} {mq : MsS} {ma : MaS} {me : MeS} {rdv : Value} {ce fg ow ou sk bp : Int32} {F Q CF TN RW OR BE : Nat → Int32} {w h : Nat} {g : GrS} {pl : PlS}
theorem m_sets (H : WH w h) (G : GrOK g w h) (h1 : me.1.1 = nI w) (h2 : me.1.2.1 = nI h) {j kd c f l s : Nat} (W : WkJ pl me (w * h) j kd c f l) (NO : me.1.2.2.2.2.2.2.2.2.2.2.2 = -2 ∨ ∃ c, c < w * h ∧ me.1.2.2.2.2.2.2.2.2.2.2.2 = nI c) (hm : Sub mo (w * h)) (hs : s < 65537) (hsd : sd = nI s) : ∃ F' Q' CF' TN', MFR (ps0 c f ((s + j) % 65537)) CF' ∧ (kd = 3 → ∀ d, d < 48 → TN' d = tnz g mo me.1.2.2.2.2.2.2.2.2.2.2.2 d) ∧ EX12_sets [.ref 0, .int (nI j)] (M1 (th, mtr, wh, ta, mfa, mo, sd, ac, mk) (MQw mq ce fg ow ou sk bp) (MAw ma F Q CF TN RW OR BE) me rdv) = some (M1 (th, mtr, wh, ta, mfa, mo, sd, ac, mk) (MQw mq (nI c) (nI f) (nI ((s + j) % 65537)) ou sk bp) (MAw ma F' Q' CF' TN' RW OR BE) me rdv) := by
  have hn := H.n
  obtain ⟨hj, hk, hc, hf, hl, _, k1, k2, k3, k4⟩ := W
  have hin := nI_in hj (by omega)
  have hcj : (nI j).toNatClampNeg = j := nI_clamp (by omega)
  have hinc := nI_in (by omega : c < 48) (by omega)
  have e1 : (sd + nI j) - (sd + nI j) / 65537 * 65537 = nI ((s + j) % 65537) := by
    rw [hsd, nI_add, show (65537 : Int32) = nI 65537 from rfl, pk_rem (by omega) (by omega) (by omega)]
  have R0 : MFR (ps0 c f ((s + j) % 65537)) (upd (fun k => if k < 48 then (-2) else CF k) c (nI c)) := by
    intro k hk48
    show upd _ c (nI c) k = if tb (0 ||| bitL (nI c)) k = true then nI c else -2
    rw [tb_0b (by omega)]
    by_cases e : k = c
    · subst e
      rw [pk_us, if_pos (by simp)]
    · rw [pk_un e, if_pos hk48, if_neg (by simp [e])]
  have e2 : EX12_sets [.ref 0, .int (nI j)] (M1 (th, mtr, wh, ta, mfa, mo, sd, ac, mk) (MQw mq ce fg ow ou sk bp) (MAw ma F Q CF TN RW OR BE) me rdv) = (if kd = 3 then lp BX12_sets_91 FU [(0, .ref 0), (2, .int 0)] [] (M1 (th, mtr, wh, ta, mfa, mo, sd, ac, mk) (MQw mq (nI c) (nI f) (nI ((s + j) % 65537)) ou sk bp) (MAw ma F Q (upd (fun k => if k < 48 then (-2) else CF k) c (nI c)) TN RW OR BE) me rdv) else some (M1 (th, mtr, wh, ta, mfa, mo, sd, ac, mk) (MQw mq (nI c) (nI f) (nI ((s + j) % 65537)) ou sk bp) (MAw ma F Q (upd (fun k => if k < 48 then (-2) else CF k) c (nI c)) TN RW OR BE) me rdv)) := by
    rw [eX12_sets_s_w, qX12_sets_0_w, if_neg hin, if_neg hin, hcj, k2, k3, e1]
    refine lp_fill (fun i => [(0, .ref 0), (1, .int (nI j)), (2, .int (nI i))]) (fun A => (M1 (th, mtr, wh, ta, mfa, mo, sd, ac, mk) (MQw mq (nI c) (nI f) (nI ((s + j) % 65537)) ou sk bp) (MAw ma F Q A TN RW OR BE) me rdv)) (fun _ => -2) (t := 48) (by have := FU_ge; omega) (fun i hi k A => ?_) (fun k => ?_)
    · rw [qX12_sets_42_w, l48, if_le (by omega) (by omega), if_neg (by omega), if_neg (nI_in hi (by omega)), nI_clamp (by omega), nI_1]
    · rw [qX12_sets_42_w, l48, if_le (by omega) (by omega), if_pos (by omega), if_neg hinc, if_neg hin, hcj, nI_clamp (by omega), k1, l3, if_eq (by omega) (by omega)]
  rw [e2]
  by_cases h3 : kd = 3
  · rw [if_pos h3]
    have e3 : ∀ A, lp BX12_sets_91 FU [(0, .ref 0), (2, .int 0)] [] (M1 (th, mtr, wh, ta, mfa, mo, sd, ac, mk) (MQw mq (nI c) (nI f) (nI ((s + j) % 65537)) ou sk bp) (MAw ma F Q A TN RW OR BE) me rdv) = (if me.1.2.2.2.2.2.2.2.2.2.2.2 = (-2) then some (M1 (th, mtr, wh, ta, mfa, mo, sd, ac, mk) (MQw mq (nI c) (nI f) (nI ((s + j) % 65537)) ou sk bp) (MAw ma F Q A (fun k => if k < 48 then (-2) else TN k) RW OR BE) me rdv) else BX12_sets_136 [(0, .ref 0)] [.int me.1.2.2.2.2.2.2.2.2.2.2.2, .long mo, .ref 0] (M1 (th, mtr, wh, ta, mfa, mo, sd, ac, mk) (MQw mq (nI c) (nI f) (nI ((s + j) % 65537)) ou sk bp) (MAw ma F Q A (fun k => if k < 48 then (-2) else TN k) RW OR BE) me rdv)) := fun A => by
      refine lp_fill (fun i => [(0, .ref 0), (2, .int (nI i))]) (fun B => (M1 (th, mtr, wh, ta, mfa, mo, sd, ac, mk) (MQw mq (nI c) (nI f) (nI ((s + j) % 65537)) ou sk bp) (MAw ma F Q A B RW OR BE) me rdv)) (fun _ => -2) (t := 48) (by have := FU_ge; omega) (fun i hi k A => ?_) (fun k => ?_)
      · rw [qX12_sets_91_w, l48, if_le (by omega) (by omega), if_neg (by omega), if_neg (nI_in hi (by omega)), nI_clamp (by omega), nI_1]
      · rw [qX12_sets_91_w, l48, if_le (by omega) (by omega), if_pos (by omega)]
    rw [e3]
    rcases NO with e | ⟨nc, hnc, e⟩
    · rw [if_pos e]
      exact ⟨F, Q, _, _, R0, fun _ d hd => by unfold tnz; rw [if_pos e, if_pos hd], rfl⟩
    · have hne : ¬ me.1.2.2.2.2.2.2.2.2.2.2.2 = -2 := by rw [e]; exact nI_m2 (by omega)
      rw [if_neg hne]
      obtain ⟨F2, Q2, hF2, eF⟩ := e_laysFar (mp := (th, mtr, wh, ta, mfa, mo, sd, ac, mk)) (mq := MQw mq (nI c) (nI f) (nI ((s + j) % 65537)) ou sk bp) (ma := MAw ma F Q (upd (fun k => if k < 48 then (-2) else CF k) c (nI c)) (fun k => if k < 48 then (-2) else TN k) RW OR BE) (rdv := rdv) H G h1 h2 hm hnc
      rw [e, qX12_sets_136_w (h := eF)]
      refine ⟨F2, Q2, _, (fun k => if k < 48 then F2 k else if k < 48 then (-2) else TN k), R0, fun _ d hd => ?_, ?_⟩
      · show (if d < 48 then F2 d else if d < 48 then (-2) else TN d) = _
        unfold tnz
        rw [if_pos hd, hF2 d hd, if_neg (nI_m2 (by omega))]
      · refine lp_fill (fun i => [(0, .ref 0), (2, .int (nI i))]) (fun B => (M1 (th, mtr, wh, ta, mfa, mo, sd, ac, mk) (MQw mq (nI c) (nI f) (nI ((s + j) % 65537)) ou sk bp) (MAw ma F2 Q2 (upd (fun k => if k < 48 then (-2) else CF k) c (nI c)) B RW OR BE) me rdv)) F2 (t := 48) (by have := FU_ge; omega) (fun i hi k A => ?_) (fun k => ?_)
        · rw [qX12_sets_141_w, l48, if_le (by omega) (by omega), if_neg (by omega), if_neg (nI_in hi (by omega)), if_neg (nI_in hi (by omega)), nI_clamp (by omega), nI_1]
        · rw [qX12_sets_141_w, l48, if_le (by omega) (by omega), if_pos (by omega)]
  · rw [if_neg h3]
    exact ⟨F, Q, _, TN, R0, fun e => absurd e h3, rfl⟩
theorem m_walks (H : WH w h) (G : GrOK g w h) (h1 : me.1.1 = nI w) (h2 : me.1.2.1 = nI h) {j kd c f l s du K : Nat} {od : Option Nat} (W : WkJ pl me (w * h) j kd c f l) (NO : me.1.2.2.2.2.2.2.2.2.2.2.2 = -2 ∨ ∃ c, c < w * h ∧ me.1.2.2.2.2.2.2.2.2.2.2.2 = nI c) (hm : Sub mo (w * h)) (hs : s < 65537) (hsd : sd = nI s) (hdu : du ≤ 200) (h3 : me.1.2.2.1 = nI du) (O : WKO l du me.2.1.2.2.2.2.2 (tra w h g mo me.1.2.2.2.2.2.2.2.2.2.2.2 kd (ps0 c f ((s + j) % 65537))) K od) : ∃ F' Q' CF' TN' RW', (∀ z, z < 201 → RW' z = oM (posn l K (tra w h g mo me.1.2.2.2.2.2.2.2.2.2.2.2 kd (ps0 c f ((s + j) % 65537))) z)) ∧ EX12_walks [.ref 0, .int (nI j)] (M1 (th, mtr, wh, ta, mfa, mo, sd, ac, mk) (MQw mq ce fg ow ou sk bp) (MAw ma F Q CF TN RW OR BE) me rdv) = some (M1 (th, mtr, wh, ta, mfa, mo, sd, ac, mk) (MQw mq (nI (tra w h g mo me.1.2.2.2.2.2.2.2.2.2.2.2 kd (ps0 c f ((s + j) % 65537)) (K - 1)).1) (nI (tra w h g mo me.1.2.2.2.2.2.2.2.2.2.2.2 kd (ps0 c f ((s + j) % 65537)) (K - 1)).2.1) (nI (tra w h g mo me.1.2.2.2.2.2.2.2.2.2.2.2 kd (ps0 c f ((s + j) % 65537)) (K - 1)).2.2.1) (oM od) sk bp) (MAw ma F' Q' CF' TN' RW' OR BE) me rdv) := by
  have hn := H.n
  obtain ⟨F1, Q1, CF1, TN1, R1, hT1, e1⟩ := m_sets (th := th) (mtr := mtr) (wh := wh) (ta := ta) (mfa := mfa) (mo := mo) (sd := sd) (ac := ac) (mk := mk) (mq := mq) (ma := ma) (rdv := rdv) (ce := ce) (fg := fg) (ow := ow) (ou := -2) (sk := sk) (bp := bp) (F := F) (Q := Q) (CF := CF) (TN := TN) (RW := fun k => if k < 201 then (-2) else RW k) (OR := OR) (BE := BE) H G h1 h2 W NO hm hs hsd
  obtain ⟨hj, hk, hc, hf, hl, _, k1, k2, k3, k4⟩ := id W
  have hin := nI_in hj (by omega)
  have hcj : (nI j).toNatClampNeg = j := nI_clamp (by omega)
  have P0 : PSOK (w * h) c (ps0 c f ((s + j) % 65537)) := ps0_ok hn.1 hc hf (Nat.mod_lt _ (by omega))
  have hTN : kd = 3 → TNok TN1 := fun e => by
    intro k hk
    rw [hT1 e k hk]
    exact tnz_ok H G hm NO k hk
  have e0 : EX12_walks [.ref 0, .int (nI j)] (M1 (th, mtr, wh, ta, mfa, mo, sd, ac, mk) (MQw mq ce fg ow ou sk bp) (MAw ma F Q CF TN RW OR BE) me rdv) = lp BX12_walks_44 FU [(0, .ref 0), (1, .int (nI j)), (2, .int (nI l))] [] (M1 (th, mtr, wh, ta, mfa, mo, sd, ac, mk) (MQw mq (nI (ps0 c f ((s + j) % 65537)).1) (nI (ps0 c f ((s + j) % 65537)).2.1) (nI (ps0 c f ((s + j) % 65537)).2.2.1) (-2) sk bp) (MAw ma F1 Q1 CF1 TN1 (fun k => if k < 201 then (-2) else RW k) OR BE) me rdv) := by
    rw [eX12_walks_s_w, qX12_walks_0_w]
    refine lp_fill (fun i => [(0, .ref 0), (1, .int (nI j)), (2, .int (nI i))]) (fun A => (M1 (th, mtr, wh, ta, mfa, mo, sd, ac, mk) (MQw mq ce fg ow (-2) sk bp) (MAw ma F Q CF TN A OR BE) me rdv)) (fun _ => -2) (t := 201) (by have := FU_ge; omega) (fun i hi k A => ?_) (fun k => ?_)
    · rw [qX12_walks_8_w, show (200 : Int32) = nI 200 from rfl, if_lt (by omega) (by omega), if_neg (by omega), if_neg (nI_in hi (by omega)), nI_clamp (by omega), nI_1]
    · rw [qX12_walks_8_w, show (200 : Int32) = nI 200 from rfl, if_lt (by omega) (by omega), if_pos (by omega), qX12_walks_31_w (h := e1), if_neg hin, hcj, k4]
      rfl
  generalize ps0 c f ((s + j) % 65537) = p0 at *
  have hP := fun i => tra_ok (g := g) (m := mo) (no := me.1.2.2.2.2.2.2.2.2.2.2.2) (kd := kd) H P0 i
  have hst : ∀ i, stp w h g mo me.1.2.2.2.2.2.2.2.2.2.2.2 TN1 kd (tra w h g mo me.1.2.2.2.2.2.2.2.2.2.2.2 kd p0 i) = tra w h g mo me.1.2.2.2.2.2.2.2.2.2.2.2 kd p0 (i + 1) := fun i => by
    rw [tra_s]
    exact stp_cong H (hP i).1 hT1
  have hbd := WKO_bd O
  have L := lp_inv (B := BX12_walks_44) (fun i lv hp => ∃ CF' RW', (kd = 2 → MFR (tra w h g mo me.1.2.2.2.2.2.2.2.2.2.2.2 kd p0 (i - 1)) CF') ∧ (∀ z, z < 201 → RW' z = oM (posn l i (tra w h g mo me.1.2.2.2.2.2.2.2.2.2.2.2 kd p0) z)) ∧ lv = [(0, .ref 0), (1, .int (nI j)), (2, .int (nI (l + i)))] ∧ hp = (M1 (th, mtr, wh, ta, mfa, mo, sd, ac, mk) (MQw mq (nI (tra w h g mo me.1.2.2.2.2.2.2.2.2.2.2.2 kd p0 (i - 1)).1) (nI (tra w h g mo me.1.2.2.2.2.2.2.2.2.2.2.2 kd p0 (i - 1)).2.1) (nI (tra w h g mo me.1.2.2.2.2.2.2.2.2.2.2.2 kd p0 (i - 1)).2.2.1) (if i = K then oM od else -2) sk bp) (MAw ma F1 Q1 CF' TN1 RW' OR BE) me rdv)) (Q := fun r => ∃ CF' RW', (∀ z, z < 201 → RW' z = oM (posn l K (tra w h g mo me.1.2.2.2.2.2.2.2.2.2.2.2 kd p0) z)) ∧ r = some (M1 (th, mtr, wh, ta, mfa, mo, sd, ac, mk) (MQw mq (nI (tra w h g mo me.1.2.2.2.2.2.2.2.2.2.2.2 kd p0 (K - 1)).1) (nI (tra w h g mo me.1.2.2.2.2.2.2.2.2.2.2.2 kd p0 (K - 1)).2.1) (nI (tra w h g mo me.1.2.2.2.2.2.2.2.2.2.2.2 kd p0 (K - 1)).2.2.1) (oM od) sk bp) (MAw ma F1 Q1 CF' TN1 RW' OR BE) me rdv)) (t := K) (N := FU) (by have := FU_ge; omega) (fun i lv hp hiK hI => ?_) (fun lv hp hI => ?_) (lv := [(0, .ref 0), (1, .int (nI j)), (2, .int (nI l))]) (hp := (M1 (th, mtr, wh, ta, mfa, mo, sd, ac, mk) (MQw mq (nI p0.1) (nI p0.2.1) (nI p0.2.2.1) (-2) sk bp) (MAw ma F1 Q1 CF1 TN1 (fun k => if k < 201 then (-2) else RW k) OR BE) me rdv)) ?_
  · obtain ⟨r, ⟨CF', RW', hR', hr⟩, e⟩ := L
    exact ⟨F1, Q1, CF', TN1, RW', hR', e0.trans (e.trans hr)⟩
  · obtain ⟨CF2, RW2, R2, hRW2, rfl, rfl⟩ := hI
    have hlK : l + K ≤ du + 1 := by omega
    rw [if_neg (by omega : ¬ i = K)]
    have hcc := (hP i).1
    have hstep : ∃ CF3, (kd = 2 → MFR (tra w h g mo me.1.2.2.2.2.2.2.2.2.2.2.2 kd p0 i) CF3) ∧ ∀ k, BX12_walks_44 k [(0, .ref 0), (1, .int (nI j)), (2, .int (nI (l + i)))] [] (M1 (th, mtr, wh, ta, mfa, mo, sd, ac, mk) (MQw mq (nI (tra w h g mo me.1.2.2.2.2.2.2.2.2.2.2.2 kd p0 (i - 1)).1) (nI (tra w h g mo me.1.2.2.2.2.2.2.2.2.2.2.2 kd p0 (i - 1)).2.1) (nI (tra w h g mo me.1.2.2.2.2.2.2.2.2.2.2.2 kd p0 (i - 1)).2.2.1) (-2) sk bp) (MAw ma F1 Q1 CF2 TN1 RW2 OR BE) me rdv) = BX12_walks_82 k [(0, .ref 0), (1, .int (nI j)), (2, .int (nI (l + i)))] [] (M1 (th, mtr, wh, ta, mfa, mo, sd, ac, mk) (MQw mq (nI (tra w h g mo me.1.2.2.2.2.2.2.2.2.2.2.2 kd p0 i).1) (nI (tra w h g mo me.1.2.2.2.2.2.2.2.2.2.2.2 kd p0 i).2.1) (nI (tra w h g mo me.1.2.2.2.2.2.2.2.2.2.2.2 kd p0 i).2.2.1) (-2) sk bp) (MAw ma F1 Q1 CF3 TN1 RW2 OR BE) me rdv) := by
      rcases Nat.eq_zero_or_pos i with rfl | hpos
      · refine ⟨CF2, R2, fun k => ?_⟩
        rw [qX12_walks_44_w, h3, if_lt (by omega) (by omega), if_neg (by omega), if_pos rfl, if_neg hin, hcj, k4, if_le (by omega) (by omega), if_pos (by omega)]
      · obtain ⟨CF3, R3, e3⟩ := m_goes (th := th) (mtr := mtr) (wh := wh) (ta := ta) (mfa := mfa) (mo := mo) (sd := sd) (ac := ac) (mk := mk) (mq := mq) (ma := ma) (rdv := rdv) (ou := -2) (sk := sk) (bp := bp) (F := F1) (Q := Q1) (CF := CF2) (TN := TN1) (RW := RW2) (OR := OR) (BE := BE) (g := g) hj H G h1 h2 (hP (i - 1)) R2 hk k1 hTN
        rw [hst, Nat.sub_add_cancel hpos] at R3 e3
        refine ⟨CF3, R3, fun k => ?_⟩
        rw [qX12_walks_44_w, h3, if_lt (by omega) (by omega), if_neg (by omega), if_pos rfl, if_neg hin, hcj, k4, if_le (by omega) (by omega), if_neg (by omega), qX12_walks_79_w (h := e3)]
    obtain ⟨CF3, R3, e3⟩ := hstep
    have hcl : (nI (l + i)).toNatClampNeg = l + i := nI_clamp (by omega)
    refine Or.inl ⟨_, _, ⟨CF3, upd RW2 (l + i) (nI (tra w h g mo me.1.2.2.2.2.2.2.2.2.2.2.2 kd p0 i).1), R3, ?_, rfl, rfl⟩, fun k => ?_⟩
    · intro z hz
      unfold posn
      by_cases e : z = l + i
      · rw [e, pk_us, if_pos (by omega), show l + i - l = i by omega]
        rfl
      · rw [pk_un e, hRW2 z hz]
        unfold posn
        by_cases h5 : l ≤ z ∧ z < l + i
        · rw [if_pos h5, if_pos (by omega)]
        · rw [if_neg h5, if_neg (by omega)]
    · rw [e3, qX12_walks_82_w, if_neg (nI_in (by omega : l + i < 201) (by omega)), hcl, qX12_walks_97_w (h := e_isGate (by omega)), if_b2i, nI_1]
      have hno : i + 1 < K → tb me.2.1.2.2.2.2.2 (tra w h g mo me.1.2.2.2.2.2.2.2.2.2.2.2 kd p0 i).1 = false := fun hlt => by
        rcases O with ⟨_, hK, _⟩ | ⟨_, _, hno, _⟩
        · omega
        · exact hno i hlt
      by_cases hlast : i + 1 = K
      · rw [if_pos hlast]
        rcases O with ⟨_, hK, _⟩ | ⟨_, _, _, ⟨hg, ho⟩ | ⟨hg, _, ho⟩⟩
        · omega
        · rw [← hlast] at hg ho
          have hg : tb me.2.1.2.2.2.2.2 (tra w h g mo me.1.2.2.2.2.2.2.2.2.2.2.2 kd p0 i).1 = true := hg
          rw [hg, if_pos rfl, ho]
          rfl
        · rw [← hlast] at hg
          have hg : tb me.2.1.2.2.2.2.2 (tra w h g mo me.1.2.2.2.2.2.2.2.2.2.2.2 kd p0 i).1 = false := hg
          rw [hg, if_neg (by decide), ho]
          rfl
      · rw [if_neg hlast, hno (by omega), if_neg (by decide)]
        rfl
  · obtain ⟨CF2, RW2, R2, hRW2, rfl, rfl⟩ := hI
    rw [if_pos rfl]
    refine ⟨_, ⟨CF2, RW2, hRW2, rfl⟩, fun k => ?_⟩
    rw [qX12_walks_44_w, h3, if_lt (by omega) (by omega)]
    by_cases hd : du < l + K
    · rw [if_pos hd]
    · rw [if_neg hd]
      rcases O with ⟨h5, h6, h7⟩ | ⟨_, _, _, ⟨hg, ho⟩ | ⟨hg, h8, ho⟩⟩
      · omega
      · rw [ho, show oM (some (l + K - 1)) = nI (l + K - 1) from rfl, if_neg (nI_m2 (by omega))]
      · omega
  · refine ⟨CF1, (fun k => if k < 201 then (-2) else RW k), fun _ => R1, fun z hz => ?_, rfl, ?_⟩
    · dsimp only
      rw [if_pos hz]
      unfold posn
      rw [if_neg (by omega)]
      rfl
    have : (if 0 = K then oM od else -2) = (-2 : Int32) := by
      by_cases e : 0 = K
      · rw [if_pos e]
        rcases O with ⟨_, _, ho⟩ | ⟨h5, _⟩
        · rw [ho]; rfl
        · omega
      · rw [if_neg e]
    rw [this]
    rfl
theorem m_there {j l : Nat} (hj : j < 5) (hl : l ≤ 99) (k4 : me.2.2.2.2.2.2.2.2.1 j = nI l) {du : Nat} {od : Option Nat} (hdu : du ≤ 200) (h3 : me.1.2.2.1 = nI du) (hod : ∀ x, od = some x → x ≤ 200) : EX12_there [.ref 0, .int (nI j)] (M1 (th, mtr, wh, ta, mfa, mo, sd, ac, mk) (MQw mq ce fg ow (oM od) sk bp) (MAw ma F Q CF TN RW OR BE) me rdv) = some (nI (lsm du od - l)) := by
  have hin := nI_in hj (by omega)
  have hcj : (nI j).toNatClampNeg = j := nI_clamp (by omega)
  have key : ∀ x, x ≤ 200 → BX12_there_23 [(0, .ref 0), (1, .int (nI j))] [.int (nI x)] (M1 (th, mtr, wh, ta, mfa, mo, sd, ac, mk) (MQw mq ce fg ow (oM od) sk bp) (MAw ma F Q CF TN RW OR BE) me rdv) = some (nI (x - l)) := fun x hx => by
    rw [qX12_there_23_w, if_neg hin, hcj, k4]
    by_cases h5 : l ≤ x
    · rw [pk_sub h5, if_pos (nI_pos' (by omega))]
    · have := pk_sneg (a := x) (b := l) (by omega) (by omega)
      rw [if_neg (Int32.not_le.mpr this), show x - l = 0 by omega]
      rfl
  rw [eX12_there_s_w, qX12_there_0_w]
  cases od with
  | none => rw [show oM none = -2 from rfl, if_pos rfl, h3]; exact key du hdu
  | some x =>
    have hx := hod x rfl
    rw [show oM (some x) = nI x from rfl, if_neg (nI_m2 (by omega))]
    exact key x hx
end
