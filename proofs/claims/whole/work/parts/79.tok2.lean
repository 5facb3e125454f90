/-! Tokens: how the model parts the tape. -/
theorem e_isLetter (hp : HP) (c : Int32) : EX12_isLetter [.int c] hp = (if c < 97 then some false else if (122 : Int32) < c then some false else some true) := rfl
theorem e_isDigit (hp : HP) (c : Int32) : EX12_isDigit [.int c] hp = (if c < 48 then some false else if (57 : Int32) < c then some false else some true) := rfl
theorem m_letter (hp : HP) {b : Nat} (h : b < 256) : EX12_isLetter [.int (nI b)] hp = some (decide (kd b = 1)) := by
  rw [e_isLetter, show (97 : Int32) = nI 97 from rfl, show (122 : Int32) = nI 122 from rfl, if_lt (by omega) (by omega), if_lt (by omega) (by omega)]
  unfold kd
  by_cases h1 : 97 ≤ b ∧ b ≤ 122
  · rw [if_neg (by omega), if_neg (by omega), if_pos h1]; rfl
  · rw [if_neg h1]
    have : ¬ ((if 48 ≤ b ∧ b ≤ 57 then 2 else if b = 59 ∨ b = 44 then 3 else 4) = 1) := by repeat (first | omega | split)
    rw [decide_eq_false this]
    by_cases h2 : b < 97
    · rw [if_pos h2]
    · rw [if_neg h2, if_pos (by omega)]
theorem m_digit (hp : HP) {b : Nat} (h : b < 256) : EX12_isDigit [.int (nI b)] hp = some (decide (kd b = 2)) := by
  rw [e_isDigit, show (48 : Int32) = nI 48 from rfl, show (57 : Int32) = nI 57 from rfl, if_lt (by omega) (by omega), if_lt (by omega) (by omega)]
  unfold kd
  by_cases h1 : 97 ≤ b ∧ b ≤ 122
  · rw [if_neg (by omega), if_pos (by omega), if_pos h1]; rfl
  · rw [if_neg h1]
    by_cases h2 : 48 ≤ b ∧ b ≤ 57
    · rw [if_neg (by omega), if_neg (by omega), if_pos h2]; rfl
    · rw [if_neg h2]
      have : ¬ ((if b = 59 ∨ b = 44 then 3 else 4) = 2) := by repeat (first | omega | split)
      rw [decide_eq_false this]
      by_cases h3 : b < 48
      · rw [if_pos h3]
      · rw [if_neg h3, if_pos (by omega)]
theorem m_letterM (hp : HP) : EX12_isLetter [.int (-1)] hp = some false := rfl
theorem m_digitM (hp : HP) : EX12_isDigit [.int (-1)] hp = some false := rfl
/-- the letters of a word -/
def spl (B : Nat → Nat) (q : Nat) (SP : Nat → Int32) : Nat → Nat → Int32
  | 0 => SP
  | t + 1 => upd (spl B q SP t) t (nI (B (q + t)))
theorem spl_at (B : Nat → Nat) (q : Nat) (SP : Nat → Int32) (t k : Nat) : spl B q SP t k = if k < t then nI (B (q + k)) else SP k := by
  induction t with
  | zero => rw [if_neg (by omega)]; rfl
  | succ t ih =>
    show upd (spl B q SP t) t (nI (B (q + t))) k = _
    by_cases e : k = t
    · rw [e, pk_us, if_pos (by omega)]
    · rw [pk_un e, ih]
      by_cases h : k < t
      · rw [if_pos h, if_pos (by omega)]
      · rw [if_neg h, if_neg (by omega)]
section
variable {o : Option MeS} {th mtr wh ta mfa : Int32} {mo : Int64} {sd ac mk : Int32} {mq : MsS} {so pc sg nu le : Int32} {wo : Int64} {wr : Int32} {rm rs : Int64} {ma : MaS} {SP : Nat → Int32} {re : MeS}
theorem m_byte {B : Nat → Nat} {n : Nat} (hn : n ≤ 900) (hB : ∀ k, k < n → bt ma.1 k = B k) {sp : Int32} {k : Nat} (hk : k ≤ n) : EX12_byteAt [.ref 0, .int (nI k)] (MM o (th, mtr, wh, ta, mfa, mo, sd, ac, mk) (mQ mq (nI n) sp so pc sg nu le wo wr rm rs) (mAq ma SP) re) = some (if k < n then nI (B k) else -1) := by
  rw [eX12_byteAt_s_m, qX12_byteAt_0_m, if_le (by omega) (by omega)]
  by_cases h : k < n
  · rw [if_neg (by omega), if_pos h, if_neg (nI_in (by omega : k < 900) (by omega)), nI_clamp (by omega), bt_and, hB k h]
  · rw [if_pos (by omega), if_neg h]
theorem m_word {B : Nat → Nat} {n : Nat} (hn : n ≤ 900) (hB : ∀ k, k < n → bt ma.1 k = B k) (hb : ∀ k, B k < 256) {q e : Nat} (h1 : q ≤ e) (h2 : e ≤ n) (h3 : ∀ k, q ≤ k → k < e → kd (B k) = 1) (h4 : e < n → kd (B e) ≠ 1) :
    lp (BX12_goesOn_89) FU [(0, .ref 0), (2, .int 0)] [] (MM o (th, mtr, wh, ta, mfa, mo, sd, ac, mk) (mQ mq (nI n) (nI q) 0 pc sg nu le 0 wr rm rs) (mAq ma SP) re) = some (MM o (th, mtr, wh, ta, mfa, mo, sd, ac, mk) (mQ mq (nI n) (nI e) (if e - q ≤ 8 then 2 else 0) pc sg nu (nI (e - q)) (cdv B q (min (e - q) 8)) wr rm rs) (mAq ma (spl B q SP (min (e - q) 8))) re) := by
  refine lp_run (fun j => [(0, .ref 0), (2, .int (nI j))]) (fun j => MM o (th, mtr, wh, ta, mfa, mo, sd, ac, mk) (mQ mq (nI n) (nI (q + j)) 0 pc sg nu le (cdv B q (min j 8)) wr rm rs) (mAq ma (spl B q SP (min j 8))) re) (t := e - q) (by have := FU_ge; omega) (fun j hj k => ?_) (fun k => ?_)
  · have hb2 := m_byte (o := o) (th := th) (mtr := mtr) (wh := wh) (ta := ta) (mfa := mfa) (mo := mo) (sd := sd) (ac := ac) (mk := mk) (mq := mq) (so := 0) (pc := pc) (sg := sg) (nu := nu) (le := le) (wo := cdv B q (min j 8)) (wr := wr) (rm := rm) (rs := rs) (SP := spl B q SP (min j 8)) (re := re) (sp := nI (q + j)) hn hB (k := q + j) (by omega)
    rw [if_pos (by omega)] at hb2
    rw [qX12_goesOn_89_m, qX12_goesOn_94_m (h := hb2), qX12_goesOn_97_m (h := m_letter _ (hb _)), h3 (q + j) (by omega) (by omega), decide_eq_true rfl, if_b2i, if_pos rfl, show (8 : Int32) = nI 8 from rfl, if_le (by omega) (by omega)]
    by_cases h8 : 8 ≤ j
    · rw [if_pos h8, nI_1, nI_1, Nat.min_eq_right h8, Nat.min_eq_right (by omega : 8 ≤ j + 1)]
      rfl
    · rw [if_neg h8, qX12_goesOn_119_m (h := hb2), if_neg (nI_in (by omega : j < 8) (by omega)), if_neg (nI_in (by omega : j < 8) (by omega)), nI_clamp (by omega), nI_1, nI_1, Nat.min_eq_left (by omega : j ≤ 8), Nat.min_eq_left (by omega : j + 1 ≤ 8), pk_us, Int64.mul_comm]
      rfl
  · have hb2 := m_byte (o := o) (th := th) (mtr := mtr) (wh := wh) (ta := ta) (mfa := mfa) (mo := mo) (sd := sd) (ac := ac) (mk := mk) (mq := mq) (so := 0) (pc := pc) (sg := sg) (nu := nu) (le := le) (wo := cdv B q (min (e - q) 8)) (wr := wr) (rm := rm) (rs := rs) (SP := spl B q SP (min (e - q) 8)) (re := re) (sp := nI e) hn hB (k := e) (by omega)
    have fin : ∀ r : Bool, r = false → (if (b2i r) = 0 then (if (8 : Int32) < nI (e - q) then (BX12_goesOn_298) [] [] (MM o (th, mtr, wh, ta, mfa, mo, sd, ac, mk) (mQ mq (nI n) (nI e) 0 pc sg nu (nI (e - q)) (cdv B q (min (e - q) 8)) wr rm rs) (mAq ma (spl B q SP (min (e - q) 8))) re) else (BX12_goesOn_298) [] [] (MM o (th, mtr, wh, ta, mfa, mo, sd, ac, mk) (mQ mq (nI n) (nI e) 2 pc sg nu (nI (e - q)) (cdv B q (min (e - q) 8)) wr rm rs) (mAq ma (spl B q SP (min (e - q) 8))) re)) else (none : Option HP)) = some (MM o (th, mtr, wh, ta, mfa, mo, sd, ac, mk) (mQ mq (nI n) (nI e) (if e - q ≤ 8 then 2 else 0) pc sg nu (nI (e - q)) (cdv B q (min (e - q) 8)) wr rm rs) (mAq ma (spl B q SP (min (e - q) 8))) re) := by
      intro r hr
      subst hr
      rw [if_b2i, if_neg (by decide), show (8 : Int32) = nI 8 from rfl, if_lt (by omega) (by omega), qX12_goesOn_298_m, qX12_goesOn_298_m]
      by_cases h8 : e - q ≤ 8
      · rw [if_neg (by omega), if_pos h8]
      · rw [if_pos (by omega), if_neg h8]
    rw [show q + (e - q) = e by omega, qX12_goesOn_89_m, qX12_goesOn_94_m (h := hb2)]
    by_cases h5 : e < n
    · rw [if_pos h5, qX12_goesOn_97_m (h := m_letter _ (hb _)), decide_eq_false (h4 h5)]
      exact fin false rfl
    · rw [if_neg h5, qX12_goesOn_97_m (h := m_letterM _)]
      exact fin false rfl
theorem vl_m (x b : Int32) : 10 * x + b - 48 = x * 10 + (b - 48) := by rw [Int32.mul_comm, Int32.sub_eq_add_neg, Int32.sub_eq_add_neg, Int32.add_assoc]
theorem m_whole {B : Nat → Nat} {n : Nat} (hn : n ≤ 900) (hB : ∀ k, k < n → bt ma.1 k = B k) (hb : ∀ k, B k < 256) {q e : Nat} (h1 : q ≤ e) (h2 : e ≤ n) (h3 : ∀ k, q ≤ k → k < e → kd (B k) = 2) (h4 : e < n → kd (B e) ≠ 2) :
    lp (BX12_goesOn_195) FU [(0, .ref 0), (2, .int 0)] [] (MM o (th, mtr, wh, ta, mfa, mo, sd, ac, mk) (mQ mq (nI n) (nI q) 0 pc sg 0 le wo wr rm rs) (mAq ma SP) re) = some (MM o (th, mtr, wh, ta, mfa, mo, sd, ac, mk) (mQ mq (nI n) (nI e) (if e - q ≤ 3 then 3 else 0) pc sg (vl B q (min (e - q) 3)) le wo wr rm rs) (mAq ma SP) re) := by
  refine lp_run (fun j => [(0, .ref 0), (2, .int (nI j))]) (fun j => MM o (th, mtr, wh, ta, mfa, mo, sd, ac, mk) (mQ mq (nI n) (nI (q + j)) 0 pc sg (vl B q (min j 3)) le wo wr rm rs) (mAq ma SP) re) (t := e - q) (by have := FU_ge; omega) (fun j hj k => ?_) (fun k => ?_)
  · have hb2 := m_byte (o := o) (th := th) (mtr := mtr) (wh := wh) (ta := ta) (mfa := mfa) (mo := mo) (sd := sd) (ac := ac) (mk := mk) (mq := mq) (so := 0) (pc := pc) (sg := sg) (nu := vl B q (min j 3)) (le := le) (wo := wo) (wr := wr) (rm := rm) (rs := rs) (SP := SP) (re := re) (sp := nI (q + j)) hn hB (k := q + j) (by omega)
    rw [if_pos (by omega)] at hb2
    rw [qX12_goesOn_195_m, qX12_goesOn_200_m (h := hb2), qX12_goesOn_203_m (h := m_digit _ (hb _)), h3 (q + j) (by omega) (by omega), decide_eq_true rfl, if_b2i, if_pos rfl, show (3 : Int32) = nI 3 from rfl, if_le (by omega) (by omega)]
    by_cases h8 : 3 ≤ j
    · rw [if_pos h8, nI_1, nI_1, Nat.min_eq_right h8, Nat.min_eq_right (by omega : 3 ≤ j + 1)]
      rfl
    · rw [if_neg h8, qX12_goesOn_227_m (h := hb2), nI_1, nI_1, Nat.min_eq_left (by omega : j ≤ 3), Nat.min_eq_left (by omega : j + 1 ≤ 3), vl_m]
      rfl
  · have hb2 := m_byte (o := o) (th := th) (mtr := mtr) (wh := wh) (ta := ta) (mfa := mfa) (mo := mo) (sd := sd) (ac := ac) (mk := mk) (mq := mq) (so := 0) (pc := pc) (sg := sg) (nu := vl B q (min (e - q) 3)) (le := le) (wo := wo) (wr := wr) (rm := rm) (rs := rs) (SP := SP) (re := re) (sp := nI e) hn hB (k := e) (by omega)
    have fin : ∀ r : Bool, r = false → (if (b2i r) = 0 then (if (3 : Int32) < nI (e - q) then (BX12_goesOn_298) [] [] (MM o (th, mtr, wh, ta, mfa, mo, sd, ac, mk) (mQ mq (nI n) (nI e) 0 pc sg (vl B q (min (e - q) 3)) le wo wr rm rs) (mAq ma SP) re) else (BX12_goesOn_298) [] [] (MM o (th, mtr, wh, ta, mfa, mo, sd, ac, mk) (mQ mq (nI n) (nI e) 3 pc sg (vl B q (min (e - q) 3)) le wo wr rm rs) (mAq ma SP) re)) else (none : Option HP)) = some (MM o (th, mtr, wh, ta, mfa, mo, sd, ac, mk) (mQ mq (nI n) (nI e) (if e - q ≤ 3 then 3 else 0) pc sg (vl B q (min (e - q) 3)) le wo wr rm rs) (mAq ma SP) re) := by
      intro r hr
      subst hr
      rw [if_b2i, if_neg (by decide), show (3 : Int32) = nI 3 from rfl, if_lt (by omega) (by omega), qX12_goesOn_298_m, qX12_goesOn_298_m]
      by_cases h8 : e - q ≤ 3
      · rw [if_neg (by omega), if_pos h8]
      · rw [if_pos (by omega), if_neg h8]
    rw [show q + (e - q) = e by omega, qX12_goesOn_195_m, qX12_goesOn_200_m (h := hb2)]
    by_cases h5 : e < n
    · rw [if_pos h5, qX12_goesOn_203_m (h := m_digit _ (hb _)), decide_eq_false (h4 h5)]
      exact fin false rfl
    · rw [if_neg h5, qX12_goesOn_203_m (h := m_digitM _)]
      exact fin false rfl
theorem m_goesOn0 {B : Nat → Nat} {n : Nat} (hn : n ≤ 900) (hB : ∀ k, k < n → bt ma.1 k = B k) (hb : ∀ k, B k < 256) {p q : Nat} (S : Skp B n p q) (hso : so ≠ 5) : EX12_goesOn [.ref 0] (MM o (th, mtr, wh, ta, mfa, mo, sd, ac, mk) (mQ mq (nI n) (nI p) so pc sg nu le wo wr rm rs) (mAq ma SP) re) = BX12_goesOn_58 [(0, .ref 0)] [.int (nI q), .ref 0] (MM o (th, mtr, wh, ta, mfa, mo, sd, ac, mk) (mQ mq (nI n) (nI q) 0 (nI q) 0 nu le wo wr rm rs) (mAq ma SP) re) := by
  obtain ⟨h1, h2, h3, h4⟩ := S
  rw [eX12_goesOn_s_m, qX12_goesOn_0_m, if_neg hso]
  refine lp_run (fun _ => [(0, .ref 0)]) (fun j => MM o (th, mtr, wh, ta, mfa, mo, sd, ac, mk) (mQ mq (nI n) (nI (p + j)) so pc sg nu le wo wr rm rs) (mAq ma SP) re) (t := q - p) (by have := FU_ge; omega) (fun j hj k => ?_) (fun k => ?_)
  · have hb2 := m_byte (o := o) (th := th) (mtr := mtr) (wh := wh) (ta := ta) (mfa := mfa) (mo := mo) (sd := sd) (ac := ac) (mk := mk) (mq := mq) (so := so) (pc := pc) (sg := sg) (nu := nu) (le := le) (wo := wo) (wr := wr) (rm := rm) (rs := rs) (SP := SP) (re := re) (sp := nI (p + j)) hn hB (k := p + j) (by omega)
    rw [if_pos (by omega), h3 (p + j) (by omega) (by omega)] at hb2
    rw [qX12_goesOn_9_m, qX12_goesOn_14_m (h := hb2), if_pos (show nI 32 = 32 from rfl), nI_1]
    rfl
  · have hb2 := m_byte (o := o) (th := th) (mtr := mtr) (wh := wh) (ta := ta) (mfa := mfa) (mo := mo) (sd := sd) (ac := ac) (mk := mk) (mq := mq) (so := so) (pc := pc) (sg := sg) (nu := nu) (le := le) (wo := wo) (wr := wr) (rm := rm) (rs := rs) (SP := SP) (re := re) (sp := nI q) hn hB (k := q) (by omega)
    rw [show p + (q - p) = q by omega, qX12_goesOn_9_m, qX12_goesOn_14_m (h := hb2)]
    by_cases h5 : q < n
    · have := hb q
      rw [if_pos h5, show (32 : Int32) = nI 32 from rfl, if_eq (by omega) (by omega), if_neg (h4 h5)]
    · rw [if_neg h5, if_neg (by decide)]
theorem nI_ne {b c : Nat} (hb : b < 256) (hc : c < 256) (h : b ≠ c) : nI b ≠ nI c := fun e => h ((nI_eq (by omega) (by omega)).mp e)
theorem m_tok {B : Nat → Nat} {n : Nat} (hn : n ≤ 900) (hB : ∀ k, k < n → bt ma.1 k = B k) (hb : ∀ k, B k < 256) (q : Nat) (hq : q ≤ n) :
    (q = n → BX12_goesOn_58 [(0, .ref 0)] [.int (nI q), .ref 0] (MM o (th, mtr, wh, ta, mfa, mo, sd, ac, mk) (mQ mq (nI n) (nI q) 0 (nI q) 0 nu le wo wr rm rs) (mAq ma SP) re) = some (MM o (th, mtr, wh, ta, mfa, mo, sd, ac, mk) (mQ mq (nI n) (nI q) 1 (nI q) 0 nu le wo wr rm rs) (mAq ma SP) re)) ∧
    (∀ e, q < n → Rn B n q e → kd (B q) = 1 → BX12_goesOn_58 [(0, .ref 0)] [.int (nI q), .ref 0] (MM o (th, mtr, wh, ta, mfa, mo, sd, ac, mk) (mQ mq (nI n) (nI q) 0 (nI q) 0 nu le wo wr rm rs) (mAq ma SP) re) = some (MM o (th, mtr, wh, ta, mfa, mo, sd, ac, mk) (mQ mq (nI n) (nI e) (if e - q ≤ 8 then 2 else 0) (nI q) 0 nu (nI (e - q)) (cdv B q (min (e - q) 8)) wr rm rs) (mAq ma (spl B q SP (min (e - q) 8))) re)) ∧
    (∀ e, q < n → Rn B n q e → kd (B q) = 2 → BX12_goesOn_58 [(0, .ref 0)] [.int (nI q), .ref 0] (MM o (th, mtr, wh, ta, mfa, mo, sd, ac, mk) (mQ mq (nI n) (nI q) 0 (nI q) 0 nu le wo wr rm rs) (mAq ma SP) re) = some (MM o (th, mtr, wh, ta, mfa, mo, sd, ac, mk) (mQ mq (nI n) (nI e) (if e - q ≤ 3 then 3 else 0) (nI q) 0 (vl B q (min (e - q) 3)) le wo wr rm rs) (mAq ma SP) re)) ∧
    (q < n → kd (B q) = 3 → BX12_goesOn_58 [(0, .ref 0)] [.int (nI q), .ref 0] (MM o (th, mtr, wh, ta, mfa, mo, sd, ac, mk) (mQ mq (nI n) (nI q) 0 (nI q) 0 nu le wo wr rm rs) (mAq ma SP) re) = some (MM o (th, mtr, wh, ta, mfa, mo, sd, ac, mk) (mQ mq (nI n) (nI (q + 1)) 4 (nI q) (nI (B q)) nu le wo wr rm rs) (mAq ma SP) re)) ∧
    (q < n → kd (B q) = 4 → BX12_goesOn_58 [(0, .ref 0)] [.int (nI q), .ref 0] (MM o (th, mtr, wh, ta, mfa, mo, sd, ac, mk) (mQ mq (nI n) (nI q) 0 (nI q) 0 nu le wo wr rm rs) (mAq ma SP) re) = some (MM o (th, mtr, wh, ta, mfa, mo, sd, ac, mk) (mQ mq (nI n) (nI q) 0 (nI q) 0 nu le wo wr rm rs) (mAq ma SP) re)) := by
  have hb2 := m_byte (o := o) (th := th) (mtr := mtr) (wh := wh) (ta := ta) (mfa := mfa) (mo := mo) (sd := sd) (ac := ac) (mk := mk) (mq := mq) (so := 0) (pc := nI q) (sg := 0) (nu := nu) (le := le) (wo := wo) (wr := wr) (rm := rm) (rs := rs) (SP := SP) (re := re) (sp := nI q) hn hB (k := q) hq
  have hbq := hb q
  refine ⟨fun h => ?_, fun e h R hk => ?_, fun e h R hk => ?_, fun h hk => ?_, fun h hk => ?_⟩
  · rw [qX12_goesOn_58_m (h := hb2), if_neg (show ¬ q < n by omega), if_pos rfl, qX12_goesOn_298_m]
  · obtain ⟨h1, h2, h3, h4, _⟩ := R
    rw [hk] at h3 h4
    rw [qX12_goesOn_58_m (h := hb2), if_pos h, if_neg (nI_m1 (by omega)), qX12_goesOn_78_m (h := m_letter _ (hb _)), decide_eq_true hk, if_b2i, if_pos rfl]
    exact m_word hn hB hb (by omega) h2 h3 (h4 (by omega))
  · obtain ⟨h1, h2, h3, h4, _⟩ := R
    rw [hk] at h3 h4
    rw [qX12_goesOn_58_m (h := hb2), if_pos h, if_neg (nI_m1 (by omega)), qX12_goesOn_78_m (h := m_letter _ (hb _)), decide_eq_false (by omega), if_b2i, if_neg (by decide), qX12_goesOn_184_m (h := m_digit _ (hb _)), decide_eq_true hk, if_b2i, if_pos rfl]
    exact m_whole hn hB hb (by omega) h2 h3 (h4 (by omega))
  · rw [qX12_goesOn_58_m (h := hb2), if_pos h, if_neg (nI_m1 (by omega)), qX12_goesOn_78_m (h := m_letter _ (hb _)), decide_eq_false (by omega), if_b2i, if_neg (by decide), qX12_goesOn_184_m (h := m_digit _ (hb _)), decide_eq_false (by omega), if_b2i, if_neg (by decide), qX12_goesOn_278_m, qX12_goesOn_298_m, nI_1, show (59 : Int32) = nI 59 from rfl, show (44 : Int32) = nI 44 from rfl, if_eq (by omega) (by omega), if_eq (by omega) (by omega)]
    by_cases h5 : B q = 59
    · rw [if_pos h5]
    · by_cases h6 : B q = 44
      · rw [if_neg h5, if_pos h6]
      · unfold kd at hk
        rw [if_neg (by omega : ¬ (B q = 59 ∨ B q = 44))] at hk
        exfalso
        revert hk
        repeat (first | omega | split)
  · rw [qX12_goesOn_58_m (h := hb2), if_pos h, if_neg (nI_m1 (by omega)), qX12_goesOn_78_m (h := m_letter _ (hb _)), decide_eq_false (by omega), if_b2i, if_neg (by decide), qX12_goesOn_184_m (h := m_digit _ (hb _)), decide_eq_false (by omega), if_b2i, if_neg (by decide), qX12_goesOn_298_m, show (59 : Int32) = nI 59 from rfl, show (44 : Int32) = nI 44 from rfl, if_eq (by omega) (by omega), if_eq (by omega) (by omega)]
    have h5 : ¬ B q = 59 := fun e => by rw [e] at hk; exact absurd hk (by decide)
    have h6 : ¬ B q = 44 := fun e => by rw [e] at hk; exact absurd hk (by decide)
    rw [if_neg h5, if_neg h6]
end
