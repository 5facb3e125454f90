/-! feed. -/
def byt (v : Int32) (j : Nat) : Int32 := vp_nar .byte ((v >>> (nI (24 - 8 * j) &&& 31)).toInt8.toInt32)
theorem u31 : ∀ j, j < 4 → (((nI (24 - 8 * j)).toUInt32 &&& Int32.toUInt32 31).toBitVec % 32).toNat = 24 - 8 * j := by decide +kernel
theorem s31 : ∀ j, j < 4 → ((nI (24 - 8 * j) &&& 31).toBitVec.smod 32).toNat = 24 - 8 * j := by decide +kernel
theorem byt_c (v : Int32) {j : Nat} (hj : j < 4) : vp_nar .byte (((v.toUInt32 >>> ((nI (24 - 8 * j)).toUInt32 &&& Int32.toUInt32 31)).toInt32).toInt8.toInt32) = byt v j := by
  unfold byt
  have e : ((v.toUInt32 >>> ((nI (24 - 8 * j)).toUInt32 &&& Int32.toUInt32 31)).toInt32).toInt8 = (v >>> (nI (24 - 8 * j) &&& 31)).toInt8 := by
    refine Int8.toBitVec_inj.mp (BitVec.eq_of_getLsbD_eq (fun k hk => ?_))
    rw [Int32.toBitVec_toInt8, Int32.toBitVec_toInt8, BitVec.getLsbD_signExtend, BitVec.getLsbD_signExtend, if_pos (by omega : k < 32), if_pos (by omega : k < 32)]
    congr 1
    rw [Int32.toBitVec_shiftRight]
    show (v.toUInt32 >>> ((nI (24 - 8 * j)).toUInt32 &&& Int32.toUInt32 31)).toBitVec.getLsbD k = (v.toBitVec.sshiftRight ((nI (24 - 8 * j) &&& 31).toBitVec.smod 32).toNat).getLsbD k
    rw [UInt32.toBitVec_shiftRight]
    show (v.toUInt32.toBitVec >>> (((nI (24 - 8 * j)).toUInt32 &&& Int32.toUInt32 31).toBitVec % 32).toNat).getLsbD k = _
    rw [u31 j hj, s31 j hj, BitVec.getLsbD_ushiftRight, BitVec.getLsbD_sshiftRight, if_pos (by omega)]
    have h5 : ¬ 32 ≤ k := by omega
    simp [h5]
  rw [e]
/-- four bytes more -/
def put4 (f : Nat → Int32) (n : Nat) (v : Int32) : Nat → Nat → Int32
  | 0 => f
  | j + 1 => upd (put4 f n v j) (n + j) (byt v j)
theorem put4_at (f : Nat → Int32) (n : Nat) (v : Int32) (t k : Nat) : put4 f n v t k = if n ≤ k ∧ k < n + t then byt v (k - n) else f k := by
  induction t with
  | zero => rw [if_neg (by omega)]; rfl
  | succ t ih =>
    show upd (put4 f n v t) (n + t) (byt v t) k = _
    by_cases e : k = n + t
    · rw [e, pk_us, if_pos (by omega), show n + t - n = t by omega]
    · rw [pk_un e, ih]
      by_cases h : n ≤ k ∧ k < n + t
      · rw [if_pos h, if_pos (by omega)]
      · rw [if_neg h, if_neg (by omega)]
theorem c_put {mz : MzS} {tb_ : Nat → Int32} {tk : TkS} {rd : RdS} {hi : HiS} {sc : ScS} {pl dr : PlS} {wa wb : WaS} {rc : Nat → Int32} {n : Nat} (hn : n + 4 ≤ 900) (v : Int32) : EX6_put [.ref 1, .int v] (CH mz (tb_, nI n) tk rd hi sc pl dr wa wb rc) = some (CH mz (put4 tb_ n v 4, nI (n + 4)) tk rd hi sc pl dr wa wb rc) := by
  rw [eX6_put_s, qX6_put_0]
  have l : ∀ j, j < 4 → nI (24 - 8 * j) + (-8) = (if j < 3 then nI (24 - 8 * (j + 1)) else -8) := by decide +kernel
  refine lp_run (fun j => [(0, .ref 1), (1, .int v), (2, .int (if j < 4 then nI (24 - 8 * j) else -8))]) (fun j => CH mz (put4 tb_ n v j, nI (n + j)) tk rd hi sc pl dr wa wb rc) (t := 4) (by have := FU_ge; omega) (fun j hj k => ?_) (fun k => ?_)
  · rw [if_pos hj, qX6_put_3, if_neg (nI_pos (by omega)), show (900 : Int32) = nI 900 from rfl, if_le (by omega) (by omega), if_neg (by omega), if_neg (nI_in (by omega : n + j < 900) (by omega)), nI_clamp (by omega), byt_c v hj, l j hj, nI_1]
    by_cases h3 : j < 3
    · rw [if_pos h3, if_pos (by omega)]; rfl
    · rw [if_neg h3, if_neg (by omega)]; rfl
  · rw [qX6_put_3, if_pos (by decide)]
def fd5 (a b c d e : Int32) (j : Nat) : Int32 := if j < 4 then a else if j < 8 then b else if j < 12 then c else if j < 16 then d else e
def put20 (f : Nat → Int32) (n : Nat) (a b c d e : Int32) : Nat → Nat → Int32
  | 0 => f
  | j + 1 => upd (put20 f n a b c d e j) (n + j) (byt (fd5 a b c d e j) (j % 4))
theorem put20_at (f : Nat → Int32) (n : Nat) (a b c d e : Int32) (t k : Nat) : put20 f n a b c d e t k = if n ≤ k ∧ k < n + t then byt (fd5 a b c d e (k - n)) ((k - n) % 4) else f k := by
  induction t with
  | zero => rw [if_neg (by omega)]; rfl
  | succ t ih =>
    show upd (put20 f n a b c d e t) (n + t) (byt (fd5 a b c d e t) (t % 4)) k = _
    by_cases e : k = n + t
    · rw [e, pk_us, if_pos (by omega), show n + t - n = t by omega]
    · rw [pk_un e, ih]
      by_cases h : n ≤ k ∧ k < n + t
      · rw [if_pos h, if_pos (by omega)]
      · rw [if_neg h, if_neg (by omega)]
theorem mb4 : ∀ j, j < 20 → 24 - 8 * (nI j - nI j / 4 * 4) = nI (24 - 8 * (j % 4)) := by decide +kernel
theorem c_feed {mz : MzS} {tp : TpS} {tk : TkS} {rd : RdS} {hi : HiS} {sc : ScS} {pl dr : PlS} {wa wb : WaS} {rc : Nat → Int32} {n : Nat} (hn : n ≤ 900) (ht : tp.2 = nI n) (a b c d e : Int32) : ∃ tp2 : TpS, (880 < n → tp2 = tp) ∧ (n ≤ 880 → tp2.2 = nI (n + 20) ∧ ∀ k, tp2.1 k = put20 tp.1 n a b c d e 20 k) ∧ EX10_feed [.ref 0, .int a, .int b, .int c, .int d, .int e] (CH mz tp tk rd hi sc pl dr wa wb rc) = some (if n ≤ 880 then nI (n + 20) else -1, CH mz tp2 tk rd hi sc pl dr wa wb rc) := by
  obtain ⟨f, tl⟩ := tp
  dsimp only at ht
  subst ht
  have hr : EX6_hasRoom [.ref 1, .int 20] (CH mz (f, nI n) tk rd hi sc pl dr wa wb rc) = some (decide (n ≤ 880)) := by
    rw [eX6_hasRoom_s, qX6_hasRoom_0, l20, nI_add, show (900 : Int32) = nI 900 from rfl, if_lt (by omega) (by omega)]
    by_cases h : n ≤ 880
    · rw [if_neg (by omega), decide_eq_true h]
    · rw [if_pos (by omega), decide_eq_false h]
  by_cases h : n ≤ 880
  · refine ⟨(put4 (put4 (put4 (put4 (put4 f n a 4) (n + 4) b 4) (n + 4 + 4) c 4) (n + 4 + 4 + 4) d 4) (n + 4 + 4 + 4 + 4) e 4, nI (n + 4 + 4 + 4 + 4 + 4)), fun h5 => by omega, fun _ => ⟨rfl, fun k => ?_⟩, ?_⟩
    · dsimp only
      rw [put4_at, put4_at, put4_at, put4_at, put4_at, put20_at]
      unfold fd5
      by_cases h0 : n ≤ k ∧ k < n + 20
      · rw [if_pos h0]
        by_cases h1 : k - n < 4
        · rw [if_neg (by omega), if_neg (by omega), if_neg (by omega), if_neg (by omega), if_pos (by omega), if_pos h1, show (k - n) % 4 = k - n by omega]
        · by_cases h2 : k - n < 8
          · rw [if_neg (by omega), if_neg (by omega), if_neg (by omega), if_pos (by omega), if_neg h1, if_pos h2, show (k - n) % 4 = k - (n + 4) by omega]
          · by_cases h3 : k - n < 12
            · rw [if_neg (by omega), if_neg (by omega), if_pos (by omega), if_neg h1, if_neg h2, if_pos h3, show (k - n) % 4 = k - (n + 4 + 4) by omega]
            · by_cases h4 : k - n < 16
              · rw [if_neg (by omega), if_pos (by omega), if_neg h1, if_neg h2, if_neg h3, if_pos h4, show (k - n) % 4 = k - (n + 4 + 4 + 4) by omega]
              · rw [if_pos (by omega), if_neg h1, if_neg h2, if_neg h3, if_neg h4, show (k - n) % 4 = k - (n + 4 + 4 + 4 + 4) by omega]
      · rw [if_neg h0, if_neg (by omega), if_neg (by omega), if_neg (by omega), if_neg (by omega), if_neg (by omega)]
    · rw [eX10_feed_s, qX10_feed_0, qX10_feed_6 (h := hr), decide_eq_true h, if_b2i, if_pos rfl, qX10_feed_19 (h := c_put (by omega) _), qX10_feed_27 (h := c_put (by omega) _), qX10_feed_35 (h := c_put (by omega) _), qX10_feed_44 (h := c_put (by omega) _), qX10_feed_53 (h := c_put (by omega) _), if_pos h]
  · refine ⟨(f, nI n), fun _ => rfl, fun h5 => absurd h5 h, ?_⟩
    rw [eX10_feed_s, qX10_feed_0, qX10_feed_6 (h := hr), decide_eq_false h, if_b2i, if_neg (by decide), if_neg h]
theorem fd_if {α : Type} (F : Int32 → α) (a b c d e : Int32) {j : Nat} (hj : j < 20) : (if (4 : Int32) ≤ nI j then (if (8 : Int32) ≤ nI j then (if (12 : Int32) ≤ nI j then (if (16 : Int32) ≤ nI j then F e else F d) else F c) else F b) else F a) = F (fd5 a b c d e j) := by
  unfold fd5
  rw [l4, show (8 : Int32) = nI 8 from rfl, l12, show (16 : Int32) = nI 16 from rfl, if_le (by omega) (by omega), if_le (by omega) (by omega), if_le (by omega) (by omega), if_le (by omega) (by omega)]
  by_cases h1 : j < 4
  · rw [if_neg (by omega), if_pos h1]
  · rw [if_pos (by omega), if_neg h1]
    by_cases h2 : j < 8
    · rw [if_neg (by omega), if_pos h2]
    · rw [if_pos (by omega), if_neg h2]
      by_cases h3 : j < 12
      · rw [if_neg (by omega), if_pos h3]
      · rw [if_pos (by omega), if_neg h3]
        by_cases h4 : j < 16
        · rw [if_neg (by omega), if_pos h4]
        · rw [if_pos (by omega), if_neg h4]
theorem m_feed0 {th mtr wh mfa : Int32} {mo : Int64} {sd ac mk : Int32} {mq : MsS} {ma : MaS} {rdv : Value} {n : Nat} (hn : n ≤ 900) (a b c d e : Int32) : EX12_feed [.ref 0, .int a, .int b, .int c, .int d, .int e] (M0 (th, mtr, wh, nI n, mfa, mo, sd, ac, mk) mq ma rdv) = some (if n ≤ 880 then nI (n + 20) else -1, M0 (0, mtr, wh, if n ≤ 880 then nI (n + 20) else nI n, mfa, mo, sd, ac, mk) mq (MAt ma (if n ≤ 880 then put20 ma.1 n a b c d e 20 else ma.1)) rdv) := by
  show EX12_feed [.ref 0, .int a, .int b, .int c, .int d, .int e] (M0 (th, mtr, wh, nI n, mfa, mo, sd, ac, mk) mq (MAt ma ma.1) rdv) = _
  rw [eX12_feed_s_0, qX12_feed_0_0, l20, nI_add, show (900 : Int32) = nI 900 from rfl, if_le (by omega) (by omega)]
  by_cases h : n ≤ 880
  · rw [if_pos (by omega), if_pos h, if_pos h, if_pos h]
    refine lp_run (fun j => [(0, .ref 0), (1, .int a), (2, .int b), (3, .int c), (4, .int d), (5, .int e), (6, .int (nI j))]) (fun j => M0 (0, mtr, wh, nI (n + j), mfa, mo, sd, ac, mk) mq (MAt ma (put20 ma.1 n a b c d e j)) rdv) (t := 20) (by have := FU_ge; omega) (fun j hj k => ?_) (fun k => ?_)
    · rw [qX12_feed_23_0, if_neg (show ¬ (20 : Int32) ≤ nI j from nI_ge (b := 20) hj (by omega))]
      refine (fd_if (fun z => BX12_feed_76 k [(0, .ref 0), (1, .int a), (2, .int b), (3, .int c), (4, .int d), (5, .int e), (6, .int (nI j))] [.int z] (M0 (0, mtr, wh, nI (n + j), mfa, mo, sd, ac, mk) mq (MAt ma (put20 ma.1 n a b c d e j)) rdv)) a b c d e hj).trans ?_
      rw [qX12_feed_76_0, if_neg (nI_in (by omega : n + j < 900) (by omega)), nI_clamp (by omega), mb4 j hj, nI_1, nI_1]
      rfl
    · rw [qX12_feed_23_0, if_pos (by decide)]
  · rw [if_neg (by omega), if_neg h, if_neg h, if_neg h]
theorem m_feed1 {th mtr wh mfa : Int32} {mo : Int64} {sd ac mk : Int32} {mq : MsS} {ma : MaS} {me : MeS} {rdv : Value} {n : Nat} (hn : n ≤ 900) (a b c d e : Int32) : EX12_feed [.ref 0, .int a, .int b, .int c, .int d, .int e] (M1 (th, mtr, wh, nI n, mfa, mo, sd, ac, mk) mq ma me rdv) = some (if n ≤ 880 then nI (n + 20) else -1, M1 (0, mtr, wh, if n ≤ 880 then nI (n + 20) else nI n, mfa, mo, sd, ac, mk) mq (MAt ma (if n ≤ 880 then put20 ma.1 n a b c d e 20 else ma.1)) me rdv) := by
  show EX12_feed [.ref 0, .int a, .int b, .int c, .int d, .int e] (M1 (th, mtr, wh, nI n, mfa, mo, sd, ac, mk) mq (MAt ma ma.1) me rdv) = _
  rw [eX12_feed_s_1, qX12_feed_0_1, l20, nI_add, show (900 : Int32) = nI 900 from rfl, if_le (by omega) (by omega)]
  by_cases h : n ≤ 880
  · rw [if_pos (by omega), if_pos h, if_pos h, if_pos h]
    refine lp_run (fun j => [(0, .ref 0), (1, .int a), (2, .int b), (3, .int c), (4, .int d), (5, .int e), (6, .int (nI j))]) (fun j => M1 (0, mtr, wh, nI (n + j), mfa, mo, sd, ac, mk) mq (MAt ma (put20 ma.1 n a b c d e j)) me rdv) (t := 20) (by have := FU_ge; omega) (fun j hj k => ?_) (fun k => ?_)
    · rw [qX12_feed_23_1, if_neg (show ¬ (20 : Int32) ≤ nI j from nI_ge (b := 20) hj (by omega))]
      refine (fd_if (fun z => BX12_feed_76 k [(0, .ref 0), (1, .int a), (2, .int b), (3, .int c), (4, .int d), (5, .int e), (6, .int (nI j))] [.int z] (M1 (0, mtr, wh, nI (n + j), mfa, mo, sd, ac, mk) mq (MAt ma (put20 ma.1 n a b c d e j)) me rdv)) a b c d e hj).trans ?_
      rw [qX12_feed_76_1, if_neg (nI_in (by omega : n + j < 900) (by omega)), nI_clamp (by omega), mb4 j hj, nI_1, nI_1]
      rfl
    · rw [qX12_feed_23_1, if_pos (by decide)]
  · rw [if_neg (by omega), if_neg h, if_neg h, if_neg h]
theorem op_feed (a b c d e : Int32) : Step Inv EX10_feed fIH EX12_feed fIH [.int a, .int b, .int c, .int d, .int e] := by
  have key : ∀ {tp tp2 : TpS} {ma : MaS} {n : Nat}, n ≤ 900 → (∀ k, k < n → tp.1 k = ma.1 k) → tp.2 = nI n → (880 < n → tp2 = tp) → (n ≤ 880 → tp2.2 = nI (n + 20) ∧ ∀ k, tp2.1 k = put20 tp.1 n a b c d e 20 k) → TpRel tp2 (if n ≤ 880 then nI (n + 20) else nI n) (MAt ma (if n ≤ 880 then put20 ma.1 n a b c d e 20 else ma.1)) := fun {tp tp2 ma n} hn hk ht h1 h2 => by
    by_cases h : n ≤ 880
    · obtain ⟨h3, h4⟩ := h2 h
      rw [if_pos h, if_pos h]
      refine ⟨n + 20, by omega, h3, rfl, fun k hk2 => ?_⟩
      show tp2.1 k = put20 ma.1 n a b c d e 20 k
      rw [h4, put20_at, put20_at]
      by_cases h5 : n ≤ k ∧ k < n + 20
      · rw [if_pos h5, if_pos h5]
      · rw [if_neg h5, if_neg h5]
        exact hk k (by omega)
    · rw [if_neg h, if_neg h, h1 (by omega)]
      exact ⟨n, hn, ht, rfl, hk⟩
  refine step_of (fun cl se tr fa fp tp tk rd hi sc pl dr wa wb rc th wh ta mo sd mq ma rdv a1 a2 a3 a4 => ?_) (fun cl se tr fa fp tp tk rd hi sc pl dr wa wb rc th wh ta ac mk mq ma me rdv a1 I => ?_)
  · obtain ⟨n, hn, ht, hta, hk⟩ := a1
    subst hta
    obtain ⟨tp2, h1, h2, e1⟩ := c_feed (mz := (0, cl, se, tr, fa, fp)) (tk := tk) (rd := rd) (hi := hi) (sc := sc) (pl := pl) (dr := dr) (wa := wa) (wb := wb) (rc := rc) hn ht a b c d e
    exact ⟨_, _, _, _, _, e1, m_feed0 hn a b c d e, rfl, rfl, Or.inl ⟨cl, se, tr, fa, fp, tp2, tk, rd, hi, sc, pl, dr, wa, wb, rc, 0, wh, _, mo, sd, mq, _, rdv, rfl, rfl, key hn hk ht h1 h2, a2, a3, a4⟩⟩
  · obtain ⟨⟨n, hn, ht, hta, hk⟩, S, w, h, du, pa, sh, gc, hq, wc, PR, C, HI⟩ := I
    subst hta
    obtain ⟨tp2, h1, h2, e1⟩ := c_feed (mz := (1, cl, se, tr, fa, fp)) (tk := tk) (rd := rd) (hi := hi) (sc := sc) (pl := pl) (dr := dr) (wa := wa) (wb := wb) (rc := rc) hn ht a b c d e
    exact ⟨_, _, _, _, _, e1, m_feed1 hn a b c d e, rfl, rfl, Or.inr ⟨cl, se, tr, fa, fp, tp2, tk, rd, hi, sc, pl, dr, wa, wb, rc, 0, wh, _, ac, mk, mq, _, me, rdv, rfl, rfl, a1, key hn hk ht h1 h2, S, w, h, du, pa, sh, gc, hq, wc, PR, C, HI⟩⟩
