/-! Cells: fields and arrays. -/
def CL (ci : Nat) (C : String) (T : u_T) (N : Nat) (ty0 : Nat → FieldType) : Prop := vwCl[ci]? = some (C, T, N) ∧ (∀ w ∈ u_ws C T N, w ∈ WS) ∧ (∀ k, k < N → parseFieldDescriptor (T k).2.2.1 = some (ty0 k)) ∧ ∀ a, a < N → ∀ b, b < N → a ≠ b → (T a).2.1 ≠ (T b).2.1
def oGet {β : Type} (ci k : Nat) (K : KT β) : KT β := fun lv st hp => match st with
  | .ref a :: r => (match hp[a]? with
    | some (.inr (c, fs)) => (match Nat.beq c ci, fs[k]? with
      | true, some v => K lv (v :: r) hp
      | _, _ => none)
    | _ => none)
  | _ => none
theorem oGet_inv {β : Type} {ci k : Nat} {K : KT β} {lv : LV} {st : List Value} {hp : HP} {out : β} (h : oGet ci k K lv st hp = some out) : ∃ a r fs v, st = .ref a :: r ∧ hp[a]? = some (.inr (ci, fs)) ∧ fs[k]? = some v ∧ K lv (v :: r) hp = some out := by
  unfold oGet at h
  split at h
  · split at h
    · split at h
      · rename_i hc hv
        have hc := Nat.eq_of_beq_eq_true hc
        subst hc
        exact ⟨_, _, _, _, rfl, by assumption, hv, h⟩
      · cases h
    · cases h
  · cases h
theorem s_get {β : Type} {X : MX} {fin : β → HP → Option Value × HP} {pc : Nat} {K : KT β} {mc ms : Nat} {ix : Nat} {C : String} {T : u_T} {N : Nat} {ty0 : Nat → FieldType} (ci k pc2 : Nat) (hc : CL ci C T N ty0) (hk : k < N) (hw : Cond.fieldLink X.1.cls ix (T k).1 (T k).2.1 (T k).2.2.1 ∈ WS) (hd : decode X.2.1 pc = .ok (.getfield ix, 3)) (hp2 : pc + 3 = pc2) (h : Snd X fin pc2 K mc ms) : Snd X fin pc (oGet ci k K) mc ms := by
  subst hp2
  refine h.rowH ?_
  intro lv st hp out ho
  obtain ⟨a, r, fs, v, rfl, he, hv, ho⟩ := oGet_inv ho
  refine ⟨_, ho, fun p l e s m args below meth c D cy A H locs cells slots Q ad0 ad lsA Cc G hP w => ?_⟩
  exact va_get Cc.1 Cc.2.1 Cc.2.2.2.2.2.1 hc.2.1 Cc.2.2.2.2.1 G.1 hP a (wd_at a he) hc.1 k hk (Cc.2.2.2.2.2.1 _ hw) (fun _ h9 => h9) (v := rv ad v) (by rw [List.getElem?_map, hv]; rfl) hd w
theorem s_getN {β : Type} {X : MX} {fin : β → HP → Option Value × HP} {pc : Nat} {K : KT β} {mc ms : Nat} {ix : Nat} {C host : String} {T : u_T} {N : Nat} {ty0 : Nat → FieldType} (ci k pc2 : Nat) (hc : CL ci C T N ty0) (hk : k < N) (hw : Cond.fieldLinkNest X.1.cls ix (T k).1 (T k).2.1 (T k).2.2.1 host ∈ nestW) (hd : decode X.2.1 pc = .ok (.getfield ix, 3)) (hp2 : pc + 3 = pc2) (h : Snd X fin pc2 K mc ms) : Snd X fin pc (oGet ci k K) mc ms := by
  subst hp2
  refine h.rowH ?_
  intro lv st hp out ho
  obtain ⟨a, r, fs, v, rfl, he, hv, ho⟩ := oGet_inv ho
  refine ⟨_, ho, fun p l e s m args below meth c D cy A H locs cells slots Q ad0 ad lsA Cc G hP w => ?_⟩
  exact va_getN Cc.1 Cc.2.1 Cc.2.2.2.2.2.1 hc.2.1 Cc.2.2.2.2.1 G.1 hP a (wd_at a he) hc.1 k hk (va_Nw.use rfl (G.2.1 _ hw)) (fun _ h9 => h9) (v := rv ad v) (by rw [List.getElem?_map, hv]; rfl) hd w
def okV (ty : FieldType) (v : Value) : Bool := match ty, v with
  | .int, .int _ => true
  | .long, .long _ => true
  | .boolean, .int x => x == 0 || x == 1
  | .object _, .ref _ => true
  | .object _, .null => true
  | .array _, .ref _ => true
  | .array _, .null => true
  | _, _ => false
theorem okV_ok {ty : FieldType} {v : Value} (ad : Nat → Nat) (h : okV ty v = true) : narrow ty (rv ad v) = rv ad v ∧ fits ty (rv ad v) = true := by
  unfold okV at h
  split at h
  · exact ⟨rfl, rfl⟩
  · exact ⟨rfl, rfl⟩
  · rename_i x
    have hx : x = 0 ∨ x = 1 := by simpa using h
    rcases hx with rfl | rfl
    · exact ⟨show narrow .boolean (.int 0) = .int 0 by decide, show fits .boolean (.int 0) = true by decide⟩
    · exact ⟨show narrow .boolean (.int 1) = .int 1 by decide, show fits .boolean (.int 1) = true by decide⟩
  · exact ⟨rfl, rfl⟩
  · exact ⟨rfl, rfl⟩
  · exact ⟨rfl, rfl⟩
  · exact ⟨rfl, rfl⟩
  · cases h
def oPut {β : Type} (ci k : Nat) (ty : FieldType) (K : KT β) : KT β := fun lv st hp => match st with
  | v :: .ref a :: r => (match hp[a]? with
    | some (.inr (c, fs)) => (match Nat.beq c ci && (Nat.blt k fs.length && okV ty v) with
      | true => K lv r (hp.set a (.inr (ci, fs.set k v)))
      | false => none)
    | _ => none)
  | _ => none
theorem oPut_inv {β : Type} {ci k : Nat} {ty : FieldType} {K : KT β} {lv : LV} {st : List Value} {hp : HP} {out : β} (h : oPut ci k ty K lv st hp = some out) : ∃ v a r fs, st = v :: .ref a :: r ∧ hp[a]? = some (.inr (ci, fs)) ∧ k < fs.length ∧ okV ty v = true ∧ K lv r (hp.set a (.inr (ci, fs.set k v))) = some out := by
  unfold oPut at h
  split at h
  · split at h
    · split at h
      · rename_i hc
        simp only [Bool.and_eq_true] at hc
        have hc1 := Nat.eq_of_beq_eq_true hc.1
        subst hc1
        exact ⟨_, _, _, _, rfl, by assumption, Nat.blt_eq.mp hc.2.1, hc.2.2, h⟩
      · cases h
    · cases h
  · cases h
theorem wd_put {cy : Nat → ClassId} {ad : Nat → Nat} (hp : HP) (a ci k : Nat) (fs : List Value) (v : Value) : (wd cy ad hp).set a (ad a, .inr (ci, (fs.map (rv ad)).set k (rv ad v))) = wd cy ad (hp.set a (.inr (ci, fs.set k v))) := by
  rw [wd_set]
  simp only [re, List.map_set]
theorem s_put {β : Type} {X : MX} {fin : β → HP → Option Value × HP} {pc : Nat} {K : KT β} {mc ms : Nat} {ix : Nat} {C : String} {T : u_T} {N : Nat} {ty0 : Nat → FieldType} {ty : FieldType} (ci k pc2 : Nat) (hc : CL ci C T N ty0) (hk : k < N) (hty : ty0 k = ty) (hfin : (T k).2.2.2 = false) (hpure : ∀ (o : β) (h1 h2 : HP), fin o h1 = fin o h2) (hw : Cond.fieldLink X.1.cls ix (T k).1 (T k).2.1 (T k).2.2.1 ∈ WS) (hd : decode X.2.1 pc = .ok (.putfield ix, 3)) (hp2 : pc + 3 = pc2) (h : Snd X fin pc2 K mc ms) : Snd X fin pc (oPut ci k ty K) mc ms := by
  subst hp2
  subst hty
  intro p l e s m args below meth c D cy A ad0 n0 mcT msT ad H locs cells slots lv st hp out lsA hs ho hl
  obtain ⟨v, a, r, fs, rfl, he, hlen, hok, ho⟩ := oPut_inv ho
  obtain ⟨Cc, G, a3, a4, a5, a6, hP, hD, hS, b1, b2, b3, b4⟩ := id hs
  refine va_put Cc.1 Cc.2.1 Cc.2.2.2.2.2.1 hc.2.1 ty0 hc.2.2.1 hc.2.2.2 Cc.2.2.2.2.1 G.1 hP hD hS a (wd_at a he) hc.1 k hk (Cc.2.2.2.2.2.1 _ hw) (fun _ h9 => h9) hfin (hc.2.2.1 k hk) (okV_ok ad hok).1 (okV_ok ad hok).2 (by rw [List.length_map]; exact hlen) hd (fun H1 locs1 hP1 hD1 hS1 => ?_)
  rw [wd_put] at hP1 hD1
  rw [hpure out hp (hp.set a (.inr (ci, fs.set k v)))]
  exact h p l e s m args below meth c D cy A ad0 n0 mcT msT ad H1 locs1 cells slots lv r _ out lsA (hs.put (List.length_set ..) hP1 hD1 hS1) ho hl
theorem s_putN {β : Type} {X : MX} {fin : β → HP → Option Value × HP} {pc : Nat} {K : KT β} {mc ms : Nat} {ix : Nat} {C host : String} {T : u_T} {N : Nat} {ty0 : Nat → FieldType} {ty : FieldType} (ci k pc2 : Nat) (hc : CL ci C T N ty0) (hk : k < N) (hty : ty0 k = ty) (hfin : (T k).2.2.2 = false) (hpure : ∀ (o : β) (h1 h2 : HP), fin o h1 = fin o h2) (hw : Cond.fieldLinkNest X.1.cls ix (T k).1 (T k).2.1 (T k).2.2.1 host ∈ nestW) (hd : decode X.2.1 pc = .ok (.putfield ix, 3)) (hp2 : pc + 3 = pc2) (h : Snd X fin pc2 K mc ms) : Snd X fin pc (oPut ci k ty K) mc ms := by
  subst hp2
  subst hty
  intro p l e s m args below meth c D cy A ad0 n0 mcT msT ad H locs cells slots lv st hp out lsA hs ho hl
  obtain ⟨v, a, r, fs, rfl, he, hlen, hok, ho⟩ := oPut_inv ho
  obtain ⟨Cc, G, a3, a4, a5, a6, hP, hD, hS, b1, b2, b3, b4⟩ := id hs
  refine va_putN Cc.1 Cc.2.1 Cc.2.2.2.2.2.1 hc.2.1 ty0 hc.2.2.1 hc.2.2.2 Cc.2.2.2.2.1 G.1 hP hD hS a (wd_at a he) hc.1 k hk (va_Nw.use rfl (G.2.1 _ hw)) (fun _ h9 => h9) hfin (hc.2.2.1 k hk) (okV_ok ad hok).1 (okV_ok ad hok).2 (by rw [List.length_map]; exact hlen) hd (fun H1 locs1 hP1 hD1 hS1 => ?_)
  rw [wd_put] at hP1 hD1
  rw [hpure out hp (hp.set a (.inr (ci, fs.set k v)))]
  exact h p l e s m args below meth c D cy A ad0 n0 mcT msT ad H1 locs1 cells slots lv r _ out lsA (hs.put (List.length_set ..) hP1 hD1 hS1) ho hl
theorem s_putF {β : Type} {X : MX} {fin : β → HP → Option Value × HP} {pc : Nat} {K : KT β} {mc ms : Nat} {ix : Nat} {C : String} {T : u_T} {N : Nat} {ty0 : Nat → FieldType} {ty : FieldType} (ci k pc2 : Nat) (hc : CL ci C T N ty0) (hk : k < N) (hty : ty0 k = ty) (hfin : (T k).2.2.2 = true) (hini : X.1.name = "<init>") (hdecl : (T k).1 = X.1.cls) (hpure : ∀ (o : β) (h1 h2 : HP), fin o h1 = fin o h2) (hw : Cond.fieldLink X.1.cls ix (T k).1 (T k).2.1 (T k).2.2.1 ∈ WS) (hd : decode X.2.1 pc = .ok (.putfield ix, 3)) (hp2 : pc + 3 = pc2) (h : Snd X fin pc2 K mc ms) : Snd X fin pc (oPut ci k ty K) mc ms := by
  subst hp2
  subst hty
  intro p l e s m args below meth c D cy A ad0 n0 mcT msT ad H locs cells slots lv st hp out lsA hs ho hl
  obtain ⟨v, a, r, fs, rfl, he, hlen, hok, ho⟩ := oPut_inv ho
  obtain ⟨Cc, G, a3, a4, a5, a6, hP, hD, hS, b1, b2, b3, b4⟩ := id hs
  refine va_putF Cc.1 Cc.2.1 Cc.2.2.2.2.2.1 hc.2.1 ty0 hc.2.2.1 hc.2.2.2 Cc.2.2.2.2.1 G.1 hP hD hS a (wd_at a he) hc.1 k hk (Cc.2.2.2.2.2.1 _ hw) (fun _ h9 => h9) hfin (Cc.2.2.2.2.2.2.2.trans hini) hdecl (hc.2.2.1 k hk) (okV_ok ad hok).1 (okV_ok ad hok).2 (by rw [List.length_map]; exact hlen) hd (fun H1 locs1 hP1 hD1 hS1 => ?_)
  rw [wd_put] at hP1 hD1
  rw [hpure out hp (hp.set a (.inr (ci, fs.set k v)))]
  exact h p l e s m args below meth c D cy A ad0 n0 mcT msT ad H1 locs1 cells slots lv r _ out lsA (hs.put (List.length_set ..) hP1 hD1 hS1) ho hl
def oIa {β : Type} (K : KT β) : KT β := fun lv st hp => match st with
  | .int i :: .ref a :: r => (match hp[a]? with
    | some (.inl (c, n, .inl f)) => (match Nat.beq c 1 with
      | true => if i < 0 ∨ n ≤ i.toNatClampNeg then none else K lv (.int (f i.toNatClampNeg) :: r) hp
      | false => none)
    | _ => none)
  | _ => none
theorem s_Ia {β : Type} {X : MX} {fin : β → HP → Option Value × HP} {pc : Nat} {K : KT β} {mc ms : Nat} (pc2 : Nat) (hd : decode X.2.1 pc = .ok (.iaload, 1)) (hp2 : pc + 1 = pc2) (h : Snd X fin pc2 K mc ms) : Snd X fin pc (oIa K) mc ms := by
  subst hp2
  refine h.rowH ?_
  intro lv st hp out ho
  unfold oIa at ho
  split at ho
  · split at ho
    · split at ho
      · split at ho
        · cases ho
        · rename_i i a r _ c0 n f he _ hb hin
          have hc := Nat.eq_of_beq_eq_true hb
          subst hc
          refine ⟨_, ho, fun p l e s m args below meth c D cy A H locs cells slots Q ad0 ad lsA Cc G hP ww => ?_⟩
          have hee := wd_at (cy := cy) (ad := ad) a he
          exact va_iald Cc.1 Cc.2.1 G.1 hP a 1 hee rfl hin hd ww
      · cases ho
    · cases ho
  · cases ho
def oBa {β : Type} (K : KT β) : KT β := fun lv st hp => match st with
  | .int i :: .ref a :: r => (match hp[a]? with
    | some (.inl (c, n, .inl f)) => (match Nat.beq c 0 with
      | true => if i < 0 ∨ n ≤ i.toNatClampNeg then none else K lv (.int (f i.toNatClampNeg) :: r) hp
      | false => none)
    | _ => none)
  | _ => none
theorem s_Ba {β : Type} {X : MX} {fin : β → HP → Option Value × HP} {pc : Nat} {K : KT β} {mc ms : Nat} (pc2 : Nat) (hd : decode X.2.1 pc = .ok (.baload, 1)) (hp2 : pc + 1 = pc2) (h : Snd X fin pc2 K mc ms) : Snd X fin pc (oBa K) mc ms := by
  subst hp2
  refine h.rowH ?_
  intro lv st hp out ho
  unfold oBa at ho
  split at ho
  · split at ho
    · split at ho
      · split at ho
        · cases ho
        · rename_i i a r _ c0 n f he _ hb hin
          have hc := Nat.eq_of_beq_eq_true hb
          subst hc
          refine ⟨_, ho, fun p l e s m args below meth c D cy A H locs cells slots Q ad0 ad lsA Cc G hP ww => ?_⟩
          have hee := wd_at (cy := cy) (ad := ad) a he
          exact va_bald Cc.1 Cc.2.1 G.1 hP a 0 hee rfl hin hd ww
      · cases ho
    · cases ho
  · cases ho
def oJa {β : Type} (K : KT β) : KT β := fun lv st hp => match st with
  | .int i :: .ref a :: r => (match hp[a]? with
    | some (.inl (c, n, .inr (.inl f))) => (match Nat.beq c 2 with
      | true => if i < 0 ∨ n ≤ i.toNatClampNeg then none else K lv (.long (f i.toNatClampNeg) :: r) hp
      | false => none)
    | _ => none)
  | _ => none
theorem s_Ja {β : Type} {X : MX} {fin : β → HP → Option Value × HP} {pc : Nat} {K : KT β} {mc ms : Nat} (pc2 : Nat) (hd : decode X.2.1 pc = .ok (.laload, 1)) (hp2 : pc + 1 = pc2) (h : Snd X fin pc2 K mc ms) : Snd X fin pc (oJa K) mc ms := by
  subst hp2
  refine h.rowH ?_
  intro lv st hp out ho
  unfold oJa at ho
  split at ho
  · split at ho
    · split at ho
      · split at ho
        · cases ho
        · rename_i i a r _ c0 n f he _ hb hin
          have hc := Nat.eq_of_beq_eq_true hb
          subst hc
          refine ⟨_, ho, fun p l e s m args below meth c D cy A H locs cells slots Q ad0 ad lsA Cc G hP ww => ?_⟩
          have hee := wd_at (cy := cy) (ad := ad) a he
          exact va_lald Cc.1 Cc.2.1 G.1 hP a 2 hee rfl hin hd ww
      · cases ho
    · cases ho
  · cases ho
def vrf (r : Option Nat) : Value := match r with
  | some a => .ref a
  | none => .null
theorem vrf_rv (ad : Nat → Nat) (r : Option Nat) : va_rf (r.map ad) = rv ad (vrf r) := by cases r <;> rfl
def oQa {β : Type} (K : KT β) : KT β := fun lv st hp => match st with
  | .int i :: .ref a :: r => (match hp[a]? with
    | some (.inl (c, n, .inr (.inr (.inr (.inr f))))) => (match Nat.beq c 3 with
      | true => if i < 0 ∨ n ≤ i.toNatClampNeg then none else K lv (vrf (f i.toNatClampNeg) :: r) hp
      | false => none)
    | _ => none)
  | _ => none
theorem s_Qa {β : Type} {X : MX} {fin : β → HP → Option Value × HP} {pc : Nat} {K : KT β} {mc ms : Nat} (pc2 : Nat) (hd : decode X.2.1 pc = .ok (.aaload, 1)) (hp2 : pc + 1 = pc2) (h : Snd X fin pc2 K mc ms) : Snd X fin pc (oQa K) mc ms := by
  subst hp2
  refine h.rowH ?_
  intro lv st hp out ho
  unfold oQa at ho
  split at ho
  · split at ho
    · split at ho
      · split at ho
        · cases ho
        · rename_i i a r _ c0 n f he _ hb hin
          have hc := Nat.eq_of_beq_eq_true hb
          subst hc
          refine ⟨_, ho, fun p l e s m args below meth c D cy A H locs cells slots Q ad0 ad lsA Cc G hP ww => ?_⟩
          have hee := wd_at (cy := cy) (ad := ad) a he
          have hi2 : i.toNatClampNeg < n := by
            rcases Nat.lt_or_ge i.toNatClampNeg n with q | q
            · exact q
            · exact absurd (Or.inr q) hin
          refine va_aldq Cc.1 Cc.2.1 G.1 hP a 3 hee rfl hin hd ?_
          rw [if_pos hi2, vrf_rv]
          exact ww
      · cases ho
    · cases ho
  · cases ho
def oIw {β : Type} (K : KT β) : KT β := fun lv st hp => match st with
  | .int x :: .int i :: .ref a :: r => (match hp[a]? with
    | some (.inl (c, n, .inl f)) => (match Nat.beq c 1 with
      | true => if i < 0 ∨ n ≤ i.toNatClampNeg then none else K lv r (hp.set a (.inl (1, n, .inl (upd f i.toNatClampNeg x))))
      | false => none)
    | _ => none)
  | _ => none
theorem s_Iw {β : Type} {X : MX} {fin : β → HP → Option Value × HP} {pc : Nat} {K : KT β} {mc ms : Nat} (pc2 : Nat) (hpure : ∀ (o : β) (h1 h2 : HP), fin o h1 = fin o h2) (hd : decode X.2.1 pc = .ok (.iastore, 1)) (hp2 : pc + 1 = pc2) (h : Snd X fin pc2 K mc ms) : Snd X fin pc (oIw K) mc ms := by
  subst hp2
  intro p l e s m args below meth c D cy A ad0 n0 mcT msT ad H locs cells slots lv st hp out lsA hs ho hl
  unfold oIw at ho
  split at ho
  · split at ho
    · split at ho
      · split at ho
        · cases ho
        · rename_i x i a r _ c0 n f he _ hb hin
          have hc := Nat.eq_of_beq_eq_true hb
          subst hc
          obtain ⟨Cc, G, a3, a4, a5, a6, hP, hD, hS, b1, b2, b3, b4⟩ := id hs
          have hee := wd_at (cy := cy) (ad := ad) a he
          refine va_iast Cc.1 Cc.2.1 G.1 hP hD hS a 1 hee rfl hin hd (fun H1 locs1 hP1 hD1 hS1 => ?_)
          have hws : (wd cy ad hp).set a (ad a, .inl (cy 1, n, .inl (upd f i.toNatClampNeg x))) = wd cy ad (hp.set a (.inl (1, n, .inl (upd f i.toNatClampNeg x)))) := by rw [wd_set]; rfl
          rw [hws] at hP1 hD1
          rw [hpure out hp (hp.set a (.inl (1, n, .inl (upd f i.toNatClampNeg x))))]
          exact h p l e s m args below meth c D cy A ad0 n0 mcT msT ad H1 locs1 cells slots lv r _ out lsA (hs.put (List.length_set ..) hP1 hD1 hS1) ho hl
      · cases ho
    · cases ho
  · cases ho
def oBw {β : Type} (K : KT β) : KT β := fun lv st hp => match st with
  | .int x :: .int i :: .ref a :: r => (match hp[a]? with
    | some (.inl (c, n, .inl f)) => (match Nat.beq c 0 with
      | true => if i < 0 ∨ n ≤ i.toNatClampNeg then none else K lv r (hp.set a (.inl (0, n, .inl (upd f i.toNatClampNeg (vp_nar .byte x)))))
      | false => none)
    | _ => none)
  | _ => none
theorem s_Bw {β : Type} {X : MX} {fin : β → HP → Option Value × HP} {pc : Nat} {K : KT β} {mc ms : Nat} (pc2 : Nat) (hpure : ∀ (o : β) (h1 h2 : HP), fin o h1 = fin o h2) (hd : decode X.2.1 pc = .ok (.bastore, 1)) (hp2 : pc + 1 = pc2) (h : Snd X fin pc2 K mc ms) : Snd X fin pc (oBw K) mc ms := by
  subst hp2
  intro p l e s m args below meth c D cy A ad0 n0 mcT msT ad H locs cells slots lv st hp out lsA hs ho hl
  unfold oBw at ho
  split at ho
  · split at ho
    · split at ho
      · split at ho
        · cases ho
        · rename_i x i a r _ c0 n f he _ hb hin
          have hc := Nat.eq_of_beq_eq_true hb
          subst hc
          obtain ⟨Cc, G, a3, a4, a5, a6, hP, hD, hS, b1, b2, b3, b4⟩ := id hs
          have hee := wd_at (cy := cy) (ad := ad) a he
          refine va_bast Cc.1 Cc.2.1 G.1 hP hD hS a 0 hee rfl hin hd (fun H1 locs1 hP1 hD1 hS1 => ?_)
          have hws : (wd cy ad hp).set a (ad a, .inl (cy 0, n, .inl (upd f i.toNatClampNeg (vp_nar .byte x)))) = wd cy ad (hp.set a (.inl (0, n, .inl (upd f i.toNatClampNeg (vp_nar .byte x))))) := by rw [wd_set]; rfl
          rw [hws] at hP1 hD1
          rw [hpure out hp (hp.set a (.inl (0, n, .inl (upd f i.toNatClampNeg (vp_nar .byte x)))))]
          exact h p l e s m args below meth c D cy A ad0 n0 mcT msT ad H1 locs1 cells slots lv r _ out lsA (hs.put (List.length_set ..) hP1 hD1 hS1) ho hl
      · cases ho
    · cases ho
  · cases ho
def oJw {β : Type} (K : KT β) : KT β := fun lv st hp => match st with
  | .long x :: .int i :: .ref a :: r => (match hp[a]? with
    | some (.inl (c, n, .inr (.inl f))) => (match Nat.beq c 2 with
      | true => if i < 0 ∨ n ≤ i.toNatClampNeg then none else K lv r (hp.set a (.inl (2, n, .inr (.inl (vp_updL f i.toNatClampNeg x)))))
      | false => none)
    | _ => none)
  | _ => none
theorem s_Jw {β : Type} {X : MX} {fin : β → HP → Option Value × HP} {pc : Nat} {K : KT β} {mc ms : Nat} (pc2 : Nat) (hpure : ∀ (o : β) (h1 h2 : HP), fin o h1 = fin o h2) (hd : decode X.2.1 pc = .ok (.lastore, 1)) (hp2 : pc + 1 = pc2) (h : Snd X fin pc2 K mc ms) : Snd X fin pc (oJw K) mc ms := by
  subst hp2
  intro p l e s m args below meth c D cy A ad0 n0 mcT msT ad H locs cells slots lv st hp out lsA hs ho hl
  unfold oJw at ho
  split at ho
  · split at ho
    · split at ho
      · split at ho
        · cases ho
        · rename_i x i a r _ c0 n f he _ hb hin
          have hc := Nat.eq_of_beq_eq_true hb
          subst hc
          obtain ⟨Cc, G, a3, a4, a5, a6, hP, hD, hS, b1, b2, b3, b4⟩ := id hs
          have hee := wd_at (cy := cy) (ad := ad) a he
          refine va_last Cc.1 Cc.2.1 G.1 hP hD hS a 2 hee rfl hin hd (fun H1 locs1 hP1 hD1 hS1 => ?_)
          have hws : (wd cy ad hp).set a (ad a, .inl (cy 2, n, .inr (.inl (vp_updL f i.toNatClampNeg x)))) = wd cy ad (hp.set a (.inl (2, n, .inr (.inl (vp_updL f i.toNatClampNeg x))))) := by rw [wd_set]; rfl
          rw [hws] at hP1 hD1
          rw [hpure out hp (hp.set a (.inl (2, n, .inr (.inl (vp_updL f i.toNatClampNeg x)))))]
          exact h p l e s m args below meth c D cy A ad0 n0 mcT msT ad H1 locs1 cells slots lv r _ out lsA (hs.put (List.length_set ..) hP1 hD1 hS1) ho hl
      · cases ho
    · cases ho
  · cases ho
def oLen {β : Type} (K : KT β) : KT β := fun lv st hp => match st with
  | .ref a :: r => (match hp[a]? with
    | some (.inl (c, n, f)) => (match Nat.blt c 4 with
      | true => K lv (.int (Int32.ofNat n) :: r) hp
      | false => none)
    | _ => none)
  | _ => none
theorem re_arr (cy : Nat → ClassId) (ad : Nat → Nat) (c n : Nat) (f : (Nat → Int32) ⊕ (Nat → Int64) ⊕ (Nat → UInt32) ⊕ (Nat → UInt64) ⊕ (Nat → Option Nat)) : ∃ g, re cy ad (.inl (c, n, f)) = .inl (cy c, n, g) := by
  rcases f with f | f | f | f | f <;> exact ⟨_, rfl⟩
theorem tysOf_at (cy : Nat → ClassId) {c : Nat} (h : c < 4) : ∃ ty, (tysOf cy)[c]? = some (cy c, ty) := by
  rcases (show c = 0 ∨ c = 1 ∨ c = 2 ∨ c = 3 by omega) with rfl | rfl | rfl | rfl <;> exact ⟨_, rfl⟩
theorem s_len {β : Type} {X : MX} {fin : β → HP → Option Value × HP} {pc : Nat} {K : KT β} {mc ms : Nat} (pc2 : Nat) (hd : decode X.2.1 pc = .ok (.arraylength, 1)) (hp2 : pc + 1 = pc2) (h : Snd X fin pc2 K mc ms) : Snd X fin pc (oLen K) mc ms := by
  subst hp2
  refine h.rowH ?_
  intro lv st hp out ho
  unfold oLen at ho
  split at ho
  · split at ho
    · split at ho
      · rename_i a r _ c0 n f he _ hb
        have hc := Nat.blt_eq.mp hb
        refine ⟨_, ho, fun p l e s m args below meth c D cy A H locs cells slots Q ad0 ad lsA Cc G hP ww => ?_⟩
        have hee := wd_at (cy := cy) (ad := ad) a he
        obtain ⟨g, hg⟩ := re_arr cy ad c0 n f
        obtain ⟨ty, hty⟩ := tysOf_at cy hc
        rw [hg] at hee
        exact va_alen Cc.1 Cc.2.1 G.1 hP a c0 hee hty (v := Int32.ofNat n) rfl hd ww
      · cases ho
    · cases ho
  · cases ho
/-! Ends. -/
def b2i (b : Bool) : Int32 := match b with
  | true => 1
  | false => 0
def zb (x : Int32) : Option Bool := if x = 0 then some false else if x = 1 then some true else none
theorem zb_b2i (b : Bool) : zb (b2i b) = some b := by cases b <;> decide
theorem zb_inv {x : Int32} {b : Bool} (h : zb x = some b) : x = b2i b := by
  unfold zb at h
  split at h
  · rename_i hx; cases h; exact hx
  · split at h
    · rename_i hx; cases h; exact hx
    · cases h
abbrev fI (x : Int32) (hp : HP) : Option Value × HP := (some (.int x), hp)
abbrev fZ (b : Bool) (hp : HP) : Option Value × HP := (some (.int (b2i b)), hp)
abbrev fL (x : Int64) (hp : HP) : Option Value × HP := (some (.long x), hp)
abbrev fA (a : Nat) (hp : HP) : Option Value × HP := (some (.ref a), hp)
abbrev fIH (o : Int32 × HP) (_ : HP) : Option Value × HP := (some (.int o.1), o.2)
abbrev fZH (o : Bool × HP) (_ : HP) : Option Value × HP := (some (.int (b2i o.1)), o.2)
abbrev fLH (o : Int64 × HP) (_ : HP) : Option Value × HP := (some (.long o.1), o.2)
abbrev fVH (o : HP) (_ : HP) : Option Value × HP := (none, o)
theorem pIH (o : Int32 × HP) (h1 h2 : HP) : fIH o h1 = fIH o h2 := rfl
theorem pZH (o : Bool × HP) (h1 h2 : HP) : fZH o h1 = fZH o h2 := rfl
theorem pLH (o : Int64 × HP) (h1 h2 : HP) : fLH o h1 = fLH o h2 := rfl
theorem pVH (o : HP) (h1 h2 : HP) : fVH o h1 = fVH o h2 := rfl
theorem Snd.fin {β : Type} {X : MX} {fin : β → HP → Option Value × HP} {pc : Nat} {k : KT β} {mc ms : Nat}
    (hk : ∀ (lv : LV) (st : List Value) (hp : HP) (out : β), k lv st hp = some out → (fin out hp).2 = hp ∧
      ∀ (p : Program) (l : Launch) (e : Env) (s : State) (m : MethodId) (args : Array Value) (below : List Frame) (meth : Method) (c : Code) (H : Heap) (locs : List Loc) (cells slots : Nat) (ad : Nat → Nat) (lsA : Array Slot) (Qc : Array Value → State → Outcome → State → Prop) (A : Nat → Prop),
        Cx X p s m args meth c → (∀ t : State, t.heap = H → s.WarmedH t.vm → Qc args s (.returned ((fin out hp).1.map (rv ad))) t) → (∀ q ∈ locs, A q.base) → W p l e X.2.2.2.2.2 s m args below meth c H locs cells slots (MQ below Qc args s cells slots A) (F0 m pc lsA (st.map (rv ad)))) :
    Snd X fin pc k mc ms := by
  intro p l e s m args below meth c D cy A ad0 n0 mcT msT ad H locs cells slots lv st hp out lsA hs ho hl
  obtain ⟨Cc, G, a3, a4, a5, a6, hP, hD, hS, b1, b2, b3, b4⟩ := id hs
  obtain ⟨he, hw⟩ := hk lv st hp out ho
  refine W.widen (k := mcT) (n := msT) (by omega) (by omega) ?_
  refine hw p l e s m args below meth c H locs mcT msT ad lsA _ A Cc (fun t ht _ => ?_) hS.2.2
  refine ⟨ad, ?_, ?_, ?_, rfl, ?_, ?_, hS.F ht⟩
  · rw [he]; exact a4
  · rw [he]; exact a5
  · rw [he]; exact a6
  · rw [he, ht]; exact hP
  · rw [he]; exact hD
def oIretP : KT Int32 := fun _ st _ => match st with
  | [.int x] => some x
  | _ => none
theorem s_iretP {X : MX} {pc mc ms : Nat} (hr : X.2.2.2.1 = some .int) (hd : decode X.2.1 pc = .ok (.ireturn, 1)) : Snd X fI pc oIretP mc ms := by
  refine Snd.fin ?_
  intro lv st hp out ho
  unfold oIretP at ho
  split at ho
  · cases ho
    exact ⟨rfl, fun p l e s m args below meth c H locs cells slots ad lsA Qc A Cc hq hf => W.iret Cc.1 Cc.2.1 (Cc.2.2.1.trans hr) hq hf hd Cc.2.2.2.2.2.2.1⟩
  · cases ho
def oIretH : KT (Int32 × HP) := fun _ st hp => match st with
  | [.int x] => some (x, hp)
  | _ => none
theorem s_iretH {X : MX} {pc mc ms : Nat} (hr : X.2.2.2.1 = some .int) (hd : decode X.2.1 pc = .ok (.ireturn, 1)) : Snd X fIH pc oIretH mc ms := by
  refine Snd.fin ?_
  intro lv st hp out ho
  unfold oIretH at ho
  split at ho
  · cases ho
    exact ⟨rfl, fun p l e s m args below meth c H locs cells slots ad lsA Qc A Cc hq hf => W.iret Cc.1 Cc.2.1 (Cc.2.2.1.trans hr) hq hf hd Cc.2.2.2.2.2.2.1⟩
  · cases ho
theorem b2i_nar (b : Bool) : narrow .boolean (.int (b2i b)) = .int (b2i b) := by cases b <;> decide
def oZretP : KT Bool := fun _ st _ => match st with
  | [.int x] => zb x
  | _ => none
theorem s_zretP {X : MX} {pc mc ms : Nat} (hr : X.2.2.2.1 = some .boolean) (hd : decode X.2.1 pc = .ok (.ireturn, 1)) : Snd X fZ pc oZretP mc ms := by
  refine Snd.fin ?_
  intro lv st hp out ho
  unfold oZretP at ho
  split at ho
  · have hx := zb_inv ho
    subst hx
    exact ⟨rfl, fun p l e s m args below meth c H locs cells slots ad lsA Qc A Cc hq hf => W.zret Cc.1 Cc.2.1 (Cc.2.2.1.trans hr) (b2i_nar out) hq hf hd Cc.2.2.2.2.2.2.1⟩
  · cases ho
def oZretH : KT (Bool × HP) := fun _ st hp => match st with
  | [.int x] => (zb x).bind (fun b => some (b, hp))
  | _ => none
theorem s_zretH {X : MX} {pc mc ms : Nat} (hr : X.2.2.2.1 = some .boolean) (hd : decode X.2.1 pc = .ok (.ireturn, 1)) : Snd X fZH pc oZretH mc ms := by
  refine Snd.fin ?_
  intro lv st hp out ho
  unfold oZretH at ho
  split at ho
  · obtain ⟨b, hb, hbo⟩ := Option.bind_eq_some_iff.mp ho
    cases hbo
    have hx := zb_inv hb
    subst hx
    exact ⟨rfl, fun p l e s m args below meth c H locs cells slots ad lsA Qc A Cc hq hf => W.zret Cc.1 Cc.2.1 (Cc.2.2.1.trans hr) (b2i_nar b) hq hf hd Cc.2.2.2.2.2.2.1⟩
  · cases ho
def oLretP : KT Int64 := fun _ st _ => match st with
  | [.long x] => some x
  | _ => none
theorem s_lretP {X : MX} {pc mc ms : Nat} (hr : X.2.2.2.1 = some .long) (hd : decode X.2.1 pc = .ok (.lreturn, 1)) : Snd X fL pc oLretP mc ms := by
  refine Snd.fin ?_
  intro lv st hp out ho
  unfold oLretP at ho
  split at ho
  · cases ho
    exact ⟨rfl, fun p l e s m args below meth c H locs cells slots ad lsA Qc A Cc hq hf => W.lret Cc.1 Cc.2.1 (Cc.2.2.1.trans hr) hq hf hd Cc.2.2.2.2.2.2.1⟩
  · cases ho
def oLretH : KT (Int64 × HP) := fun _ st hp => match st with
  | [.long x] => some (x, hp)
  | _ => none
theorem s_lretH {X : MX} {pc mc ms : Nat} (hr : X.2.2.2.1 = some .long) (hd : decode X.2.1 pc = .ok (.lreturn, 1)) : Snd X fLH pc oLretH mc ms := by
  refine Snd.fin ?_
  intro lv st hp out ho
  unfold oLretH at ho
  split at ho
  · cases ho
    exact ⟨rfl, fun p l e s m args below meth c H locs cells slots ad lsA Qc A Cc hq hf => W.lret Cc.1 Cc.2.1 (Cc.2.2.1.trans hr) hq hf hd Cc.2.2.2.2.2.2.1⟩
  · cases ho
def oVretH : KT HP := fun _ st hp => match st with
  | [] => some hp
  | _ => none
theorem s_vretH {X : MX} {pc mc ms : Nat} (hr : X.2.2.2.1 = none) (hd : decode X.2.1 pc = .ok (.return_, 1)) : Snd X fVH pc oVretH mc ms := by
  refine Snd.fin ?_
  intro lv st hp out ho
  unfold oVretH at ho
  split at ho
  · cases ho
    exact ⟨rfl, fun p l e s m args below meth c H locs cells slots ad lsA Qc A Cc hq hf => W.vret Cc.1 Cc.2.1 (Cc.2.2.1.trans hr) hq hf hd Cc.2.2.2.2.2.2.1⟩
  · cases ho
def oAretP : KT Nat := fun _ st _ => match st with
  | [.ref a] => some a
  | _ => none
theorem s_aretP {X : MX} {pc mc ms : Nat} {rt : String} (hr : X.2.2.2.1 = some (.object rt)) (hd : decode X.2.1 pc = .ok (.areturn, 1)) : Snd X fA pc oAretP mc ms := by
  refine Snd.fin ?_
  intro lv st hp out ho
  unfold oAretP at ho
  split at ho
  · cases ho
    exact ⟨rfl, fun p l e s m args below meth c H locs cells slots ad lsA Qc A Cc hq hf => W.aret Cc.1 Cc.2.1 (Cc.2.2.1.trans hr) (Or.inl ⟨_, rfl⟩) (Or.inr ⟨_, rfl⟩) hq hf hd Cc.2.2.2.2.2.2.1⟩
  · cases ho
