/-! Making cells; constructors; switches. -/
def nrv (n : Nat) (v : Value) : Bool := match v with
  | .ref a => !(Nat.beq a n)
  | _ => true
def nre (n : Nat) (x : AE) : Bool := match x with
  | .inl (_, len, .inr (.inr (.inr (.inr f)))) => (List.range len).all (fun j => match f j with
    | some a => !(Nat.beq a n)
    | none => true)
  | .inl _ => true
  | .inr (_, fs) => fs.all (nrv n)
theorem nrv_ok {n : Nat} {v : Value} (h : nrv n v = true) {ad ad1 : Nat → Nat} (ha : ∀ j, j ≠ n → ad1 j = ad j) : rv ad1 v = rv ad v := by
  cases v <;> first | rfl | skip
  rename_i a
  have h2 : a ≠ n := fun e => by subst e; simp [nrv] at h
  show Value.ref (ad1 a) = Value.ref (ad a)
  rw [ha a h2]
theorem nre_ok {n : Nat} {x : AE} (h : nre n x = true) {cy : Nat → ClassId} {ad ad1 : Nat → Nat} (ha : ∀ j, j ≠ n → ad1 j = ad j) : re cy ad1 x = re cy ad x := by
  rcases x with ⟨k, len, f⟩ | ⟨c, fs⟩
  · rcases f with f | f | f | f | f <;> first | rfl | skip
    simp only [nre, List.all_eq_true, List.mem_range] at h
    simp only [re]
    congr 7
    funext j
    by_cases hj : j < len
    · rw [if_pos hj, if_pos hj]
      have h1 := h j hj
      cases hf : f j with
      | none => rfl
      | some a =>
        rw [hf] at h1
        have h2 : a ≠ n := fun e => by subst e; simp at h1
        simp only [Option.map_some]
        rw [ha a h2]
    · rw [if_neg hj, if_neg hj]
  · simp only [nre, List.all_eq_true] at h
    simp only [re]
    congr 2
    exact List.map_congr_left (fun v hv => nrv_ok (h v hv) ha)
def fresh (lv : LV) (st : List Value) (hp : HP) : Bool := Nat.blt hp.length 2000 && (lv.all (fun q => nrv hp.length q.2) && (st.all (nrv hp.length) && hp.all (nre hp.length)))
/-- a new cell at the end: one more place -/
theorem Sd.new {X : MX} {mc ms n : Nat} {p : Program} {s : State} {m : MethodId} {args : Array Value} {meth : Method} {c : Code} {D : va_G} {cy : Nat → ClassId} {A : Nat → Prop} {ad0 : Nat → Nat} {n0 mcT msT : Nat} {ad : Nat → Nat} {H H1 : Heap} {locs : List Loc} {cells slots : Nat} {hp : HP} {lv : LV} {st : List Value} {x : AE} {q : Nat}
    (h : Sd X (1 + mc) (n + ms) p s m args meth c D cy A ad0 n0 mcT msT ad H locs cells slots hp) (hfr : fresh lv st hp = true) (hx : nre hp.length x = true) (hP : va_P D vwCl (wd cy ad hp ++ [(q, re cy ad x)]) H1) (hD : va_D A (wd cy ad hp ++ [(q, re cy ad x)])) (hS : va_S A s.heap H1 locs) :
    ∃ ad1 : Nat → Nat, Sd X mc ms p s m args meth c D cy A ad0 n0 mcT msT ad1 H1 locs (cells + 1) (slots + n) (hp ++ [x]) ∧ ad1 hp.length = q ∧ rl ad1 lv = rl ad lv ∧ st.map (rv ad1) = st.map (rv ad) := by
  obtain ⟨a1, a2, a3, a4, a5, a6, -, -, -, b1, b2, b3, b4⟩ := h
  simp only [fresh, Bool.and_eq_true, List.all_eq_true, Nat.blt_eq] at hfr
  obtain ⟨f0, f1, f2, f3⟩ := hfr
  have ha : ∀ j, j ≠ hp.length → (fun j => if j = hp.length then q else ad j) j = ad j := fun j hj => if_neg hj
  have hw : wd cy (fun j => if j = hp.length then q else ad j) (hp ++ [x]) = wd cy ad hp ++ [(q, re cy ad x)] := by
    rw [wd_app]
    congr 1
    · simp only [wd]
      apply List.ext_getElem?
      intro i
      simp only [List.getElem?_mapIdx]
      cases hi : hp[i]? with
      | none => rfl
      | some y =>
        have hlt := (List.getElem?_eq_some_iff.mp hi).1
        simp only [Option.map_some]
        rw [if_neg (by omega), nre_ok (f3 y (List.mem_of_getElem? hi)) ha]
    · rw [nre_ok hx ha]
      simp
  refine ⟨fun j => if j = hp.length then q else ad j, ⟨a1, a2, a3, ?_, ?_, ?_, ?_, ?_, hS, by omega, by omega, b3, b4⟩, if_pos rfl, ?_, ?_⟩
  · rw [List.length_append]; exact Nat.le_trans a4 (Nat.le_add_right _ _)
  · rw [List.length_append]; exact f0
  · intro j hj
    rw [List.length_append] at hj
    have h1 : j ≠ hp.length := by
      intro e
      subst e
      simp only [List.length_cons, List.length_nil] at hj
      omega
    rw [ha j h1]
    simp only [List.length_cons, List.length_nil] at hj
    exact a6 j (by omega)
  · rw [hw]; exact hP
  · rw [hw]; exact hD
  · exact List.map_congr_left (fun z hz => by rw [nrv_ok (f1 z hz) ha])
  · exact List.map_congr_left (fun z hz => nrv_ok (f2 z hz) ha)
def oNew {β : Type} (ci : Nat) (fs : List Value) (K : KT β) : KT β := fun lv st hp => match fresh lv st hp && fs.all (nrv hp.length) with
  | true => K lv (.ref hp.length :: st) (hp ++ [.inr (ci, fs)])
  | false => none
theorem s_new {β : Type} {X : MX} {fin : β → HP → Option Value × HP} {pc : Nat} {K : KT β} {mc ms : Nat} {ix : Nat} {C : String} {T : u_T} {N : Nat} {ty0 : Nat → FieldType} {fs : List Value} (ci pc2 : Nat) (hc : CL ci C T N ty0) (hfs : ∀ j, j < N → defaultValue (ty0 j) = vp_V fs j) (hrf : ∀ (ad : Nat → Nat), fs.map (rv ad) = fs) (hpure : ∀ (o : β) (h1 h2 : HP), fin o h1 = fin o h2) (hw : Cond.classLink X.1.cls ix C ∈ WS) (hi : Cond.instantiable C N ∈ WS) (hn : Cond.initialized C ∈ WS) (hd : decode X.2.1 pc = .ok (.new ix, 3)) (hp2 : pc + 3 = pc2) (h : Snd X fin pc2 K mc ms) : Snd X fin pc (oNew ci fs K) (1 + mc) (N + ms) := by
  subst hp2
  intro p l e s m args below meth c D cy A ad0 n0 mcT msT ad H locs cells slots lv st hp out lsA hs ho hl
  unfold oNew at ho
  split at ho
  · rename_i hfr
    simp only [Bool.and_eq_true] at hfr
    obtain ⟨Cc, G, a3, a4, a5, a6, hP, hD, hS, b1, b2, b3, b4⟩ := id hs
    have ht := Cc.2.2.2.2.2.1
    refine va_new Cc.1 Cc.2.1 ht hc.2.1 ty0 hc.2.2.1 Cc.2.2.2.2.1 (ht _ hw) (ht _ hi) (ht _ hn) G.1 hP hD hS a3 hc.1 hfs (by omega) (by omega) hd (fun q H1 hP1 hD1 hS1 => ?_)
    have hre : re cy ad (.inr (ci, fs)) = .inr (ci, fs) := by simp only [re, hrf]
    rw [← hre] at hP1 hD1
    obtain ⟨ad1, hs1, hq, hl1, hst1⟩ := hs.new hfr.1 (x := .inr (ci, fs)) (by simpa [nre] using hfr.2) hP1 hD1 hS1
    have hr := h p l e s m args below meth c D cy A ad0 n0 mcT msT ad1 H1 locs (cells + 1) (slots + N) lv _ _ out lsA hs1 ho (by rw [hl1]; exact hl)
    rw [hpure out hp (hp ++ [.inr (ci, fs)]), ← hst1, ← hq]
    exact hr
  · cases ho
def oNar {β : Type} (kd : Nat) (z : (Nat → Int32) ⊕ (Nat → Int64) ⊕ (Nat → UInt32) ⊕ (Nat → UInt64) ⊕ (Nat → Option Nat)) (N : Nat) (K : KT β) : KT β := fun lv st hp => match st with
  | .int n :: r => (match fresh lv r hp && (!(decide (n < 0)) && Nat.beq n.toNatClampNeg N) with
    | true => K lv (.ref hp.length :: r) (hp ++ [.inl (kd, N, z)])
    | false => none)
  | _ => none
theorem s_nar {β : Type} {X : MX} {fin : β → HP → Option Value × HP} {pc : Nat} {K : KT β} {mc ms : Nat} {at0 : ArrayType} {ty : FieldType} {z : (Nat → Int32) ⊕ (Nat → Int64) ⊕ (Nat → UInt32) ⊕ (Nat → UInt64) ⊕ (Nat → Option Nat)} (kd N pc2 : Nat) (hty : newarray.typeOf at0 = ty) (hz : ∀ cA : ClassId, vp_cell cA (N, z) = arrV cA N (fun _ => defaultValue ty)) (hre : ∀ (cy : Nat → ClassId) (ad : Nat → Nat), re cy ad (.inl (kd, N, z)) = .inl (cy kd, N, z)) (hnz : ∀ j, nre j (.inl (kd, N, z)) = true) (hkd : ∀ (cy : Nat → ClassId), (tysOf cy)[kd]? = some (cy kd, ty)) (hra : ∀ (U : State) (cA : ClassId), va_RA U cA ty = (U.vm.findClass ("[" ++ ty.toString) = some cA)) (hby : N * componentBytes ty ≤ 536870912) (hpure : ∀ (o : β) (h1 h2 : HP), fin o h1 = fin o h2) (hw : Cond.arrayClass ty ∈ WS) (hd : decode X.2.1 pc = .ok (.newarray at0, 2)) (hp2 : pc + 2 = pc2) (h : Snd X fin pc2 K mc ms) : Snd X fin pc (oNar kd z N K) (1 + mc) (N + ms) := by
  subst hp2
  subst hty
  intro p l e s m args below meth c D cy A ad0 n0 mcT msT ad H locs cells slots lv st hp out lsA hs ho hl
  unfold oNar at ho
  split at ho
  · split at ho
    · rename_i n r _ hfr
      simp only [Bool.and_eq_true, Bool.not_eq_true', decide_eq_false_iff_not] at hfr
      obtain ⟨hf, hn0, hnN⟩ := hfr
      have hnN := Nat.eq_of_beq_eq_true hnN
      obtain ⟨Cc, G, a3, a4, a5, a6, hP, hD, hS, b1, b2, b3, b4⟩ := id hs
      have ht := Cc.2.2.2.2.2.1
      refine va_newa Cc.1 Cc.2.1 (ht _ hw) rfl G.1 hP hD hS a3 (a0 := (N, z)) hz hn0 hnN hby (by omega) (by omega) hd (fun q cA H1 hK1 hP1 hD1 hS1 => ?_)
      have hcA : cA = cy kd := by
        have e1 := (hK1.2 4 (cA, _) rfl).2
        have e2 := (G.1.2 kd _ (hkd cy)).2
        rw [hra] at e1 e2
        exact Option.some.inj (e1.symm.trans e2)
      subst hcA
      rw [← hre cy ad] at hP1 hD1
      obtain ⟨ad1, hs1, hq, hl1, hst1⟩ := hs.new hf (x := .inl (kd, N, z)) (hnz _) hP1 hD1 hS1
      have hr := h p l e s m args below meth c D cy A ad0 n0 mcT msT ad1 H1 locs (cells + 1) (slots + N) lv _ _ out lsA hs1 ho (by rw [hl1]; exact hl)
      rw [hpure out hp (hp ++ [.inl (kd, N, z)]), ← hst1, ← hq]
      exact hr
    · cases ho
  · cases ho
abbrev zI : (Nat → Int32) ⊕ (Nat → Int64) ⊕ (Nat → UInt32) ⊕ (Nat → UInt64) ⊕ (Nat → Option Nat) := .inl (fun _ => 0)
abbrev zJ : (Nat → Int32) ⊕ (Nat → Int64) ⊕ (Nat → UInt32) ⊕ (Nat → UInt64) ⊕ (Nat → Option Nat) := .inr (.inl (fun _ => 0))
theorem s_narI {β : Type} {X : MX} {fin : β → HP → Option Value × HP} {pc : Nat} {K : KT β} {mc ms : Nat} (N pc2 : Nat) (hby : N ≤ 100000) (hpure : ∀ (o : β) (h1 h2 : HP), fin o h1 = fin o h2) (hw : Cond.arrayClass .int ∈ WS) (hd : decode X.2.1 pc = .ok (.newarray .int, 2)) (hp2 : pc + 2 = pc2) (h : Snd X fin pc2 K mc ms) : Snd X fin pc (oNar 1 zI N K) (1 + mc) (N + ms) :=
  s_nar (at0 := .int) (ty := .int) 1 N pc2 rfl (fun _ => rfl) (fun _ _ => rfl) (fun _ => rfl) (fun _ => rfl) (fun _ _ => rfl) (by show N * 4 ≤ 536870912; omega) hpure hw hd hp2 h
theorem s_narB {β : Type} {X : MX} {fin : β → HP → Option Value × HP} {pc : Nat} {K : KT β} {mc ms : Nat} (N pc2 : Nat) (hby : N ≤ 100000) (hpure : ∀ (o : β) (h1 h2 : HP), fin o h1 = fin o h2) (hw : Cond.arrayClass .byte ∈ WS) (hd : decode X.2.1 pc = .ok (.newarray .byte, 2)) (hp2 : pc + 2 = pc2) (h : Snd X fin pc2 K mc ms) : Snd X fin pc (oNar 0 zI N K) (1 + mc) (N + ms) :=
  s_nar (at0 := .byte) (ty := .byte) 0 N pc2 rfl (fun _ => rfl) (fun _ _ => rfl) (fun _ => rfl) (fun _ => rfl) (fun _ _ => rfl) (by show N * 1 ≤ 536870912; omega) hpure hw hd hp2 h
theorem s_narJ {β : Type} {X : MX} {fin : β → HP → Option Value × HP} {pc : Nat} {K : KT β} {mc ms : Nat} (N pc2 : Nat) (hby : N ≤ 100000) (hpure : ∀ (o : β) (h1 h2 : HP), fin o h1 = fin o h2) (hw : Cond.arrayClass .long ∈ WS) (hd : decode X.2.1 pc = .ok (.newarray .long, 2)) (hp2 : pc + 2 = pc2) (h : Snd X fin pc2 K mc ms) : Snd X fin pc (oNar 2 zJ N K) (1 + mc) (N + ms) :=
  s_nar (at0 := .long) (ty := .long) 2 N pc2 rfl (fun _ => rfl) (fun _ _ => rfl) (fun _ => rfl) (fun _ => rfl) (fun _ _ => rfl) (by show N * 8 ≤ 536870912; omega) hpure hw hd hp2 h
def oPopA {β : Type} (K : KT β) : KT β := fun lv st hp => match st with
  | .ref _ :: r => (match Nat.ble (catsum r) 8 with
    | true => K lv r hp
    | false => none)
  | _ => none
theorem s_objI {β : Type} {X : MX} {fin : β → HP → Option Value × HP} {pc : Nat} {K : KT β} {mc ms : Nat} {ix : Nat} (pc2 : Nat) (hw : Cond.methodLink X.1.cls ix Lib.objectInit ∈ WS) (hi : Cond.instanceMethod Lib.objectInit ∈ WS) (hcd : Cond.code Lib.objectInit ⟨#[0xb1]⟩ 1 none ∈ WS) (hf : 1 ≤ X.2.2.2.2.2.frames) (hlc : 20 ≤ X.2.2.2.2.2.locals) (hd : decode X.2.1 pc = .ok (.invokespecial ix, 3)) (hp2 : pc + 3 = pc2) (h : Snd X fin pc2 K mc ms) : Snd X fin pc (oPopA K) mc ms := by
  subst hp2
  refine h.row ?_
  intro lv st hp out ho
  unfold oPopA at ho
  split at ho
  · split at ho
    · rename_i a r _ hc
      have hc := Nat.le_of_ble_eq_true hc
      refine ⟨_, ho, fun p l e s m args below meth c H locs cells slots Q ad lsA Cc hl w => ?_⟩
      have ht := Cc.2.2.2.2.2.1
      have hroom := lv_room (m := m) (pc := pc) (ls := lsA) (rest := (Value.ref a :: r).map (rv ad)) (st := r.map (rv ad)) (by rw [rv_catsum]; exact hc)
      exact W.objInit Cc.1 Cc.2.1 Cc.2.2.2.2.1 (ht _ hw) (ht _ hi) (ht _ hcd) rfl (hl.1.trans Cc.2.2.2.1.symm) rfl hd hf (by omega) w
    · cases ho
  · cases ho
theorem run_I {X Y : MX} {pc n mc ms ix : Nat} (ci : Nat) (h99 : Nat.beq ci 99 = false) (hy : YO Y n mc ms) (hnm : Y.1.name = "<init>") (hret : Y.2.2.2.1 = none) (hl : Cond.methodLink X.1.cls ix Y.1 ∈ WS) (hi : Cond.instanceMethod Y.1 ∈ WS) (hR : Y.2.2.2.2.2.frames + 1 ≤ X.2.2.2.2.2.frames ∧ 8 + (Y.2.2.1 + 11) + Y.2.2.2.2.2.locals ≤ X.2.2.2.2.2.locals) (hd : decode X.2.1 pc = .ok (.invokespecial ix, 3)) : RunOK X pc (n + 1) (some ci) Y mc ms := by
  intro p l e s m args below meth c D cy A ad0 ad H locs cells slots lsA av rest hp Pc Qc free Cc G hls hSs hads hrc hP hav hM hbl hpre hcs hm1 hm2
  obtain ⟨b, As, fs, rfl, he⟩ := recv_inv h99 hrc
  obtain ⟨y1, y2, y3, y4, y5, y6⟩ := hy
  rw [hret] at y1 y2
  have ht := Cc.2.2.2.2.2.1
  have hB := callB_of (R := X.2.2.2.2.2) (own := X.1.cls) (index := ix) (rm := Y.2.2.2.2.2) n ht (by rw [y2]; exact ws_good0 y1) y2 y5 y6 (ht _ y3) (ht _ hl) y4 hR
  have hr := va_runI (b := ad b) (As := As.map (rv ad)) (rest := rest.map (rv ad)) (H := H) (locs := locs) (cells := cells) (slots := slots) (meth := meth) (below := below) (e := e) (Ts := WS) ⟨Cc.1, Cc.2.1, Cc.2.2.2.1, Cc.2.2.2.2.1, ht⟩ hM ⟨hB, hnm, ht _ hi⟩ ⟨hbl, hpre⟩ (g := F0 m pc lsA (((Value.ref b :: As).map (rv ad)).reverse ++ rest.map (rv ad))) rfl (by rw [List.length_map]; simpa using hav) hls (by simp [rv]) (lv_room (by rw [rv_catsum]; exact hcs)) hd ⟨hm1, hm2⟩
  exact hr
theorem run_IN {X Y : MX} {pc n mc ms ix : Nat} {host : String} (ci : Nat) (h99 : Nat.beq ci 99 = false) (hy : YO Y n mc ms) (hnm : Y.1.name = "<init>") (hret : Y.2.2.2.1 = none) (hl : Cond.methodLinkNest X.1.cls ix Y.1 host ∈ nestW) (hi : Cond.instanceMethod Y.1 ∈ WS) (hR : Y.2.2.2.2.2.frames + 1 ≤ X.2.2.2.2.2.frames ∧ 8 + (Y.2.2.1 + 11) + Y.2.2.2.2.2.locals ≤ X.2.2.2.2.2.locals) (hd : decode X.2.1 pc = .ok (.invokespecial ix, 3)) : RunOK X pc (n + 1) (some ci) Y mc ms := by
  intro p l e s m args below meth c D cy A ad0 ad H locs cells slots lsA av rest hp Pc Qc free Cc G hls hSs hads hrc hP hav hM hbl hpre hcs hm1 hm2
  obtain ⟨b, As, fs, rfl, he⟩ := recv_inv h99 hrc
  have ht := Cc.2.2.2.2.2.1
  have hcn := cn_of (X := X) ht hy (G.2.1 _ hl) hR
  rw [hret] at hcn
  have hr := va_runIN (b := ad b) (As := As.map (rv ad)) (rest := rest.map (rv ad)) (H := H) (locs := locs) (cells := cells) (slots := slots) (meth := meth) (below := below) (e := e) (Ts := WS) ⟨Cc.1, Cc.2.1, Cc.2.2.2.1, Cc.2.2.2.2.1, ht⟩ hM ⟨hcn, hnm, ht _ hi⟩ ⟨hbl, hpre⟩ (g := F0 m pc lsA (((Value.ref b :: As).map (rv ad)).reverse ++ rest.map (rv ad))) rfl (by rw [List.length_map]; simpa using hav) hls (by simp [rv]) (lv_room (by rw [rv_catsum]; exact hcs)) hd ⟨hm1, hm2⟩
  exact hr
/-- a switch over a row of numbers -/
def tabK {β : Type} (lo : Int32) (ks : List (KT β)) (kd : KT β) (x : Int32) (lv : LV) (st : List Value) (hp : HP) : Option β := match ks with
  | [] => kd lv st hp
  | k :: ks => if x = lo then k lv st hp else tabK (lo + 1) ks kd x lv st hp
def oTab {β : Type} (lo : Int32) (ks : List (KT β)) (kd : KT β) : KT β := fun lv st hp => match st with
  | .int x :: r => tabK lo ks kd x lv r hp
  | _ => none
theorem tabK_in {β : Type} (kd : KT β) (x : Int32) (lv : LV) (st : List Value) (hp : HP) : ∀ (ks : List (KT β)) (lo : Int32), lo.toInt + ks.length < 2 ^ 31 → lo.toInt ≤ x.toInt → x.toInt < lo.toInt + ks.length → ∃ k, ks[(x.toInt - lo.toInt).toNat]? = some k ∧ tabK lo ks kd x lv st hp = k lv st hp := by
  intro ks
  induction ks with
  | nil => intro lo _ h1 h2; simp at h2; omega
  | cons k ks ih =>
    intro lo h0 h1 h2
    simp only [List.length_cons] at h0 h2
    unfold tabK
    by_cases he : x = lo
    · subst he
      exact ⟨k, by simp, if_pos rfl⟩
    · have hne : x.toInt ≠ lo.toInt := fun e => he (Int32.toInt_inj.mp e)
      have hl1 : (lo + 1).toInt = lo.toInt + 1 := by
        rw [Int32.toInt_add]
        have h3 := Int32.le_toInt lo
        show (lo.toInt + 1).bmod (2 ^ 32) = lo.toInt + 1
        rw [Int.bmod_eq_of_le] <;> omega
      obtain ⟨k2, g1, g2⟩ := ih (lo + 1) (by rw [hl1]; omega) (by rw [hl1]; omega) (by rw [hl1]; omega)
      refine ⟨k2, ?_, ?_⟩
      · rw [hl1] at g1
        rw [show (x.toInt - lo.toInt).toNat = (x.toInt - (lo.toInt + 1)).toNat + 1 by omega]
        exact g1
      · rw [if_neg he]; exact g2
theorem tabK_out {β : Type} (kd : KT β) (x : Int32) (lv : LV) (st : List Value) (hp : HP) : ∀ (ks : List (KT β)) (lo : Int32), lo.toInt + ks.length < 2 ^ 31 → (x.toInt < lo.toInt ∨ lo.toInt + ks.length ≤ x.toInt) → tabK lo ks kd x lv st hp = kd lv st hp := by
  intro ks
  induction ks with
  | nil => intro lo _ _; rfl
  | cons k ks ih =>
    intro lo h0 h1
    simp only [List.length_cons] at h0 h1
    unfold tabK
    have hne : x ≠ lo := fun e => by subst e; omega
    have hl1 : (lo + 1).toInt = lo.toInt + 1 := by
      rw [Int32.toInt_add]
      have h3 := Int32.le_toInt lo
      show (lo.toInt + 1).bmod (2 ^ 32) = lo.toInt + 1
      rw [Int.bmod_eq_of_le] <;> omega
    rw [if_neg hne]
    exact ih (lo + 1) (by rw [hl1]; omega) (by rw [hl1]; omega)
def Sall {β : Type} (X : MX) (fin : β → HP → Option Value × HP) (mc ms : Nat) (tg : List Nat) (ks : List (KT β)) : Prop := ∀ (i t : Nat) (k : KT β), tg[i]? = some t → ks[i]? = some k → Snd X fin t k mc ms
theorem Sall_nil {β : Type} {X : MX} {fin : β → HP → Option Value × HP} {mc ms : Nat} {tg : List Nat} : Sall (β := β) X fin mc ms tg [] := by
  intro i t k _ h
  simp at h
theorem Sall_cons {β : Type} {X : MX} {fin : β → HP → Option Value × HP} {mc ms t : Nat} {tg : List Nat} {k : KT β} {ks : List (KT β)} (h1 : Snd X fin t k mc ms) (h2 : Sall X fin mc ms tg ks) : Sall X fin mc ms (t :: tg) (k :: ks) := by
  intro i t2 k2 a b
  cases i with
  | zero => simp at a b; subst a; subst b; exact h1
  | succ i => simp at a b; exact h2 i t2 k2 a b
theorem s_tab {β : Type} {X : MX} {fin : β → HP → Option Value × HP} {pc : Nat} {kd : KT β} {ks : List (KT β)} {mc ms len : Nat} {dflt : Int} {offs : Array Int} (lo hi : Int) (lo2 : Int32) (tg : List Nat) (df : Nat) (hd : decode X.2.1 pc = .ok (.tableswitch dflt lo hi offs, len)) (hln : tg.length = ks.length) (hlo : lo2.toInt = lo) (hhi : hi + 1 = lo + ks.length) (hsm : lo + ks.length < 2 ^ 31) (htg : offs.toList.map (fun o => (pc : Int) + o) = tg.map (fun t => Int.ofNat t)) (hdf : (pc : Int) + dflt = (df : Int)) (h1 : Snd X fin df kd mc ms) (h2 : Sall X fin mc ms tg ks) : Snd X fin pc (oTab lo2 ks kd) mc ms := by
  subst hlo
  intro p l e s m args below meth c D cy A ad0 n0 mcT msT ad H locs cells slots lv st hp out lsA hs ho hl
  unfold oTab at ho
  split at ho
  · rename_i x r
    have Cc := hs.1
    by_cases hx : x.toInt < lo2.toInt ∨ hi < x.toInt
    · rw [tabK_out kd x lv r hp ks lo2 hsm (by omega)] at ho
      exact lv_tableOut Cc.1 Cc.2.1 hd hx hdf (h1 p l e s m args below meth c D cy A ad0 n0 mcT msT ad H locs cells slots lv r hp out lsA hs ho hl)
    · obtain ⟨k, hk, hkk⟩ := tabK_in kd x lv r hp ks lo2 hsm (by omega) (by omega)
      rw [hkk] at ho
      have hlt := (List.getElem?_eq_some_iff.mp hk).1
      have hlen : offs.toList.length = tg.length := by
        have := congrArg List.length htg
        simpa using this
      cases ho1 : offs.toList[(x.toInt - lo2.toInt).toNat]? with
      | none =>
        exfalso
        have h5 := List.getElem?_eq_none_iff.mp ho1
        omega
      | some off =>
        have h7 : (offs.toList.map (fun o => (pc : Int) + o))[(x.toInt - lo2.toInt).toNat]? = some ((pc : Int) + off) := by rw [List.getElem?_map, ho1]; rfl
        rw [htg, List.getElem?_map] at h7
        cases ht : tg[(x.toInt - lo2.toInt).toNat]? with
        | none => rw [ht] at h7; cases h7
        | some t =>
          rw [ht] at h7
          have h8 : (t : Int) = (pc : Int) + off := Option.some.inj h7
          exact lv_tableIn Cc.1 Cc.2.1 hd (by omega) (by omega) (by rw [← Array.getElem?_toList]; exact ho1) h8.symm (h2 _ t k ht hk p l e s m args below meth c D cy A ad0 n0 mcT msT ad H locs cells slots lv r hp out lsA hs ho hl)
  · cases ho
