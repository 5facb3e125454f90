/-! Calls. -/
def isNest (w : Cond) : Bool := match w with
  | .fieldLinkNest .. => true
  | .methodLinkNest .. => true
  | _ => false
theorem nest_all : nestW.all isNest = true := by decide +kernel
theorem nest_warm {s U : State} (hW : s.WarmedH U.vm) (h : ∀ w ∈ nestW, va_Nw w s) : ∀ w ∈ nestW, va_Nw w U := by
  intro w hw
  have h1 := List.all_eq_true.mp nest_all w hw
  have h2 := h w hw
  cases w <;> first | exact va_Nw.warmF hW h2 | exact va_Nw.warmM hW h2 | cases h1
theorem nest_same {s U : State} (hv : s.vm = U.vm) (h : ∀ w ∈ nestW, va_Nw w s) : ∀ w ∈ nestW, va_Nw w U := by
  intro w hw
  have h1 := List.all_eq_true.mp nest_all w hw
  have h2 := h w hw
  cases w <;> first | exact va_Nw.same rfl hv h2 | cases h1
theorem cyOK.moved {cy : Nat → ClassId} {u U : State} (hvm : u.vm.Alike U.vm) (h : cyOK cy u) : cyOK cy U := by
  obtain ⟨a1, a2, a3, a4, a5⟩ := h
  exact ⟨by rw [hvm.findClass]; exact a1, by rw [hvm.findClass]; exact a2, by rw [hvm.findClass]; exact a3, by rw [hvm.findClass]; exact a4, va_AO.moved hvm a5⟩
theorem GS.call {D : va_G} {cy : Nat → ClassId} {A A1 : Nat → Prop} {ad0 ad : Nat → Nat} {s U : State} {H : Heap} {locs : List Loc} (G : GS D cy A ad0 s s.heap) (hS : va_S A s.heap H locs) (hA : ∀ q, A1 q → A q) (hd : ∀ n, 2000 ≤ n → ad n = ad0 n) (hU : U.heap = H) (hW : s.WarmedH U.vm) : GS D cy A1 ad U U.heap := by
  obtain ⟨hK, hN, hC, hv, hR, hZ, hY⟩ := G
  have he : (fun i => ad (2000 + i)) = (fun i => ad0 (2000 + i)) := funext fun i => hd _ (by omega)
  have he3 : (fun i => ad (3000 + i)) = (fun i => ad0 (3000 + i)) := funext fun i => hd _ (by omega)
  refine ⟨va_K.moved hW.alike hK, nest_warm hW hN, hC.moved hW.alike, ?_, ?_, ?_, ?_⟩
  · rw [he, he3, hU]
    exact ((hv.kept hS.2.1).moved hW.alike).narrow hA
  · intro q hq
    rw [hd _ (by omega)]
    exact (hR q hq).warm hW
  · rw [hU]
    exact ((hZ.kept hS.2.1).moved hW.alike).narrow hA
  · rw [hU, hd _ (by omega)]
    exact hY.imp (fun h => ((h.kept hS.2.1).moved hW.alike).narrow hA) (fun h => ((h.kept hS.2.1).moved hW.alike).narrow hA)
theorem GS.blind {D : va_G} {cy : Nat → ClassId} {A : Nat → Prop} {ad : Nat → Nat} {U : State} {g : JFrame} {mk : MethodId} {a : Array Value} (G : GS D cy A ad U U.heap) : GS D cy A ad (U.calling g mk a) (U.calling g mk a).heap := by
  obtain ⟨hK, hN, hC, hv, hR, hZ, hY⟩ := G
  have hal : U.vm.Alike (U.calling g mk a).vm := Vm.Alike.refl U.vm
  exact ⟨va_K.moved hal hK, nest_same (s := U) rfl hN, hC.moved hal, hv.moved hal, fun q hq => (hR q hq).same rfl, hZ.moved hal, hY.imp (fun h => h.moved hal) (fun h => h.moved hal)⟩
/-- a method as a function: its contract -/
def CM {β : Type} (Y : MX) (f : List Value → HP → Option β) (fin : β → HP → Option Value × HP) (mc ms : Nat) : Prop :=
  ∀ (l : Launch) (D : va_G) (cy : Nat → ClassId) (ad : Nat → Nat) (sz : Nat) (av : List Value) (hp : HP) (out : β), f av hp = some out →
    Met l Y.1 Y.2.2.2.2.1 Y.2.2.2.2.2 (va_Pc (av.map (rv ad)) (fun U => U.heap.size = sz ∧ hp.length ≤ 2000 ∧ va_P D vwCl (wd cy ad hp) U.heap ∧ va_D (fun _ => True) (wd cy ad hp) ∧ GS D cy (va_A (wd cy ad hp) sz) ad U U.heap))
      (QF D cy (va_A (wd cy ad hp) sz) ad hp.length (fin out hp)) mc ms (va_A (wd cy ad hp) sz)
def en {β : Type} (nL : Nat) (k : KT β) (av : List Value) (hp : HP) : Option β := match Nat.ble (lg_sl av).length nL with
  | true => k (lv_args 0 av) [] hp
  | false => none
theorem rl_args (ad : Nat → Nat) (av : List Value) : ∀ i, lv_args i (av.map (rv ad)) = rl ad (lv_args i av) := by
  induction av with
  | nil => intro i; rfl
  | cons v t ih => intro i; simp only [List.map_cons, lv_args, rl, rv_cat, ih]
theorem sl_len (ad : Nat → Nat) (av : List Value) : (lg_sl (av.map (rv ad))).length = (lg_sl av).length := by
  induction av with
  | nil => rfl
  | cons v t ih =>
    simp only [lg_sl, List.map_cons, List.flatMap_cons, List.length_append, rv_cat] at ih ⊢
    rw [ih]
    split <;> rfl
theorem CM.of {β : Type} {Y : MX} {fin : β → HP → Option Value × HP} {k : KT β} {mc ms : Nat} (hw : Y.2.2.2.2.1 = Cond.code Y.1 Y.2.1 Y.2.2.1 Y.2.2.2.1 :: WS) (hy : plainName Y.1.cls = true) (hmc : Y.2.2.2.2.2.cells = mc) (hms : Y.2.2.2.2.2.slots = ms) (h : Snd Y fin 0 k mc ms) : CM Y (en Y.2.2.1 k) fin mc ms := by
  intro l D cy ad sz av hp out ho
  unfold en at ho
  split at ho
  · rename_i hlen
    have hlen := Nat.le_of_ble_eq_true hlen
    refine Met.ofW (cc := Y.2.1) (maxL := Y.2.2.1) (ret := Y.2.2.2.1) hy hw ?_
    intro p e s m args below meth c s₁ B hml hv
    obtain ⟨rfl, hsz, h2000, hP, hD0, G⟩ := hv
    subst hsz
    have hts := atoms_spec (ws := Y.2.2.2.2.1) B.pre
    have hown : s.vm.findClass Y.1.cls = some m.cls := findClass_of_methodNamed B.named
    have hname : meth.name = Y.1.name := (name_of_methodNamed B.named B.method).1
    have hl := lv_entry (av.map (rv ad)) (n := Y.2.2.1) (by rw [sl_len]; exact hlen)
    rw [lg_entry_eq]
    generalize (lg_sl (av.map (rv ad)) ++ List.replicate (Y.2.2.1 - (lg_sl (av.map (rv ad))).length) Slot.unset).toArray = ls at hl ⊢
    rw [rl_args] at hl
    have C : Cx Y p s m (av.map (rv ad)).toArray meth c := ⟨B.exec, B.bytes, B.returns, hml, hown, fun w hm => hts w (by rw [hw]; exact List.mem_cons_of_mem _ hm), B.notSynchronized, hname⟩
    exact h p l e s m _ below meth c D cy (va_A (wd cy ad hp) s.heap.size) ad hp.length mc ms ad s.heap [] 0 0 (lv_args 0 av) [] hp out ls
      ⟨C, G, fun q hq => Or.inr hq, Nat.le_refl _, h2000, fun n _ => rfl, hP, hD0.self, va_S.rf, by omega, by omega, Nat.le_of_eq hmc.symm, Nat.le_of_eq hms.symm⟩ ho hl
  · cases ho
def catsum (st : List Value) : Nat := (st.map fun v => v.category).sum
def recvOK (rc : Option Nat) (av : List Value) (hp : HP) : Bool := match rc with
  | none => true
  | some ci => (match av with
    | .ref b :: _ => (match Nat.beq ci 99 with
      | true => Nat.ble 2000 b && Nat.blt b (2000 + strN)
      | false => (match hp[b]? with
        | some (.inr (c, _)) => Nat.beq c ci
        | _ => false))
    | _ => false)
/-- the call itself, whatever its sort -/
def RunOK (X : MX) (pc n : Nat) (rc : Option Nat) (Y : MX) (mc ms : Nat) : Prop :=
  ∀ (p : Program) (l : Launch) (e : Env) (s : State) (m : MethodId) (args : Array Value) (below : List Frame) (meth : Method) (c : Code) (D : va_G) (cy : Nat → ClassId) (A : Nat → Prop) (ad0 ad : Nat → Nat) (H : Heap) (locs : List Loc) (cells slots : Nat) (lsA : Array Slot) (av rest : List Value) (hp : HP) (Pc : Array Value → State → Prop) (Qc : Array Value → State → Outcome → State → Prop) (free : Addr → Prop),
    Cx X p s m args meth c → GS D cy A ad0 s s.heap → lsA.size = X.2.2.1 → va_S A s.heap H locs → (∀ n, 2000 ≤ n → ad n = ad0 n) → recvOK rc av hp = true → va_P D vwCl (wd cy ad hp) H → av.length = n → Met l Y.1 Y.2.2.2.2.1 Y.2.2.2.2.2 Pc Qc mc ms free → FrameBlind Pc →
    (∀ U : State, U.heap = H → s.WarmedH U.vm → Pc (av.map (rv ad)).toArray U) → catsum rest ≤ 8 → cells + mc ≤ X.2.2.2.2.2.cells → slots + ms ≤ X.2.2.2.2.2.slots →
    va_Run p l e X.2.2.2.2.2 s m args below meth c H locs cells slots mc ms (F0 m pc lsA ((av.map (rv ad)).reverse ++ rest.map (rv ad))) (rest.map (rv ad)) (Qc (av.map (rv ad)).toArray) free
def noNew (n0 n1 : Nat) (v : Value) : Bool := match v with
  | .ref a => Nat.blt a n0 || Nat.ble n1 a
  | _ => true
theorem noNew_rv {n0 n1 : Nat} {ad ad1 : Nat → Nat} (h : ∀ n, (n < n0 ∨ n1 ≤ n) → ad1 n = ad n) {v : Value} (hv : noNew n0 n1 v = true) : rv ad1 v = rv ad v := by
  cases v <;> first | rfl | skip
  rename_i a
  simp only [noNew, Bool.or_eq_true, Nat.blt_eq, Nat.ble_eq] at hv
  show Value.ref (ad1 a) = Value.ref (ad a)
  rw [h a hv]
def chk (n0 n1 : Nat) (lv : LV) (st : List Value) : Bool := Nat.beq n1 n0 || (lv.all (fun q => noNew n0 n1 q.2) && st.all (noNew n0 n1))
theorem chk_ok {n0 n1 : Nat} {lv : LV} {st : List Value} (hc : chk n0 n1 lv st = true) {ad ad1 : Nat → Nat} (h : ∀ n, (n < n0 ∨ n1 ≤ n) → ad1 n = ad n) : rl ad1 lv = rl ad lv ∧ st.map (rv ad1) = st.map (rv ad) := by
  unfold chk at hc
  rcases Bool.or_eq_true .. ▸ hc with h1 | h1
  · have h1 := Nat.eq_of_beq_eq_true h1
    subst h1
    have he : ad1 = ad := funext fun n => h n (by omega)
    subst he
    exact ⟨rfl, rfl⟩
  · simp only [Bool.and_eq_true, List.all_eq_true] at h1
    refine ⟨?_, ?_⟩
    · exact List.map_congr_left (fun q hq => by rw [noNew_rv h (h1.1 q hq)])
    · exact List.map_congr_left (fun v hv => noNew_rv h (h1.2 v hv))
def oCal {β γ : Type} (n : Nat) (rc : Option Nat) (f : List Value → HP → Option γ) (fc : γ → HP → Option Value × HP) (k : KT β) : KT β := fun lv st hp =>
  match Nat.ble n st.length && (Nat.ble (catsum (st.drop n)) 8 && recvOK rc (st.take n).reverse hp) with
  | true => (f (st.take n).reverse hp).bind (fun o => match chk hp.length (fc o hp).2.length lv (st.drop n) with
    | true => k lv ((fc o hp).1.toList ++ st.drop n) (fc o hp).2
    | false => none)
  | false => none
theorem s_cal {β γ : Type} {X Y : MX} {fin : β → HP → Option Value × HP} {fc : γ → HP → Option Value × HP} {pc : Nat} {k : KT β} {mc ms mc1 ms1 n : Nat} {rc : Option Nat} {f : List Value → HP → Option γ} (pc2 : Nat) (hR : RunOK X pc n rc Y mc1 ms1) (hM : CM Y f fc mc1 ms1) (hpp : ∀ (out : β) (o : γ) (hp : HP), fin out (fc o hp).2 = fin out hp) (hp2 : pc + 3 = pc2) (h : Snd X fin pc2 k mc ms) : Snd X fin pc (oCal n rc f fc k) (mc1 + mc) (ms1 + ms) := by
  subst hp2
  intro p l e s m args below meth c D cy A ad0 n0 mcT msT ad H locs cells slots lv st hp out lsA hs ho hl
  unfold oCal at ho
  split at ho
  · rename_i hc
    simp only [Bool.and_eq_true] at hc
    obtain ⟨hn, hcs, hrc⟩ := hc
    have hn := Nat.le_of_ble_eq_true hn
    have hcs := Nat.le_of_ble_eq_true hcs
    obtain ⟨o, hf, ho⟩ := Option.bind_eq_some_iff.mp ho
    split at ho
    · rename_i hchk
      obtain ⟨Cc, G, a3, a4, a5, a6, hP, hD, hS, b1, b2, b3, b4⟩ := id hs
      have hst : st.map (rv ad) = (((st.take n).reverse).map (rv ad)).reverse ++ (st.drop n).map (rv ad) := by
        rw [List.map_reverse, List.reverse_reverse, ← List.map_append, List.take_append_drop]
      have hA1 : ∀ q, va_A (wd cy ad hp) H.size q → A q := by
        intro q hq
        rcases hq with ⟨i, x, hx⟩ | hq
        · exact hD.2 i (q, x) hx
        · exact a3 q (Nat.le_trans hS.1 hq)
      have hrun := hR p l e s m args below meth c D cy A ad0 ad H locs cells slots lsA (st.take n).reverse (st.drop n) hp _ _ _ Cc G hl.1 hS (fun n hn => a6 n (Or.inr (Nat.le_trans a5 hn))) hrc hP (by rw [List.length_reverse, List.length_take]; omega)
        (hM l D cy ad H.size (st.take n).reverse hp o hf)
        (fun a U g mk q => by
          obtain ⟨q0, q1, q2, q3, q4, q5⟩ := q
          exact ⟨q0, q1, q2, q3, q4, q5.blind⟩)
        (fun U hU hW => ⟨rfl, by rw [hU], a5, by rw [hU]; exact hP, hD.weaken (fun _ _ _ _ => trivial), G.call hS hA1 (fun n hn => a6 n (Or.inr (Nat.le_trans a5 hn))) hU hW⟩)
        hcs (by omega) (by omega)
      rw [hst]
      intro T hT XT
      obtain ⟨v, st₀, t, T', L, h0, X', hL, e1, e2, ⟨ad1, g1, g2, g3, hv, hP1, hD1, hF⟩, stp⟩ := hrun T hT XT
      have hv2 : v = (fc o hp).1.map (rv ad1) := by cases hv; rfl
      obtain ⟨hk1, hk2⟩ := chk_ok hchk g3
      have hz : H.size ≤ T'.heap.size := by rw [e1, ← h0]; exact hF.1
      have hS1 : va_S A s.heap T'.heap (locs ++ L) := by
        refine ⟨Nat.le_trans hS.1 hz, fun q h1 h2 => ?_, fun q hq => ?_⟩
        · rw [e1, hF.2 q (by rw [h0]; exact Nat.lt_of_lt_of_le h1 hS.1) (fun z => h2 (hA1 q z)), h0]
          exact hS.2.1 q h1 h2
        · rcases List.mem_append.mp hq with h | h
          · exact hS.2.2 q h
          · exact hA1 _ (hL q h)
      have hs1 : Sd X mc ms p s m args meth c D cy A ad0 n0 mcT msT ad1 T'.heap (locs ++ L) (cells + mc1) (slots + ms1) (fc o hp).2 := by
        refine ⟨Cc, G, a3, Nat.le_trans a4 g1, g2, fun n hn => ?_, by rw [e1]; exact hP1, hD1.weaken (fun _ q _ h => hA1 q.1 h), hS1, by omega, by omega, b3, b4⟩
        rw [g3 n (by omega)]
        exact a6 n (by omega)
      have hfinal := h p l e s m args below meth c D cy A ad0 n0 mcT msT ad1 T'.heap (locs ++ L) (cells + mc1) (slots + ms1) lv _ _ out lsA hs1 ho (by rw [hk1]; exact hl) T' rfl X'
      rw [hpp] at hfinal
      obtain ⟨t2, q1, q2⟩ := hfinal
      refine ⟨t2, stp t2 ?_, q2⟩
      have hstk : ((fc o hp).1.toList ++ st.drop n).map (rv ad1) = v.toList ++ (st.drop n).map (rv ad) := by
        rw [List.map_append, hk2, hv2]
        congr 1
        cases (fc o hp).1 <;> rfl
      rw [hstk] at q1
      exact q1
    · cases ho
  · cases ho
/-- what a callee is known by -/
def YO (Y : MX) (n mc ms : Nat) : Prop := Cond.code Y.1 Y.2.1 Y.2.2.1 Y.2.2.2.1 ∈ WS ∧ Y.2.2.2.2.1 = Cond.code Y.1 Y.2.1 Y.2.2.1 Y.2.2.2.1 :: WS ∧ Cond.initialized Y.1.cls ∈ WS ∧ (Y.1.cls ≠ "java/lang/invoke/MethodHandle" ∧ Y.1.cls ≠ "java/lang/invoke/VarHandle" ∧ (parseMethodDescriptor Y.1.desc).map (fun d => d.parameters.length) = some n) ∧ Y.2.2.2.2.2.cells = mc ∧ Y.2.2.2.2.2.slots = ms
theorem ws_good0 {c1 : Cond} (h : c1 ∈ WS) : GoodIn WS (c1 :: WS) := by
  intro w hw
  have h2 : w ∈ WS := by
    rcases List.mem_cons.mp hw with e | e
    · rw [e]; exact h
    · exact e
  exact ⟨h2, good_of_word (List.mem_filter.mp h2).2⟩
theorem recv_inv {ci : Nat} {av : List Value} {hp : HP} (h99 : Nat.beq ci 99 = false) (h : recvOK (some ci) av hp = true) : ∃ b As fs, av = .ref b :: As ∧ hp[b]? = some (.inr (ci, fs)) := by
  unfold recvOK at h
  simp only [h99] at h
  split at h
  · split at h
    · rename_i b As _ c fs he
      have hc := Nat.eq_of_beq_eq_true h
      subst hc
      exact ⟨b, As, fs, rfl, he⟩
    · cases h
  · cases h
theorem run_V {X Y : MX} {pc n mc ms ix ci : Nat} {C : String} {T : u_T} {N : Nat} {ty0 : Nat → FieldType} (h99 : Nat.beq ci 99 = false) (hc : CL ci C T N ty0) (hy : YO Y n mc ms) (hC : Y.1.cls = C) (hl : Cond.methodLink X.1.cls ix Y.1 ∈ WS) (hi : Cond.instanceMethod Y.1 ∈ WS) (hse : Cond.selects C Y.1 Y.1 ∈ WS) (hR : Y.2.2.2.2.2.frames + 1 ≤ X.2.2.2.2.2.frames ∧ 8 + (Y.2.2.1 + 11) + Y.2.2.2.2.2.locals ≤ X.2.2.2.2.2.locals) (hd : decode X.2.1 pc = .ok (.invokevirtual ix, 3)) : RunOK X pc (n + 1) (some ci) Y mc ms := by
  intro p l e s m args below meth c D cy A ad0 ad H locs cells slots lsA av rest hp Pc Qc free Cc G hls hSs hads hrc hP hav hM hbl hpre hcs hm1 hm2
  obtain ⟨b, As, fs, rfl, he⟩ := recv_inv h99 hrc
  obtain ⟨y1, y2, y3, y4, y5, y6⟩ := hy
  have ht := Cc.2.2.2.2.2.1
  have hB := callB_of (R := X.2.2.2.2.2) (own := X.1.cls) (index := ix) (rm := Y.2.2.2.2.2) n ht (by rw [y2]; exact ws_good0 y1) y2 y5 y6 (ht _ y3) (ht _ hl) y4 hR
  have hrec := va_recv G.1 hP hc.1 (wd_at b he)
  have hr := va_runV (b := ad b) (As := As.map (rv ad)) (rest := rest.map (rv ad)) (H := H) (locs := locs) (cells := cells) (slots := slots) (meth := meth) (below := below) (e := e) (Ts := WS) ⟨Cc.1, Cc.2.1, Cc.2.2.2.1, Cc.2.2.2.2.1, ht⟩ hM ⟨hB, ht _ hi, ht _ hse⟩ ⟨hbl, hrec, hpre⟩ (g := F0 m pc lsA (((Value.ref b :: As).map (rv ad)).reverse ++ rest.map (rv ad))) rfl (by rw [List.length_map]; simpa using hav) hls (by simp [rv]) (lv_room (by rw [rv_catsum]; exact hcs)) hd ⟨hm1, hm2⟩
  exact hr
theorem run_S {X Y : MX} {pc n mc ms ix : Nat} (hy : YO Y n mc ms) (hl : Cond.methodLink X.1.cls ix Y.1 ∈ WS) (hst : Cond.static Y.1 ∈ WS) (hR : Y.2.2.2.2.2.frames + 1 ≤ X.2.2.2.2.2.frames ∧ 8 + (Y.2.2.1 + 11) + Y.2.2.2.2.2.locals ≤ X.2.2.2.2.2.locals) (hd : decode X.2.1 pc = .ok (.invokestatic ix, 3)) : RunOK X pc n none Y mc ms := by
  intro p l e s m args below meth c D cy A ad0 ad H locs cells slots lsA av rest hp Pc Qc free Cc G hls hSs hads hrc hP hav hM hbl hpre hcs hm1 hm2
  obtain ⟨y1, y2, y3, y4, y5, y6⟩ := hy
  have ht := Cc.2.2.2.2.2.1
  have hB := callB_of (R := X.2.2.2.2.2) (own := X.1.cls) (index := ix) (rm := Y.2.2.2.2.2) n ht (by rw [y2]; exact ws_good0 y1) y2 y5 y6 (ht _ y3) (ht _ hl) y4 hR
  exact va_runS (As := av.map (rv ad)) (rest := rest.map (rv ad)) (Ts := WS) ⟨Cc.1, Cc.2.1, Cc.2.2.2.1, Cc.2.2.2.2.1, ht⟩ hM ⟨hB, ht _ hst⟩ ⟨hbl, hpre⟩ rfl (by rw [List.length_map]; exact hav) hls rfl (lv_room (by rw [rv_catsum]; exact hcs)) hd ⟨hm1, hm2⟩
theorem cn_of {X Y : MX} {ix n mc ms : Nat} {host : String} {s : State} {args : Array Value} (ht : ∀ w ∈ WS, w.before args s = true) (hy : YO Y n mc ms) (hl : va_Nw (.methodLinkNest X.1.cls ix Y.1 host) s) (hR : Y.2.2.2.2.2.frames + 1 ≤ X.2.2.2.2.2.frames ∧ 8 + (Y.2.2.1 + 11) + Y.2.2.2.2.2.locals ≤ X.2.2.2.2.2.locals) : va_CN X.2.2.2.2.2 s args X.1.cls ix Y.1 host Y.2.1 Y.2.2.1 Y.2.2.2.1 Y.2.2.2.2.1 Y.2.2.2.2.2 mc ms n := by
  obtain ⟨y1, y2, y3, y4, y5, y6⟩ := hy
  exact va_cnB n ht (by rw [y2]; exact ws_good0 y1) y2 y5 y6 hl (ht _ y3) y4 hR
theorem run_SN {X Y : MX} {pc n mc ms ix : Nat} {host : String} (hy : YO Y n mc ms) (hl : Cond.methodLinkNest X.1.cls ix Y.1 host ∈ nestW) (hst : Cond.static Y.1 ∈ WS) (hR : Y.2.2.2.2.2.frames + 1 ≤ X.2.2.2.2.2.frames ∧ 8 + (Y.2.2.1 + 11) + Y.2.2.2.2.2.locals ≤ X.2.2.2.2.2.locals) (hd : decode X.2.1 pc = .ok (.invokestatic ix, 3)) : RunOK X pc n none Y mc ms := by
  intro p l e s m args below meth c D cy A ad0 ad H locs cells slots lsA av rest hp Pc Qc free Cc G hls hSs hads hrc hP hav hM hbl hpre hcs hm1 hm2
  have ht := Cc.2.2.2.2.2.1
  exact va_runSN (As := av.map (rv ad)) (rest := rest.map (rv ad)) (Ts := WS) ⟨Cc.1, Cc.2.1, Cc.2.2.2.1, Cc.2.2.2.2.1, ht⟩ hM ⟨cn_of ht hy (G.2.1 _ hl) hR, ht _ hst, trivial⟩ ⟨hbl, hpre⟩ rfl (by rw [List.length_map]; exact hav) hls rfl (lv_room (by rw [rv_catsum]; exact hcs)) hd ⟨hm1, hm2⟩
theorem s_cal0 {β γ : Type} {X Y : MX} {fin : β → HP → Option Value × HP} {fc : γ → HP → Option Value × HP} {pc : Nat} {k : KT β} {mc ms n : Nat} {rc : Option Nat} {f : List Value → HP → Option γ} (pc2 : Nat) (hR : RunOK X pc n rc Y 0 0) (hM : CM Y f fc 0 0) (hpp : ∀ (out : β) (o : γ) (hp : HP), fin out (fc o hp).2 = fin out hp) (hp2 : pc + 3 = pc2) (h : Snd X fin pc2 k mc ms) : Snd X fin pc (oCal n rc f fc k) mc ms :=
  (s_cal pc2 hR hM hpp hp2 h).more (Nat.le_of_eq (Nat.zero_add mc)) (Nat.le_of_eq (Nat.zero_add ms))
