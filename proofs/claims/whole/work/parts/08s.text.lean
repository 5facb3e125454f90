/-! String constants, copying of rows, rows of cells. -/
/-- a row that leaves cells and places as they are, with all that is known -/
theorem Snd.rowG {β : Type} {X : MX} {fin : β → HP → Option Value × HP} {pc pc2 : Nat} {k k2 : KT β} {mc ms : Nat} (h : Snd X fin pc2 k2 mc ms)
    (hk : ∀ (lv : LV) (st : List Value) (hp : HP) (out : β), k lv st hp = some out → ∃ st2 : List Value, k2 lv st2 hp = some out ∧
      ∀ (p : Program) (l : Launch) (e : Env) (s : State) (m : MethodId) (args : Array Value) (below : List Frame) (meth : Method) (c : Code) (D : va_G) (cy : Nat → ClassId) (A : Nat → Prop) (ad : Nat → Nat) (H : Heap) (locs : List Loc) (cells slots : Nat) (Q : State → Prop) (lsA : Array Slot),
        Cx X p s m args meth c → GS D cy A ad s s.heap → va_S A s.heap H locs → W p l e X.2.2.2.2.2 s m args below meth c H locs cells slots Q (F0 m pc2 lsA (st2.map (rv ad))) → W p l e X.2.2.2.2.2 s m args below meth c H locs cells slots Q (F0 m pc lsA (st.map (rv ad)))) :
    Snd X fin pc k mc ms := by
  intro p l e s m args below meth c D cy A ad0 n0 mcT msT ad H locs cells slots lv st hp out lsA hs ho hl
  obtain ⟨st2, h2, hw⟩ := hk lv st hp out ho
  obtain ⟨Cc, G, a3, a4, a5, a6, hP, hD, hS, b1, b2, b3, b4⟩ := id hs
  have hd : ∀ n, 2000 ≤ n → ad n = ad0 n := fun n hn => a6 n (Or.inr (Nat.le_trans a5 hn))
  have G2 : GS D cy A ad s s.heap := by
    obtain ⟨hK, hN, hC, hv, hR, hZ, hY⟩ := G
    have he : (fun i => ad (2000 + i)) = (fun i => ad0 (2000 + i)) := funext fun i => hd _ (by omega)
    have he3 : (fun i => ad (3000 + i)) = (fun i => ad0 (3000 + i)) := funext fun i => hd _ (by omega)
    refine ⟨hK, hN, hC, ?_, ?_, hZ, by rw [hd _ (by omega)]; exact hY⟩
    · rw [he, he3]; exact hv
    · intro q hq; rw [hd _ (by omega)]; exact hR q hq
  exact hw p l e s m args below meth c D cy A ad H locs cells slots _ lsA Cc G2 hS (h p l e s m args below meth c D cy A ad0 n0 mcT msT ad H locs cells slots lv st2 hp out lsA hs h2 hl)
theorem s_ldcS {β : Type} {X : MX} {fin : β → HP → Option Value × HP} {pc : Nat} {k : KT β} {mc ms : Nat} {ix : Nat} {tx : String} (pc2 i a : Nat) (ha : 2000 + i = a) (hw : (X.1.cls, ix, tx, i) ∈ strRows) (hd : decode X.2.1 pc = .ok (.ldc ix, 2)) (hp2 : pc + 2 = pc2) (h : Snd X fin pc2 k mc ms) : Snd X fin pc (oConst (.ref a) k) mc ms := by
  subst hp2
  subst ha
  refine h.rowG ?_
  intro lv st hp out ho
  refine ⟨_, ho, fun p l e s m args below meth c D cy A ad H locs cells slots Q lsA Cc G hS w => ?_⟩
  exact va_ldcS Cc.1 Cc.2.1 Cc.2.2.2.2.1 (G.2.2.2.2.1 _ hw) hd w
theorem s_ldcSw {β : Type} {X : MX} {fin : β → HP → Option Value × HP} {pc : Nat} {k : KT β} {mc ms : Nat} {ix : Nat} {tx : String} (pc2 i a : Nat) (ha : 2000 + i = a) (hw : (X.1.cls, ix, tx, i) ∈ strRows) (hd : decode X.2.1 pc = .ok (.ldc_w ix, 3)) (hp2 : pc + 3 = pc2) (h : Snd X fin pc2 k mc ms) : Snd X fin pc (oConst (.ref a) k) mc ms := by
  subst hp2
  subst ha
  refine h.rowG ?_
  intro lv st hp out ho
  refine ⟨_, ho, fun p l e s m args below meth c D cy A ad H locs cells slots Q lsA Cc G hS w => ?_⟩
  intro T hT XT
  obtain ⟨t, a1, b1⟩ := w T hT XT
  have hZ := G.2.2.2.2.1 _ hw
  have h1 : (Cond.stringRef X.1.cls ix tx).before args s = true := by first | exact hZ.1 | exact va_tabs rfl rfl hZ.1
  have h2 : (Term.string X.1.cls ix).eval args s none [] s = some (.ref (ad (2000 + i))) := hZ.2
  exact ⟨t, XT.ldcStringW Cc.1 Cc.2.2.2.2.1 (text := tx) (a := ad (2000 + i)) h1 h2 (g := F0 m pc lsA (st.map (rv ad))) rfl (by rw [Cc.2.1]; exact hd) t a1, b1⟩
def isSt (a : Nat) : Bool := Nat.ble 2000 a && Nat.blt a (2000 + strN)
def isBy (a : Nat) : Bool := Nat.ble 3000 a && Nat.blt a (3000 + strN)
theorem isSt_inv {a : Nat} (h : isSt a = true) : ∃ i, i < strN ∧ a = 2000 + i := by
  simp only [isSt, Bool.and_eq_true, Nat.ble_eq, Nat.blt_eq] at h
  exact ⟨a - 2000, by omega, by omega⟩
theorem isBy_inv {a : Nat} (h : isBy a = true) : ∃ i, i < strN ∧ a = 3000 + i := by
  simp only [isBy, Bool.and_eq_true, Nat.ble_eq, Nat.blt_eq] at h
  exact ⟨a - 3000, by omega, by omega⟩
theorem s_gcs {β : Type} {X : MX} {fin : β → HP → Option Value × HP} {pc : Nat} {k : KT β} {mc ms : Nat} {ix : Nat} (pc2 : Nat) (hw : Cond.fieldLink X.1.cls ix "java/lang/String" "COMPACT_STRINGS" "Z" ∈ WS) (hd : decode X.2.1 pc = .ok (.getstatic ix, 3)) (hp2 : pc + 3 = pc2) (h : Snd X fin pc2 k mc ms) : Snd X fin pc (oConst (.int 1) k) mc ms := by
  subst hp2
  refine h.rowG ?_
  intro lv st hp out ho
  refine ⟨_, ho, fun p l e s m args below meth c D cy A ad H locs cells slots Q lsA Cc G hS w => ?_⟩
  exact va_gets Cc.1 Cc.2.1 G.2.2.2.2.2.1 hS Cc.2.2.2.2.1 (Cc.2.2.2.2.2.1 _ hw) (fun _ h9 => h9) hd w
def oScd {β : Type} (k : KT β) : KT β := fun lv st hp => match st with
  | .ref a :: r => (match isSt a with
    | true => k lv (.int 0 :: r) hp
    | false => none)
  | _ => none
theorem s_scd {β : Type} {X : MX} {fin : β → HP → Option Value × HP} {pc : Nat} {k : KT β} {mc ms : Nat} {ix : Nat} (pc2 : Nat) (hw : Cond.fieldLink X.1.cls ix "java/lang/String" "coder" "B" ∈ WS) (hd : decode X.2.1 pc = .ok (.getfield ix, 3)) (hp2 : pc + 3 = pc2) (h : Snd X fin pc2 k mc ms) : Snd X fin pc (oScd k) mc ms := by
  subst hp2
  refine h.rowG ?_
  intro lv st hp out ho
  unfold oScd at ho
  split at ho
  · split at ho
    · rename_i hi
      obtain ⟨i, hlt, rfl⟩ := isSt_inv hi
      refine ⟨_, ho, fun p l e s m args below meth c D cy A ad H locs cells slots Q lsA Cc G hS w => ?_⟩
      exact vk_getf Cc.1 Cc.2.1 (G.2.2.2.1 i hlt).2.1 hS Cc.2.2.2.2.1 (Cc.2.2.2.2.2.1 _ hw) (fun _ h9 => h9) hd w
    · cases ho
  · cases ho
def oSvl {β : Type} (k : KT β) : KT β := fun lv st hp => match st with
  | .ref a :: r => (match isSt a with
    | true => k lv (.ref (1000 + a) :: r) hp
    | false => none)
  | _ => none
theorem s_svl {β : Type} {X : MX} {fin : β → HP → Option Value × HP} {pc : Nat} {k : KT β} {mc ms : Nat} {ix : Nat} (pc2 : Nat) (hw : Cond.fieldLink X.1.cls ix "java/lang/String" "value" "[B" ∈ WS) (hd : decode X.2.1 pc = .ok (.getfield ix, 3)) (hp2 : pc + 3 = pc2) (h : Snd X fin pc2 k mc ms) : Snd X fin pc (oSvl k) mc ms := by
  subst hp2
  refine h.rowG ?_
  intro lv st hp out ho
  unfold oSvl at ho
  split at ho
  · split at ho
    · rename_i hi
      obtain ⟨i, hlt, rfl⟩ := isSt_inv hi
      refine ⟨_, ho, fun p l e s m args below meth c D cy A ad H locs cells slots Q lsA Cc G hS w => ?_⟩
      have h3 : (1000 : Nat) + (2000 + i) = 3000 + i := by omega
      rw [h3] at w
      exact vk_getf Cc.1 Cc.2.1 (G.2.2.2.1 i hlt).2.2.1 hS Cc.2.2.2.2.1 (Cc.2.2.2.2.2.1 _ hw) (fun _ h9 => h9) hd w
    · cases ho
  · cases ho
def oSln {β : Type} (k : KT β) : KT β := fun lv st hp => match st with
  | .ref a :: r => (match isBy a with
    | true => k lv (.int (Int32.ofNat (strLen.getD (a - 3000) 0)) :: r) hp
    | false => none)
  | _ => none
theorem s_sln {β : Type} {X : MX} {fin : β → HP → Option Value × HP} {pc : Nat} {k : KT β} {mc ms : Nat} (pc2 : Nat) (hd : decode X.2.1 pc = .ok (.arraylength, 1)) (hp2 : pc + 1 = pc2) (h : Snd X fin pc2 k mc ms) : Snd X fin pc (oSln k) mc ms := by
  subst hp2
  refine h.rowG ?_
  intro lv st hp out ho
  unfold oSln at ho
  split at ho
  · split at ho
    · rename_i hi
      obtain ⟨i, hlt, rfl⟩ := isBy_inv hi
      refine ⟨_, ho, fun p l e s m args below meth c D cy A ad H locs cells slots Q lsA Cc G hS w => ?_⟩
      rw [show 3000 + i - 3000 = i by omega] at w
      exact va_tlen Cc.1 Cc.2.1 (G.2.2.2.1 i hlt).2.2.2 hS rfl hd w
    · cases ho
  · cases ho
def oSat {β : Type} (k : KT β) : KT β := fun lv st hp => match st with
  | .int j :: .ref a :: r => (match isBy a with
    | true => if j < 0 ∨ strLen.getD (a - 3000) 0 ≤ j.toNatClampNeg then none else k lv (.int ((strByt.getD (a - 3000) []).getD j.toNatClampNeg 0) :: r) hp
    | false => none)
  | _ => none
theorem s_sat {β : Type} {X : MX} {fin : β → HP → Option Value × HP} {pc : Nat} {k : KT β} {mc ms : Nat} (pc2 : Nat) (hd : decode X.2.1 pc = .ok (.baload, 1)) (hp2 : pc + 1 = pc2) (h : Snd X fin pc2 k mc ms) : Snd X fin pc (oSat k) mc ms := by
  subst hp2
  refine h.rowG ?_
  intro lv st hp out ho
  unfold oSat at ho
  split at ho
  · split at ho
    · split at ho
      · cases ho
      · rename_i hi hin
        obtain ⟨i, hlt, rfl⟩ := isBy_inv hi
        refine ⟨_, ho, fun p l e s m args below meth c D cy A ad H locs cells slots Q lsA Cc G hS w => ?_⟩
        rw [show 3000 + i - 3000 = i by omega] at w hin
        exact va_tb Cc.1 Cc.2.1 (G.2.2.2.1 i hlt).2.2.2 hS hin rfl hd w
    · cases ho
  · cases ho
def oCretP : KT Int32 := fun _ st _ => match st with
  | [.int x] => if narrow .char (.int x) = .int x then some x else none
  | _ => none
theorem s_cretP {X : MX} {pc mc ms : Nat} (hr : X.2.2.2.1 = some .char) (hd : decode X.2.1 pc = .ok (.ireturn, 1)) : Snd X fI pc oCretP mc ms := by
  refine Snd.fin ?_
  intro lv st hp out ho
  unfold oCretP at ho
  split at ho
  · split at ho
    · rename_i hx
      cases ho
      exact ⟨rfl, fun p l e s m args below meth c H locs cells slots ad lsA Qc A Cc hq hf => W.zret Cc.1 Cc.2.1 (Cc.2.2.1.trans hr) hx hq hf hd Cc.2.2.2.2.2.2.1⟩
    · cases ho
  · cases ho
def oBretP : KT Int32 := fun _ st _ => match st with
  | [.int x] => if narrow .byte (.int x) = .int x then some x else none
  | _ => none
theorem s_bretP {X : MX} {pc mc ms : Nat} (hr : X.2.2.2.1 = some .byte) (hd : decode X.2.1 pc = .ok (.ireturn, 1)) : Snd X fI pc oBretP mc ms := by
  refine Snd.fin ?_
  intro lv st hp out ho
  unfold oBretP at ho
  split at ho
  · split at ho
    · rename_i hx
      cases ho
      exact ⟨rfl, fun p l e s m args below meth c H locs cells slots ad lsA Qc A Cc hq hf => W.zret Cc.1 Cc.2.1 (Cc.2.2.1.trans hr) hx hq hf hd Cc.2.2.2.2.2.2.1⟩
    · cases ho
  · cases ho
/-- a String's own method -/
theorem run_VS {X Y : MX} {pc n mc ms ix : Nat} (hy : YO Y n mc ms) (hC : Y.1.cls = "java/lang/String") (hl : Cond.methodLink X.1.cls ix Y.1 ∈ WS) (hi : Cond.instanceMethod Y.1 ∈ WS) (hse : Cond.selects "java/lang/String" Y.1 Y.1 ∈ WS) (hR : Y.2.2.2.2.2.frames + 1 ≤ X.2.2.2.2.2.frames ∧ 8 + (Y.2.2.1 + 11) + Y.2.2.2.2.2.locals ≤ X.2.2.2.2.2.locals) (hd : decode X.2.1 pc = .ok (.invokevirtual ix, 3)) : RunOK X pc (n + 1) (some 99) Y mc ms := by
  intro p l e s m args below meth c D cy A ad0 ad H locs cells slots lsA av rest hp Pc Qc free Cc G hls hSs hads hrc hP hav hM hbl hpre hcs hm1 hm2
  have hb : ∃ b As, av = .ref b :: As ∧ isSt b = true := by
    unfold recvOK at hrc
    simp only [show Nat.beq 99 99 = true from rfl] at hrc
    split at hrc
    · rename_i b As
      exact ⟨b, As, rfl, hrc⟩
    · cases hrc
  obtain ⟨b, As, rfl, hb⟩ := hb
  obtain ⟨i, hlt, rfl⟩ := isSt_inv hb
  obtain ⟨y1, y2, y3, y4, y5, y6⟩ := hy
  have ht := Cc.2.2.2.2.2.1
  have hB := callB_of (R := X.2.2.2.2.2) (own := X.1.cls) (index := ix) (rm := Y.2.2.2.2.2) n ht (by rw [y2]; exact ws_good0 y1) y2 y5 y6 (ht _ y3) (ht _ hl) y4 hR
  have hrec : ∃ cell : Cell, H[ad0 (2000 + i)]? = some cell ∧ cell.vm.isStatics = false ∧ s.vm.findClass "java/lang/String" = some cell.cls := by
    obtain ⟨cell, h1, h2, h3, -⟩ := (G.2.2.2.1 i hlt).1.kept hSs.2.1
    exact ⟨cell, h1, h2, h3⟩
  have hr := va_runV (b := ad (2000 + i)) (C := "java/lang/String") (As := As.map (rv ad)) (rest := rest.map (rv ad)) (H := H) (locs := locs) (cells := cells) (slots := slots) (meth := meth) (below := below) (e := e) (Ts := WS) ⟨Cc.1, Cc.2.1, Cc.2.2.2.1, Cc.2.2.2.2.1, ht⟩ hM ⟨hB, ht _ hi, ht _ hse⟩ ⟨hbl, by rw [hads _ (by omega)]; exact hrec, hpre⟩ (g := F0 m pc lsA (((Value.ref (2000 + i) :: As).map (rv ad)).reverse ++ rest.map (rv ad))) rfl (by rw [List.length_map]; simpa using hav) hls (by simp [rv]) (lv_room (by rw [rv_catsum]; exact hcs)) hd ⟨hm1, hm2⟩
  exact hr
/-- a static of which only 'a cell or none' is known, on its way through -/
def oGsf {β : Type} (k : KT β) : KT β := fun lv st hp => match st with
  | [.int n, .int i] => k lv [.null, .int n, .int i] hp
  | _ => none
theorem s_gsf {β : Type} {X : MX} {fin : β → HP → Option Value × HP} {pc : Nat} {k : KT β} {mc ms : Nat} {ix : Nat} (pc2 : Nat) (hsame : ∀ (lv : LV) (n i : Int32) (hp : HP), k lv [.ref 4000, .int n, .int i] hp = k lv [.null, .int n, .int i] hp) (hw : Cond.fieldLink X.1.cls ix "jdk/internal/util/Preconditions" "SIOOBE_FORMATTER" "Ljava/util/function/BiFunction;" ∈ WS) (hd : decode X.2.1 pc = .ok (.getstatic ix, 3)) (hp2 : pc + 3 = pc2) (h : Snd X fin pc2 k mc ms) : Snd X fin pc (oGsf k) mc ms := by
  subst hp2
  intro p l e s m args below meth c D cy A ad0 n0 mcT msT ad H locs cells slots lv st hp out lsA hs ho hl
  unfold oGsf at ho
  split at ho
  · rename_i n i
    obtain ⟨Cc, G, a3, a4, a5, a6, hP, hD, hS, b1, b2, b3, b4⟩ := id hs
    rcases G.2.2.2.2.2.2 with hY | hY
    · exact va_gets Cc.1 Cc.2.1 hY hS Cc.2.2.2.2.1 (Cc.2.2.2.2.2.1 _ hw) (fun _ h9 => h9) hd (h p l e s m args below meth c D cy A ad0 n0 mcT msT ad H locs cells slots lv [.null, .int n, .int i] hp out lsA hs ho hl)
    · have hr := h p l e s m args below meth c D cy A ad0 n0 mcT msT ad H locs cells slots lv [.ref 4000, .int n, .int i] hp out lsA hs (by rw [hsame]; exact ho) hl
      have h4 : ad 4000 = ad0 4000 := a6 4000 (Or.inr (Nat.le_trans a5 (by omega)))
      have hr2 : W p l e X.2.2.2.2.2 s m args below meth c H locs cells slots (MQ below (QF D cy A ad0 n0 (fin out hp)) args s mcT msT A) (F0 m (pc + 3) lsA (.ref (ad0 4000) :: ([.int n, .int i] : List Value).map (rv ad))) := by
        rw [← h4]
        exact hr
      exact va_gets Cc.1 Cc.2.1 hY hS Cc.2.2.2.2.1 (Cc.2.2.2.2.2.1 _ hw) (fun _ h9 => h9) hd hr2
  · cases ho
abbrev fU (_ : Unit) (hp : HP) : Option Value × HP := (none, hp)
def oUretP : KT Unit := fun _ st _ => match st with
  | [] => some ()
  | _ => none
theorem s_uretP {X : MX} {pc mc ms : Nat} (hr : X.2.2.2.1 = none) (hd : decode X.2.1 pc = .ok (.return_, 1)) : Snd X fU pc oUretP mc ms := by
  refine Snd.fin ?_
  intro lv st hp out ho
  unfold oUretP at ho
  split at ho
  · exact ⟨rfl, fun p l e s m args below meth c H locs cells slots ad lsA Qc A Cc hq hf => W.vret Cc.1 Cc.2.1 (Cc.2.2.1.trans hr) hq hf hd Cc.2.2.2.2.2.2.1⟩
  · cases ho
/-- System.arraycopy within one row -/
def cpOK (sp dp n : Int32) (len : Nat) : Bool := !(decide (sp < 0)) && (!(decide (dp < 0)) && (!(decide (n < 0)) && (Nat.ble (sp.toNatClampNeg + n.toNatClampNeg) len && Nat.ble (dp.toNatClampNeg + n.toNatClampNeg) len)))
theorem cpOK_inv {sp dp n : Int32} {len : Nat} (h : cpOK sp dp n len = true) : ¬ sp < 0 ∧ ¬ dp < 0 ∧ ¬ n < 0 ∧ sp.toNatClampNeg + n.toNatClampNeg ≤ len ∧ dp.toNatClampNeg + n.toNatClampNeg ≤ len := by
  simp only [cpOK, Bool.and_eq_true, Bool.not_eq_true', decide_eq_false_iff_not, Nat.ble_eq] at h
  exact ⟨h.1, h.2.1, h.2.2.1, h.2.2.2.1, h.2.2.2.2⟩
def oCpyI {β : Type} (k : KT β) : KT β := fun lv st hp => match st with
  | [.int n, .int dp, .ref a, .int sp, .ref b] => (match hp[a]? with
    | some (.inl (c, len, .inl f)) => (match Nat.beq c 1 && (Nat.beq a b && cpOK sp dp n len) with
      | true => k lv [] (hp.set a (.inl (1, len, .inl (va_cpy f f sp.toNatClampNeg dp.toNatClampNeg n.toNatClampNeg))))
      | false => none)
    | _ => none)
  | _ => none
def oCpyJ {β : Type} (k : KT β) : KT β := fun lv st hp => match st with
  | [.int n, .int dp, .ref a, .int sp, .ref b] => (match hp[a]? with
    | some (.inl (c, len, .inr (.inl f))) => (match Nat.beq c 2 && (Nat.beq a b && cpOK sp dp n len) with
      | true => k lv [] (hp.set a (.inl (2, len, .inr (.inl (va_cpy f f sp.toNatClampNeg dp.toNatClampNeg n.toNatClampNeg)))))
      | false => none)
    | _ => none)
  | _ => none
theorem s_cpyI {β : Type} {X : MX} {fin : β → HP → Option Value × HP} {pc : Nat} {k : KT β} {mc ms : Nat} {ix : Nat} (pc2 : Nat) (hpure : ∀ (o : β) (h1 h2 : HP), fin o h1 = fin o h2) (hw : Cond.methodLink X.1.cls ix arraycopyName ∈ WS) (hna : Cond.native arraycopyName ∈ WS) (hst : Cond.static arraycopyName ∈ WS) (hin : Cond.initialized "java/lang/System" ∈ WS) (hf : 1 ≤ X.2.2.2.2.2.frames) (hlc : nativeFrameWords "java/lang/System" "arraycopy" 5 + 11 ≤ X.2.2.2.2.2.locals) (hd : decode X.2.1 pc = .ok (.invokestatic ix, 3)) (hp2 : pc + 3 = pc2) (h : Snd X fin pc2 k mc ms) : Snd X fin pc (oCpyI k) mc ms := by
  subst hp2
  intro p l e s m args below meth c D cy A ad0 n0 mcT msT ad H locs cells slots lv st hp out lsA hs ho hl
  unfold oCpyI at ho
  split at ho
  · split at ho
    · split at ho
      · rename_i n dp a sp b _ c0 len f he _ hb
        simp only [Bool.and_eq_true] at hb
        have hc := Nat.eq_of_beq_eq_true hb.1
        have hab := Nat.eq_of_beq_eq_true hb.2.1
        subst hc
        subst hab
        obtain ⟨h1, h2, h3, h4, h5⟩ := cpOK_inv hb.2.2
        obtain ⟨Cc, G, a3, a4, a5, a6, hP, hD, hS, b1, b2, b3, b4⟩ := id hs
        have ht := Cc.2.2.2.2.2.1
        have hee := wd_at (cy := cy) (ad := ad) a he
        refine va_copyi (rest := []) Cc.1 Cc.2.1 (Cc.2.2.2.1.trans hl.1.symm) Cc.2.2.2.2.1 (ht _ hw) (ht _ hna) (ht _ hst) (ht _ hin) G.1 hP hD hS a a 1 1 hee hee rfl rfl rfl h1 h2 h3 h4 h5 (fun _ _ => rfl) hf (by simpa using hlc) hd (fun H1 locs1 hP1 hD1 hS1 => ?_)
        have hws : (wd cy ad hp).set a (ad a, .inl (cy 1, len, .inl (va_cpy f f sp.toNatClampNeg dp.toNatClampNeg n.toNatClampNeg))) = wd cy ad (hp.set a (.inl (1, len, .inl (va_cpy f f sp.toNatClampNeg dp.toNatClampNeg n.toNatClampNeg)))) := by rw [wd_set]; rfl
        rw [hws] at hP1 hD1
        rw [hpure out hp (hp.set a (.inl (1, len, .inl (va_cpy f f sp.toNatClampNeg dp.toNatClampNeg n.toNatClampNeg))))]
        exact h p l e s m args below meth c D cy A ad0 n0 mcT msT ad H1 locs1 cells slots lv [] _ out lsA (hs.put (List.length_set ..) hP1 hD1 hS1) ho hl
      · cases ho
    · cases ho
  · cases ho
theorem s_cpyJ {β : Type} {X : MX} {fin : β → HP → Option Value × HP} {pc : Nat} {k : KT β} {mc ms : Nat} {ix : Nat} (pc2 : Nat) (hpure : ∀ (o : β) (h1 h2 : HP), fin o h1 = fin o h2) (hw : Cond.methodLink X.1.cls ix arraycopyName ∈ WS) (hna : Cond.native arraycopyName ∈ WS) (hst : Cond.static arraycopyName ∈ WS) (hin : Cond.initialized "java/lang/System" ∈ WS) (hf : 1 ≤ X.2.2.2.2.2.frames) (hlc : nativeFrameWords "java/lang/System" "arraycopy" 5 + 11 ≤ X.2.2.2.2.2.locals) (hd : decode X.2.1 pc = .ok (.invokestatic ix, 3)) (hp2 : pc + 3 = pc2) (h : Snd X fin pc2 k mc ms) : Snd X fin pc (oCpyJ k) mc ms := by
  subst hp2
  intro p l e s m args below meth c D cy A ad0 n0 mcT msT ad H locs cells slots lv st hp out lsA hs ho hl
  unfold oCpyJ at ho
  split at ho
  · split at ho
    · split at ho
      · rename_i n dp a sp b _ c0 len f he _ hb
        simp only [Bool.and_eq_true] at hb
        have hc := Nat.eq_of_beq_eq_true hb.1
        have hab := Nat.eq_of_beq_eq_true hb.2.1
        subst hc
        subst hab
        obtain ⟨h1, h2, h3, h4, h5⟩ := cpOK_inv hb.2.2
        obtain ⟨Cc, G, a3, a4, a5, a6, hP, hD, hS, b1, b2, b3, b4⟩ := id hs
        have ht := Cc.2.2.2.2.2.1
        have hee := wd_at (cy := cy) (ad := ad) a he
        refine va_copyl (rest := []) Cc.1 Cc.2.1 (Cc.2.2.2.1.trans hl.1.symm) Cc.2.2.2.2.1 (ht _ hw) (ht _ hna) (ht _ hst) (ht _ hin) G.1 hP hD hS a a 2 2 hee hee rfl rfl rfl h1 h2 h3 h4 h5 (fun _ _ => rfl) hf (by simpa using hlc) hd (fun H1 locs1 hP1 hD1 hS1 => ?_)
        have hws : (wd cy ad hp).set a (ad a, .inl (cy 2, len, .inr (.inl (va_cpy f f sp.toNatClampNeg dp.toNatClampNeg n.toNatClampNeg)))) = wd cy ad (hp.set a (.inl (2, len, .inr (.inl (va_cpy f f sp.toNatClampNeg dp.toNatClampNeg n.toNatClampNeg))))) := by rw [wd_set]; rfl
        rw [hws] at hP1 hD1
        rw [hpure out hp (hp.set a (.inl (2, len, .inr (.inl (va_cpy f f sp.toNatClampNeg dp.toNatClampNeg n.toNatClampNeg)))))]
        exact h p l e s m args below meth c D cy A ad0 n0 mcT msT ad H1 locs1 cells slots lv [] _ out lsA (hs.put (List.length_set ..) hP1 hD1 hS1) ho hl
      · cases ho
    · cases ho
  · cases ho
abbrev zQ : (Nat → Int32) ⊕ (Nat → Int64) ⊕ (Nat → UInt32) ⊕ (Nat → UInt64) ⊕ (Nat → Option Nat) := .inr (.inr (.inr (.inr (fun _ => none))))
theorem re_zQ (cy : Nat → ClassId) (ad : Nat → Nat) (N : Nat) : re cy ad (.inl (3, N, zQ)) = .inl (cy 3, N, zQ) := by
  simp only [re, zQ]
  congr 7
  funext j
  split <;> rfl
theorem nre_zQ (n N : Nat) : nre n (.inl (3, N, zQ)) = true := by
  simp [nre, zQ]
theorem s_anew {β : Type} {X : MX} {fin : β → HP → Option Value × HP} {pc : Nat} {K : KT β} {mc ms : Nat} {ix : Nat} (N pc2 : Nat) (hby : N ≤ 100000) (hpure : ∀ (o : β) (h1 h2 : HP), fin o h1 = fin o h2) (hw : Cond.classLink X.1.cls ix "MownMaze$Walker" ∈ WS) (hd : decode X.2.1 pc = .ok (.anewarray ix, 3)) (hp2 : pc + 3 = pc2) (h : Snd X fin pc2 K mc ms) : Snd X fin pc (oNar 3 zQ N K) (1 + mc) (N + ms) := by
  subst hp2
  intro p l e s m args below meth c D cy A ad0 n0 mcT msT ad H locs cells slots lv st hp out lsA hs ho hl
  unfold oNar at ho
  split at ho
  · split at ho
    · rename_i n r _ hfr
      simp only [Bool.and_eq_true, Bool.not_eq_true', decide_eq_false_iff_not] at hfr
      obtain ⟨hf, hn0, hnN⟩ := hfr
      have hnN := Nat.eq_of_beq_eq_true hnN
      obtain ⟨Cc, G, a3, a4, a5, a6, hP, hD, hS, b1, b2, b3, b4⟩ := id hs
      have ht := Cc.2.2.2.2.2.1
      refine va_newq Cc.1 Cc.2.1 Cc.2.2.2.2.1 (ht _ hw) G.2.2.1.2.2.2.2 G.1 hP hD hS a3 hn0 hnN (by omega) (by omega) (by omega) hd (fun q cA H1 hK1 hP1 hD1 hS1 => ?_)
      have hcA : cA = cy 3 := by
        obtain ⟨kA, comp, -, -, -, e1⟩ := (hK1.2 4 (cA, _) rfl).2
        obtain ⟨kB, comp2, -, -, -, e2⟩ := (G.1.2 3 (cy 3, _) rfl).2
        exact Option.some.inj (e1.symm.trans e2)
      subst hcA
      rw [← re_zQ cy ad] at hP1 hD1
      obtain ⟨ad1, hs1, hq, hl1, hst1⟩ := hs.new hf (x := .inl (3, N, zQ)) (nre_zQ _ _) hP1 hD1 hS1
      have hr := h p l e s m args below meth c D cy A ad0 n0 mcT msT ad1 H1 locs (cells + 1) (slots + N) lv _ _ out lsA hs1 ho (by rw [hl1]; exact hl)
      rw [hpure out hp (hp ++ [.inl (3, N, zQ)]), ← hst1, ← hq]
      exact hr
    · cases ho
  · cases ho
def oQw {β : Type} (K : KT β) : KT β := fun lv st hp => match st with
  | .ref v :: .int i :: .ref a :: r => (match hp[a]?, hp[v]? with
    | some (.inl (c, n, .inr (.inr (.inr (.inr f))))), some (.inr (cv, _)) => (match Nat.beq c 3 && Nat.beq cv 9 with
      | true => if i < 0 ∨ n ≤ i.toNatClampNeg then none else K lv r (hp.set a (.inl (3, n, .inr (.inr (.inr (.inr (va_up f i.toNatClampNeg (some v))))))))
      | false => none)
    | _, _ => none)
  | _ => none
theorem s_Qw {β : Type} {X : MX} {fin : β → HP → Option Value × HP} {pc : Nat} {K : KT β} {mc ms : Nat} (pc2 : Nat) (hc9 : vwCl[9]? = some (RX9, TX9, 5)) (hpure : ∀ (o : β) (h1 h2 : HP), fin o h1 = fin o h2) (hd : decode X.2.1 pc = .ok (.aastore, 1)) (hp2 : pc + 1 = pc2) (h : Snd X fin pc2 K mc ms) : Snd X fin pc (oQw K) mc ms := by
  subst hp2
  intro p l e s m args below meth c D cy A ad0 n0 mcT msT ad H locs cells slots lv st hp out lsA hs ho hl
  unfold oQw at ho
  split at ho
  · split at ho
    · split at ho
      · split at ho
        · cases ho
        · rename_i v i a r _ _ c0 n f cv vs he hev _ hb hin
          simp only [Bool.and_eq_true] at hb
          have hc := Nat.eq_of_beq_eq_true hb.1
          have hc2 := Nat.eq_of_beq_eq_true hb.2
          subst hc
          subst hc2
          obtain ⟨Cc, G, a3, a4, a5, a6, hP, hD, hS, b1, b2, b3, b4⟩ := id hs
          have hee := wd_at (cy := cy) (ad := ad) a he
          have hev2 := wd_at (cy := cy) (ad := ad) v hev
          have hi2 : i.toNatClampNeg < n := by
            rcases Nat.lt_or_ge i.toNatClampNeg n with q | q
            · exact q
            · exact absurd (Or.inr q) hin
          refine va_astq (r := (RX9, TX9, 5)) Cc.1 Cc.2.1 G.1 hP hD hS a 3 v 9 hee rfl hev2 hc9 hin hd (fun H1 locs1 hP1 hD1 hS1 => ?_)
          have hws : (wd cy ad hp).set a (ad a, .inl (cy 3, n, .inr (.inr (.inr (.inr (va_up (fun j => if j < n then (f j).map ad else none) i.toNatClampNeg (some (ad v)))))))) = wd cy ad (hp.set a (.inl (3, n, .inr (.inr (.inr (.inr (va_up f i.toNatClampNeg (some v)))))))) := by
            rw [wd_set]
            simp only [re]
            congr 9
            funext j
            unfold va_up
            by_cases hj : j = i.toNatClampNeg
            · subst hj
              simp [hi2]
            · simp [hj]
          rw [hws] at hP1 hD1
          rw [hpure out hp (hp.set a (.inl (3, n, .inr (.inr (.inr (.inr (va_up f i.toNatClampNeg (some v))))))))]
          exact h p l e s m args below meth c D cy A ad0 n0 mcT msT ad H1 locs1 cells slots lv r _ out lsA (hs.put (List.length_set ..) hP1 hD1 hS1) ho hl
      · cases ho
    · cases ho
  · cases ho
def oMax {β : Type} (k : KT β) : KT β := fun lv st hp => match st with
  | .int y :: .int x :: r => (match Nat.ble (catsum r) 8 with
    | true => k lv (.int (if x < y then y else x) :: r) hp
    | false => none)
  | _ => none
theorem s_max {β : Type} {X : MX} {fin : β → HP → Option Value × HP} {pc : Nat} {k : KT β} {mc ms : Nat} {ix : Nat} (pc2 : Nat) (hw : Cond.methodLink X.1.cls ix Lib.Math.max.name ∈ WS) (hst : Cond.static Lib.Math.max.name ∈ WS) (hin : Cond.initialized "java/lang/Math" ∈ WS) (hcd : Cond.code Lib.Math.max.name Lib.Math.max.code 2 (some .int) ∈ WS) (hf : 1 ≤ X.2.2.2.2.2.frames) (hlc : 21 ≤ X.2.2.2.2.2.locals) (hd : decode X.2.1 pc = .ok (.invokestatic ix, 3)) (hp2 : pc + 3 = pc2) (h : Snd X fin pc2 k mc ms) : Snd X fin pc (oMax k) mc ms := by
  subst hp2
  intro p l e s m args below meth c D cy A ad0 n0 mcT msT ad H locs cells slots lv st hp out lsA hs ho hl
  unfold oMax at ho
  split at ho
  · split at ho
    · rename_i y x r _ hc
      have hc := Nat.le_of_ble_eq_true hc
      obtain ⟨Cc, G, a3, a4, a5, a6, hP, hD, hS, b1, b2, b3, b4⟩ := id hs
      have ht := Cc.2.2.2.2.2.1
      have hcs : ((r.map (rv ad)).map fun v => v.category).sum ≤ 8 := by rw [rv_catsum]; exact hc
      exact va_mmax (rest := r.map (rv ad)) Cc.1 Cc.2.1 (Cc.2.2.2.1.trans hl.1.symm) Cc.2.2.2.2.1 (ht _ hw) (ht _ hst) (ht _ hin) (ht _ hcd) hf (by omega) (by omega) (by omega) hd (h p l e s m args below meth c D cy A ad0 n0 mcT msT ad H locs cells slots lv _ hp out lsA hs ho hl)
    · cases ho
  · cases ho
def oMin {β : Type} (k : KT β) : KT β := fun lv st hp => match st with
  | .int y :: .int x :: r => (match Nat.ble (catsum r) 8 with
    | true => k lv (.int (if y < x then y else x) :: r) hp
    | false => none)
  | _ => none
theorem s_min {β : Type} {X : MX} {fin : β → HP → Option Value × HP} {pc : Nat} {k : KT β} {mc ms : Nat} {ix : Nat} (pc2 : Nat) (hw : Cond.methodLink X.1.cls ix Lib.Math.min.name ∈ WS) (hst : Cond.static Lib.Math.min.name ∈ WS) (hin : Cond.initialized "java/lang/Math" ∈ WS) (hcd : Cond.code Lib.Math.min.name Lib.Math.min.code 2 (some .int) ∈ WS) (hf : 1 ≤ X.2.2.2.2.2.frames) (hlc : 21 ≤ X.2.2.2.2.2.locals) (hd : decode X.2.1 pc = .ok (.invokestatic ix, 3)) (hp2 : pc + 3 = pc2) (h : Snd X fin pc2 k mc ms) : Snd X fin pc (oMin k) mc ms := by
  subst hp2
  intro p l e s m args below meth c D cy A ad0 n0 mcT msT ad H locs cells slots lv st hp out lsA hs ho hl
  unfold oMin at ho
  split at ho
  · split at ho
    · rename_i y x r _ hc
      have hc := Nat.le_of_ble_eq_true hc
      obtain ⟨Cc, G, a3, a4, a5, a6, hP, hD, hS, b1, b2, b3, b4⟩ := id hs
      have ht := Cc.2.2.2.2.2.1
      have hcs : ((r.map (rv ad)).map fun v => v.category).sum ≤ 8 := by rw [rv_catsum]; exact hc
      exact va_mmin (rest := r.map (rv ad)) Cc.1 Cc.2.1 (Cc.2.2.2.1.trans hl.1.symm) Cc.2.2.2.2.1 (ht _ hw) (ht _ hst) (ht _ hin) (ht _ hcd) hf (by omega) (by omega) (by omega) hd (h p l e s m args below meth c D cy A ad0 n0 mcT msT ad H locs cells slots lv _ hp out lsA hs ho hl)
    · cases ho
  · cases ho
