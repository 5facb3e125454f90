-- ===== end of PART A; then your names; then what follows =====
/-! THE CLAIM OUT OF ONE WALK OF THE LAW'S BODY. Your part is whole_start (and what it stands on); all else here is the same for every law, but numbers. -/
def R_law : String := "MownMazeLaw"
def lw_P (b : Addr) (xs : List Int32) (args : Array Value) (s : State) : Prop := args = #[.ref b] ∧ s.IntsAt b xs ∧ xs.length ≤ 3072 ∧ (Jvm.Cond.and given_1 narrow_1).before args s = true
def lw_Q (_ : Array Value) (s : State) (o : Outcome) (t : State) : Prop := o = .returned (some (.int 1)) ∧ Framed s o t [] 601024 7293034
def lw_Z (below : List Frame) (a : Array Value) (s : State) : State → Prop := fun t => ∃ o, t.status = .running ∧ Ended t below o ∧ lw_Q a s o t
/-- the law's own end, with 1 on the stack, nothing written that was there before, its room as the claim has it -/
theorem lw_ret {p : Program} {l : Launch} {e : Env} {s : State} {m : MethodId} {below : List Frame} {meth : Method} {c : Code} {b : Nat} (hx : p.tables.exec = Jvm.exec) (hb : c.code = code) (hr : meth.sig.returnType = ret) (hlocks : meth.locks = false) {pc : Nat} {H : Heap} {ls : Array Slot} (hdg : decode code pc = .ok (.ireturn, 1)) : W p l e room_1 s m #[Value.ref b] below meth c H [] 601024 7293034 (lw_Z below #[Value.ref b] s) (F0 m pc ls [.int 1]) := by
  intro T hT X
  obtain ⟨fs, hret, hrun, hended, hW, hframe⟩ := X.leave (v := some (.int 1)) (hlocks := hlocks) (fun h => by rw [hr] at h; cases h)
  have hmeth' : T.vm.method? m = some meth := X.method'
  refine ⟨T.setFrames fs, ?_, .returned (some (.int 1)), hrun, hended, rfl, ⟨_, rfl⟩, hW, hframe⟩
  jvm_step X.here [X.here.top, hx, hb, hdg, hmeth', hr, ret, narrow_b1]
  (try refine ⟨rfl, ?_⟩); (try refine ⟨rfl, ?_⟩)
  first | (intro acts; rw [hret _ acts rfl rfl rfl]) | rw [hret _ _ rfl rfl rfl]
  exact Steps.refl _
/-- what holds at the law's entry: the machine, the code, the tables' words (any of lw_tbl by 'hts w (by decide +kernel)'), the script of L ints xs at the cell b, what the Statement gives of the start (any of its parts by flat_of_before) -/
def lw_At (p : Program) (s : State) (m : MethodId) (meth : Method) (c : Code) (b L : Nat) (xs : Nat → Int32) : Prop :=
  p.tables.exec = Jvm.exec ∧ c.code = code ∧ meth.sig.returnType = ret ∧ c.maxLocals = 7 ∧ s.vm.findClass R_law = some m.cls ∧ (∀ w ∈ lw_tbl, w.before #[Value.ref b] s = true) ∧ va_X b L xs s s.heap ∧ b < s.heap.size ∧ meth.locks = false ∧ (Jvm.Cond.and given_1 narrow_1).before #[Value.ref b] s = true
def XLaw (nm : String) : MX := (⟨"MownMazeLaw", nm, "([I)Z"⟩, code, 7, ret, [], room_1)
/-- both sides answer alike, and stay alike -/
def Step {γ δ : Type} (Inv : HP → HP → Prop) (f : List Value → HP → Option γ) (fc : γ → HP → Option Value × HP) (g : List Value → HP → Option δ) (fm : δ → HP → Option Value × HP) (as : List Value) : Prop :=
  ∀ hc hm, Inv hc hm → ∃ oc om, f (.ref 0 :: as) hc = some oc ∧ g (.ref 0 :: as) hm = some om ∧ (∃ v : Int32, (fc oc hc).1 = some (.int v) ∧ (fm om hm).1 = some (.int v)) ∧ ∃ hc2 hm2, Ren (fc oc hc).2 hc2 ∧ Ren (fm om hm).2 hm2 ∧ Inv hc2 hm2
def InvOK (Inv : HP → HP → Prop) : Prop := ∀ hc hm, Inv hc hm → recvOK (some 10) [.ref 0] hc = true ∧ recvOK (some 12) [.ref 0] hm = true ∧ hc.length ≤ 2000 ∧ hm.length ≤ 2000
abbrev wO (cy : Nat → Nat) (qo : Nat) (fo : Nat → Int64) : va_W := [(qo, .inl (cy 2, 1, .inr (.inl fo)))]
abbrev AL (s : State) : Nat → Prop := fun q => s.heap.size ≤ q
/-- the head of the law's loop, with i calls done -/
def HD (Inv : HP → HP → Prop) (p : Program) (l : Launch) (e : Env) (s : State) (m : MethodId) (below : List Frame) (meth : Method) (c : Code) (b : Nat) (D : va_G) (cy adS : Nat → Nat) (i : Nat) : Prop :=
  ∀ (hc hm : HP) (ad1 ad2 : Nat → Nat) (qo : Nat) (fo : Nat → Int64) (H : Heap) (locs : List Loc) (cells slots : Nat) (ls : Array Slot), Inv hc hm → (∀ n, 2000 ≤ n → ad1 n = adS n) → (∀ n, 2000 ≤ n → ad2 n = adS n) →
    va_P D vwCl (wd cy ad1 hc ++ (wd cy ad2 hm ++ wO cy qo fo)) H → va_D (AL s) (wd cy ad1 hc ++ (wd cy ad2 hm ++ wO cy qo fo)) → va_S (AL s) s.heap H locs → cells ≤ 1000 + 100 * i → slots ≤ 100000 + 1000 * i →
    lv_has ls 7 [(0, .ref b), (1, .ref (ad1 0)), (2, .ref (ad2 0)), (3, .ref qo), (4, .int (nI (6 * i)))] →
    W p l e room_1 s m #[Value.ref b] below meth c H locs cells slots (lw_Z below #[Value.ref b] s) (F0 m 23 ls [])
section
variable {p : Program} {l : Launch} {e : Env} {s : State} {m : MethodId} {below : List Frame} {meth : Method} {c : Code} {b L : Nat} {xs : Nat → Int32} {D : va_G} {cy adS : Nat → Nat} {Inv : HP → HP → Prop}
theorem lw_Cx (C0 : lw_At p s m meth c b L xs) : Cx (XLaw meth.name) p s m #[Value.ref b] meth c := by
  obtain ⟨hx, hb, hr, hml, hown, hts, hX, hbl, hlocks, hgv⟩ := C0
  exact ⟨hx, hb, hr, hml, hown, fun w h => hts w (WS_tb h), hlocks, rfl⟩
/-- behind a call: on to the next -/
theorem law_next (C0 : lw_At p s m meth c b L xs) {i : Nat} (hN : HD Inv p l e s m below meth c b D cy adS (i + 1)) {hc hm : HP} {ad1 ad2 : Nat → Nat} {qo : Nat} {fo : Nat → Int64} {H : Heap} {locs : List Loc} {cells slots : Nat} {ls : Array Slot} (hI : Inv hc hm) (ha1 : ∀ n, 2000 ≤ n → ad1 n = adS n) (ha2 : ∀ n, 2000 ≤ n → ad2 n = adS n) (hP : va_P D vwCl (wd cy ad1 hc ++ (wd cy ad2 hm ++ wO cy qo fo)) H) (hD : va_D (AL s) (wd cy ad1 hc ++ (wd cy ad2 hm ++ wO cy qo fo))) (hS : va_S (AL s) s.heap H locs) (h1 : cells ≤ 1000 + 100 * (i + 1)) (h2 : slots ≤ 100000 + 1000 * (i + 1)) (hl : lv_has ls 7 [(0, .ref b), (1, .ref (ad1 0)), (2, .ref (ad2 0)), (3, .ref qo), (4, .int (nI (6 * i)))]) : W p l e room_1 s m #[Value.ref b] below meth c H locs cells slots (lw_Z below #[Value.ref b] s) (F0 m 1439 ls []) := by
  obtain ⟨hx, hb, hr, hml, hown, hts, hX, hbl, hlocks, hgv⟩ := C0
  refine lv_iinc (v := nI (6 * i) + 6) (lv' := [(4, .int (nI (6 * i) + 6)), (0, .ref b), (1, .ref (ad1 0)), (2, .ref (ad2 0)), (3, .ref qo)]) hx hb dL_law_1439 hl (k := 4) rfl rfl (by decide) rfl (fun ls hl => ?_)
  refine lv_goto (tgt := 23) hx hb dL_law_1442 (by decide) ?_
  have he : nI (6 * i) + 6 = nI (6 * (i + 1)) := by rw [show (6 : Int32) = nI 6 from rfl, nI_add]; congr 1
  rw [he] at hl
  exact hN hc hm ad1 ad2 qo fo H locs cells slots ls hI ha1 ha2 hP hD hS h1 h2 (lv_sub hl [1, 2, 3, 4, 0] rfl)
theorem law_in {i k : Nat} {kk : Int32} (hk : kk = nI k) (h6 : 6 * i + 6 ≤ L) (hL : L ≤ 3072) (h : k < 6) : vp_in (nI (6 * i) + kk) L := by
  rw [hk, nI_add]
  exact vp_in_nI (by omega) (by omega)
end
section
variable {p : Program} {l : Launch} {e : Env} {s : State} {m : MethodId} {below : List Frame} {meth : Method} {c : Code} {b L : Nat} {xs : Nat → Int32} {D : va_G} {cy adS : Nat → Nat} {Inv : HP → HP → Prop}
set_option maxRecDepth 20000 in
set_option maxHeartbeats 4000000 in
theorem law_op_0 (hI0 : InvOK Inv) (C0 : lw_At p s m meth c b L xs) (hL : L ≤ 3072) (G : GS D cy (AL s) adS s s.heap) {i : Nat} (h6 : 6 * i + 6 ≤ L) (hN : HD Inv p l e s m below meth c b D cy adS (i + 1)) {hc hm : HP} {ad1 ad2 : Nat → Nat} {qo : Nat} {fo : Nat → Int64} {H : Heap} {locs : List Loc} {cells slots : Nat} {ls : Array Slot} (hI : Inv hc hm) (ha1 : ∀ n, 2000 ≤ n → ad1 n = adS n) (ha2 : ∀ n, 2000 ≤ n → ad2 n = adS n) (hP : va_P D vwCl (wd cy ad1 hc ++ (wd cy ad2 hm ++ wO cy qo fo)) H) (hD : va_D (AL s) (wd cy ad1 hc ++ (wd cy ad2 hm ++ wO cy qo fo))) (hS : va_S (AL s) s.heap H locs) (hcl : cells ≤ 1000 + 100 * i) (hsl : slots ≤ 100000 + 1000 * i) (hl : lv_has ls 7 [(0, .ref b), (1, .ref (ad1 0)), (2, .ref (ad2 0)), (3, .ref qo), (4, .int (nI (6 * i)))]) (St : Step Inv EX10_feed fIH EX12_feed fIH [.int (xs (nI (6 * i) + 1).toNatClampNeg), .int (xs (nI (6 * i) + 2).toNatClampNeg), .int (xs (nI (6 * i) + 3).toNatClampNeg), .int (xs (nI (6 * i) + 4).toNatClampNeg), .int (xs (nI (6 * i) + 5).toNatClampNeg)]) : W p l e room_1 s m #[Value.ref b] below meth c H locs cells slots (lw_Z below #[Value.ref b] s) (F0 m 248 ls []) := by
  have Cx0 := lw_Cx C0
  obtain ⟨hx, hb, hr, hml, hown, hts, hX, hbl, hlocks, hgv⟩ := id C0
  have hbA : ¬ (AL s) b := Nat.not_le.mpr hbl
  obtain ⟨oc, om, q1, q2, ⟨v, hv1, hv2⟩, hc2, hm2, hR1, hR2, hI2⟩ := St hc hm hI
  obtain ⟨k1, k2, n1, n2⟩ := hI0 hc hm hI
  have z1 : 0 < hc.length := by
    obtain ⟨b0, As, fs, h1, h2⟩ := recv_inv (ci := 10) rfl k1
    cases h1
    exact (List.getElem?_eq_some_iff.mp h2).1
  have z2 : 0 < hm.length := by
    obtain ⟨b0, As, fs, h1, h2⟩ := recv_inv (ci := 12) rfl k2
    cases h1
    exact (List.getElem?_eq_some_iff.mp h2).1
  refine lv_aload_n hx hb dL_law_248 rfl (lv_at hl 1 rfl) ?_
  refine lv_aload_n hx hb dL_law_249 rfl (lv_at hl 0 rfl) ?_
  refine lv_iload hx hb dL_law_250 (lv_at hl 4 rfl) ?_
  refine lv_iconst (v := 1) hx hb dL_law_252 (by decide) ?_
  refine lv_iadd hx hb dL_law_253 ?_
  refine va_sld hx hb hX hbl hbA hS (law_in (k := 1) rfl h6 hL (by decide)) dL_law_254 ?_
  refine lv_aload_n hx hb dL_law_255 rfl (lv_at hl 0 rfl) ?_
  refine lv_iload hx hb dL_law_256 (lv_at hl 4 rfl) ?_
  refine lv_iconst (v := 2) hx hb dL_law_258 (by decide) ?_
  refine lv_iadd hx hb dL_law_259 ?_
  refine va_sld hx hb hX hbl hbA hS (law_in (k := 2) rfl h6 hL (by decide)) dL_law_260 ?_
  refine lv_aload_n hx hb dL_law_261 rfl (lv_at hl 0 rfl) ?_
  refine lv_iload hx hb dL_law_262 (lv_at hl 4 rfl) ?_
  refine lv_iconst (v := 3) hx hb dL_law_264 (by decide) ?_
  refine lv_iadd hx hb dL_law_265 ?_
  refine va_sld hx hb hX hbl hbA hS (law_in (k := 3) rfl h6 hL (by decide)) dL_law_266 ?_
  refine lv_aload_n hx hb dL_law_267 rfl (lv_at hl 0 rfl) ?_
  refine lv_iload hx hb dL_law_268 (lv_at hl 4 rfl) ?_
  refine lv_iconst (v := 4) hx hb dL_law_270 (by decide) ?_
  refine lv_iadd hx hb dL_law_271 ?_
  refine va_sld hx hb hX hbl hbA hS (law_in (k := 4) rfl h6 hL (by decide)) dL_law_272 ?_
  refine lv_aload_n hx hb dL_law_273 rfl (lv_at hl 0 rfl) ?_
  refine lv_iload hx hb dL_law_274 (lv_at hl 4 rfl) ?_
  refine lv_iconst (v := 5) hx hb dL_law_276 (by decide) ?_
  refine lv_iadd hx hb dL_law_277 ?_
  refine va_sld hx hb hX hbl hbA hS (law_in (k := 5) rfl h6 hL (by decide)) dL_law_278 ?_
  refine lw_call (L1 := []) Cx0 G (fun q h => h) cmX10_feed (run_V (X := XLaw meth.name) rfl clX10 yoX10_feed rfl tw_395 tw_396 tw_397 ⟨Nat.le_of_ble_eq_true rfl, Nat.le_of_ble_eq_true rfl⟩ dL_law_279) [.ref 0, .int (xs (nI (6 * i) + 1).toNatClampNeg), .int (xs (nI (6 * i) + 2).toNatClampNeg), .int (xs (nI (6 * i) + 3).toNatClampNeg), .int (xs (nI (6 * i) + 4).toNatClampNeg), .int (xs (nI (6 * i) + 5).toNatClampNeg)] [] q1 rfl k1 (Nat.le_of_ble_eq_true rfl) hl.1 n1 ha1 hP hD hS (by show cells + 0 ≤ 601024; omega) (by show slots + 0 ≤ 7293034; omega) (fun ad3 H locs g1 g2 g3 ha3 hP hD hS => ?_)
  rw [hv1]
  show W p l e room_1 s m _ below meth c H locs _ _ _ (F0 m 282 ls [.int v])
  refine lv_aload_n hx hb dL_law_282 rfl (lv_at hl 2 rfl) ?_
  refine lv_aload_n hx hb dL_law_283 rfl (lv_at hl 0 rfl) ?_
  refine lv_iload hx hb dL_law_284 (lv_at hl 4 rfl) ?_
  refine lv_iconst (v := 1) hx hb dL_law_286 (by decide) ?_
  refine lv_iadd hx hb dL_law_287 ?_
  refine va_sld hx hb hX hbl hbA hS (law_in (k := 1) rfl h6 hL (by decide)) dL_law_288 ?_
  refine lv_aload_n hx hb dL_law_289 rfl (lv_at hl 0 rfl) ?_
  refine lv_iload hx hb dL_law_290 (lv_at hl 4 rfl) ?_
  refine lv_iconst (v := 2) hx hb dL_law_292 (by decide) ?_
  refine lv_iadd hx hb dL_law_293 ?_
  refine va_sld hx hb hX hbl hbA hS (law_in (k := 2) rfl h6 hL (by decide)) dL_law_294 ?_
  refine lv_aload_n hx hb dL_law_295 rfl (lv_at hl 0 rfl) ?_
  refine lv_iload hx hb dL_law_296 (lv_at hl 4 rfl) ?_
  refine lv_iconst (v := 3) hx hb dL_law_298 (by decide) ?_
  refine lv_iadd hx hb dL_law_299 ?_
  refine va_sld hx hb hX hbl hbA hS (law_in (k := 3) rfl h6 hL (by decide)) dL_law_300 ?_
  refine lv_aload_n hx hb dL_law_301 rfl (lv_at hl 0 rfl) ?_
  refine lv_iload hx hb dL_law_302 (lv_at hl 4 rfl) ?_
  refine lv_iconst (v := 4) hx hb dL_law_304 (by decide) ?_
  refine lv_iadd hx hb dL_law_305 ?_
  refine va_sld hx hb hX hbl hbA hS (law_in (k := 4) rfl h6 hL (by decide)) dL_law_306 ?_
  refine lv_aload_n hx hb dL_law_307 rfl (lv_at hl 0 rfl) ?_
  refine lv_iload hx hb dL_law_308 (lv_at hl 4 rfl) ?_
  refine lv_iconst (v := 5) hx hb dL_law_310 (by decide) ?_
  refine lv_iadd hx hb dL_law_311 ?_
  refine va_sld hx hb hX hbl hbA hS (law_in (k := 5) rfl h6 hL (by decide)) dL_law_312 ?_
  refine lw_call (L1 := wd cy ad3 (fIH oc hc).2) Cx0 G (fun q h => h) cmX12_feed (run_V (X := XLaw meth.name) rfl clX12 yoX12_feed rfl tw_1422 tw_1423 tw_1424 ⟨Nat.le_of_ble_eq_true rfl, Nat.le_of_ble_eq_true rfl⟩ dL_law_313) [.ref 0, .int (xs (nI (6 * i) + 1).toNatClampNeg), .int (xs (nI (6 * i) + 2).toNatClampNeg), .int (xs (nI (6 * i) + 3).toNatClampNeg), .int (xs (nI (6 * i) + 4).toNatClampNeg), .int (xs (nI (6 * i) + 5).toNatClampNeg)] [.int v] q2 rfl k2 (Nat.le_of_ble_eq_true rfl) hl.1 n2 ha2 hP hD hS (by show cells + 0 + 0 ≤ 601024; omega) (by show slots + 0 + 0 ≤ 7293034; omega) (fun ad4 H locs g4 g5 g6 ha4 hP hD hS => ?_)
  rw [hv2]
  show W p l e room_1 s m _ below meth c H locs _ _ _ (F0 m 316 ls [.int v, .int v])
  refine lv_icmp_eq (tgt := 1439) hx hb dL_law_316 (by decide) (fun _ => ?_) (fun hne => absurd rfl hne)
  obtain ⟨ad5, g7, g8, g9, hP, hD⟩ := va_ren (L1 := []) hR1 hP hD
  obtain ⟨ad6, g10, g11, g12, hP, hD⟩ := va_ren (L1 := wd cy ad5 hc2) hR2 hP hD
  have e1 : ad5 0 = ad1 0 := g8.trans (g3 0 (Or.inl z1))
  have e2 : ad6 0 = ad2 0 := g11.trans (g6 0 (Or.inl z2))
  rw [← e1, ← e2] at hl
  exact law_next C0 hN hI2 (fun n hn => (g9 n hn).trans (ha3 n hn)) (fun n hn => (g12 n hn).trans (ha4 n hn)) hP hD hS (by omega) (by omega) hl
set_option maxRecDepth 20000 in
set_option maxHeartbeats 4000000 in
theorem law_op_1 (hI0 : InvOK Inv) (C0 : lw_At p s m meth c b L xs) (hL : L ≤ 3072) (G : GS D cy (AL s) adS s s.heap) {i : Nat} (h6 : 6 * i + 6 ≤ L) (hN : HD Inv p l e s m below meth c b D cy adS (i + 1)) {hc hm : HP} {ad1 ad2 : Nat → Nat} {qo : Nat} {fo : Nat → Int64} {H : Heap} {locs : List Loc} {cells slots : Nat} {ls : Array Slot} (hI : Inv hc hm) (ha1 : ∀ n, 2000 ≤ n → ad1 n = adS n) (ha2 : ∀ n, 2000 ≤ n → ad2 n = adS n) (hP : va_P D vwCl (wd cy ad1 hc ++ (wd cy ad2 hm ++ wO cy qo fo)) H) (hD : va_D (AL s) (wd cy ad1 hc ++ (wd cy ad2 hm ++ wO cy qo fo))) (hS : va_S (AL s) s.heap H locs) (hcl : cells ≤ 1000 + 100 * i) (hsl : slots ≤ 100000 + 1000 * i) (hl : lv_has ls 7 [(0, .ref b), (1, .ref (ad1 0)), (2, .ref (ad2 0)), (3, .ref qo), (4, .int (nI (6 * i)))]) (St : Step Inv EX10_meadow fIH EX12_meadow fIH [.int (xs (nI (6 * i) + 1).toNatClampNeg)]) : W p l e room_1 s m #[Value.ref b] below meth c H locs cells slots (lw_Z below #[Value.ref b] s) (F0 m 321 ls []) := by
  have Cx0 := lw_Cx C0
  obtain ⟨hx, hb, hr, hml, hown, hts, hX, hbl, hlocks, hgv⟩ := id C0
  have hbA : ¬ (AL s) b := Nat.not_le.mpr hbl
  obtain ⟨oc, om, q1, q2, ⟨v, hv1, hv2⟩, hc2, hm2, hR1, hR2, hI2⟩ := St hc hm hI
  obtain ⟨k1, k2, n1, n2⟩ := hI0 hc hm hI
  have z1 : 0 < hc.length := by
    obtain ⟨b0, As, fs, h1, h2⟩ := recv_inv (ci := 10) rfl k1
    cases h1
    exact (List.getElem?_eq_some_iff.mp h2).1
  have z2 : 0 < hm.length := by
    obtain ⟨b0, As, fs, h1, h2⟩ := recv_inv (ci := 12) rfl k2
    cases h1
    exact (List.getElem?_eq_some_iff.mp h2).1
  refine lv_aload_n hx hb dL_law_321 rfl (lv_at hl 1 rfl) ?_
  refine lv_aload_n hx hb dL_law_322 rfl (lv_at hl 0 rfl) ?_
  refine lv_iload hx hb dL_law_323 (lv_at hl 4 rfl) ?_
  refine lv_iconst (v := 1) hx hb dL_law_325 (by decide) ?_
  refine lv_iadd hx hb dL_law_326 ?_
  refine va_sld hx hb hX hbl hbA hS (law_in (k := 1) rfl h6 hL (by decide)) dL_law_327 ?_
  refine lw_call (L1 := []) Cx0 G (fun q h => h) cmX10_meadow (run_V (X := XLaw meth.name) rfl clX10 yoX10_meadow rfl tw_411 tw_412 tw_413 ⟨Nat.le_of_ble_eq_true rfl, Nat.le_of_ble_eq_true rfl⟩ dL_law_328) [.ref 0, .int (xs (nI (6 * i) + 1).toNatClampNeg)] [] q1 rfl k1 (Nat.le_of_ble_eq_true rfl) hl.1 n1 ha1 hP hD hS (by show cells + 0 ≤ 601024; omega) (by show slots + 0 ≤ 7293034; omega) (fun ad3 H locs g1 g2 g3 ha3 hP hD hS => ?_)
  rw [hv1]
  show W p l e room_1 s m _ below meth c H locs _ _ _ (F0 m 331 ls [.int v])
  refine lv_aload_n hx hb dL_law_331 rfl (lv_at hl 2 rfl) ?_
  refine lv_aload_n hx hb dL_law_332 rfl (lv_at hl 0 rfl) ?_
  refine lv_iload hx hb dL_law_333 (lv_at hl 4 rfl) ?_
  refine lv_iconst (v := 1) hx hb dL_law_335 (by decide) ?_
  refine lv_iadd hx hb dL_law_336 ?_
  refine va_sld hx hb hX hbl hbA hS (law_in (k := 1) rfl h6 hL (by decide)) dL_law_337 ?_
  refine lw_call (L1 := wd cy ad3 (fIH oc hc).2) Cx0 G (fun q h => h) cmX12_meadow (run_V (X := XLaw meth.name) rfl clX12 yoX12_meadow rfl tw_1426 tw_1427 tw_1428 ⟨Nat.le_of_ble_eq_true rfl, Nat.le_of_ble_eq_true rfl⟩ dL_law_338) [.ref 0, .int (xs (nI (6 * i) + 1).toNatClampNeg)] [.int v] q2 rfl k2 (Nat.le_of_ble_eq_true rfl) hl.1 n2 ha2 hP hD hS (by show cells + 0 + 9 ≤ 601024; omega) (by show slots + 0 + 65 ≤ 7293034; omega) (fun ad4 H locs g4 g5 g6 ha4 hP hD hS => ?_)
  rw [hv2]
  show W p l e room_1 s m _ below meth c H locs _ _ _ (F0 m 341 ls [.int v, .int v])
  refine lv_icmp_eq (tgt := 1439) hx hb dL_law_341 (by decide) (fun _ => ?_) (fun hne => absurd rfl hne)
  obtain ⟨ad5, g7, g8, g9, hP, hD⟩ := va_ren (L1 := []) hR1 hP hD
  obtain ⟨ad6, g10, g11, g12, hP, hD⟩ := va_ren (L1 := wd cy ad5 hc2) hR2 hP hD
  have e1 : ad5 0 = ad1 0 := g8.trans (g3 0 (Or.inl z1))
  have e2 : ad6 0 = ad2 0 := g11.trans (g6 0 (Or.inl z2))
  rw [← e1, ← e2] at hl
  exact law_next C0 hN hI2 (fun n hn => (g9 n hn).trans (ha3 n hn)) (fun n hn => (g12 n hn).trans (ha4 n hn)) hP hD hS (by omega) (by omega) hl
set_option maxRecDepth 20000 in
set_option maxHeartbeats 4000000 in
theorem law_op_2 (hI0 : InvOK Inv) (C0 : lw_At p s m meth c b L xs) (hL : L ≤ 3072) (G : GS D cy (AL s) adS s s.heap) {i : Nat} (h6 : 6 * i + 6 ≤ L) (hN : HD Inv p l e s m below meth c b D cy adS (i + 1)) {hc hm : HP} {ad1 ad2 : Nat → Nat} {qo : Nat} {fo : Nat → Int64} {H : Heap} {locs : List Loc} {cells slots : Nat} {ls : Array Slot} (hI : Inv hc hm) (ha1 : ∀ n, 2000 ≤ n → ad1 n = adS n) (ha2 : ∀ n, 2000 ≤ n → ad2 n = adS n) (hP : va_P D vwCl (wd cy ad1 hc ++ (wd cy ad2 hm ++ wO cy qo fo)) H) (hD : va_D (AL s) (wd cy ad1 hc ++ (wd cy ad2 hm ++ wO cy qo fo))) (hS : va_S (AL s) s.heap H locs) (hcl : cells ≤ 1000 + 100 * i) (hsl : slots ≤ 100000 + 1000 * i) (hl : lv_has ls 7 [(0, .ref b), (1, .ref (ad1 0)), (2, .ref (ad2 0)), (3, .ref qo), (4, .int (nI (6 * i)))]) (St : Step Inv EX10_fault fI EX12_fault fIH []) : W p l e room_1 s m #[Value.ref b] below meth c H locs cells slots (lw_Z below #[Value.ref b] s) (F0 m 346 ls []) := by
  have Cx0 := lw_Cx C0
  obtain ⟨hx, hb, hr, hml, hown, hts, hX, hbl, hlocks, hgv⟩ := id C0
  have hbA : ¬ (AL s) b := Nat.not_le.mpr hbl
  obtain ⟨oc, om, q1, q2, ⟨v, hv1, hv2⟩, hc2, hm2, hR1, hR2, hI2⟩ := St hc hm hI
  obtain ⟨k1, k2, n1, n2⟩ := hI0 hc hm hI
  have z1 : 0 < hc.length := by
    obtain ⟨b0, As, fs, h1, h2⟩ := recv_inv (ci := 10) rfl k1
    cases h1
    exact (List.getElem?_eq_some_iff.mp h2).1
  have z2 : 0 < hm.length := by
    obtain ⟨b0, As, fs, h1, h2⟩ := recv_inv (ci := 12) rfl k2
    cases h1
    exact (List.getElem?_eq_some_iff.mp h2).1
  refine lv_aload_n hx hb dL_law_346 rfl (lv_at hl 1 rfl) ?_
  refine lw_call (L1 := []) Cx0 G (fun q h => h) cmX10_fault (run_V (X := XLaw meth.name) rfl clX10 yoX10_fault rfl tw_706 tw_707 tw_708 ⟨Nat.le_of_ble_eq_true rfl, Nat.le_of_ble_eq_true rfl⟩ dL_law_347) [.ref 0] [] q1 rfl k1 (Nat.le_of_ble_eq_true rfl) hl.1 n1 ha1 hP hD hS (by show cells + 0 ≤ 601024; omega) (by show slots + 0 ≤ 7293034; omega) (fun ad3 H locs g1 g2 g3 ha3 hP hD hS => ?_)
  rw [hv1]
  show W p l e room_1 s m _ below meth c H locs _ _ _ (F0 m 350 ls [.int v])
  refine lv_aload_n hx hb dL_law_350 rfl (lv_at hl 2 rfl) ?_
  refine lw_call (L1 := wd cy ad3 (fI oc hc).2) Cx0 G (fun q h => h) cmX12_fault (run_V (X := XLaw meth.name) rfl clX12 yoX12_fault rfl tw_1682 tw_1683 tw_1684 ⟨Nat.le_of_ble_eq_true rfl, Nat.le_of_ble_eq_true rfl⟩ dL_law_351) [.ref 0] [.int v] q2 rfl k2 (Nat.le_of_ble_eq_true rfl) hl.1 n2 ha2 hP hD hS (by show cells + 0 + 0 ≤ 601024; omega) (by show slots + 0 + 0 ≤ 7293034; omega) (fun ad4 H locs g4 g5 g6 ha4 hP hD hS => ?_)
  rw [hv2]
  show W p l e room_1 s m _ below meth c H locs _ _ _ (F0 m 354 ls [.int v, .int v])
  refine lv_icmp_eq (tgt := 1439) hx hb dL_law_354 (by decide) (fun _ => ?_) (fun hne => absurd rfl hne)
  obtain ⟨ad5, g7, g8, g9, hP, hD⟩ := va_ren (L1 := []) hR1 hP hD
  obtain ⟨ad6, g10, g11, g12, hP, hD⟩ := va_ren (L1 := wd cy ad5 hc2) hR2 hP hD
  have e1 : ad5 0 = ad1 0 := g8.trans (g3 0 (Or.inl z1))
  have e2 : ad6 0 = ad2 0 := g11.trans (g6 0 (Or.inl z2))
  rw [← e1, ← e2] at hl
  exact law_next C0 hN hI2 (fun n hn => (g9 n hn).trans (ha3 n hn)) (fun n hn => (g12 n hn).trans (ha4 n hn)) hP hD hS (by omega) (by omega) hl
set_option maxRecDepth 20000 in
set_option maxHeartbeats 4000000 in
theorem law_op_3 (hI0 : InvOK Inv) (C0 : lw_At p s m meth c b L xs) (hL : L ≤ 3072) (G : GS D cy (AL s) adS s s.heap) {i : Nat} (h6 : 6 * i + 6 ≤ L) (hN : HD Inv p l e s m below meth c b D cy adS (i + 1)) {hc hm : HP} {ad1 ad2 : Nat → Nat} {qo : Nat} {fo : Nat → Int64} {H : Heap} {locs : List Loc} {cells slots : Nat} {ls : Array Slot} (hI : Inv hc hm) (ha1 : ∀ n, 2000 ≤ n → ad1 n = adS n) (ha2 : ∀ n, 2000 ≤ n → ad2 n = adS n) (hP : va_P D vwCl (wd cy ad1 hc ++ (wd cy ad2 hm ++ wO cy qo fo)) H) (hD : va_D (AL s) (wd cy ad1 hc ++ (wd cy ad2 hm ++ wO cy qo fo))) (hS : va_S (AL s) s.heap H locs) (hcl : cells ≤ 1000 + 100 * i) (hsl : slots ≤ 100000 + 1000 * i) (hl : lv_has ls 7 [(0, .ref b), (1, .ref (ad1 0)), (2, .ref (ad2 0)), (3, .ref qo), (4, .int (nI (6 * i)))]) (St : Step Inv EX10_where fI EX12_where fIH []) : W p l e room_1 s m #[Value.ref b] below meth c H locs cells slots (lw_Z below #[Value.ref b] s) (F0 m 359 ls []) := by
  have Cx0 := lw_Cx C0
  obtain ⟨hx, hb, hr, hml, hown, hts, hX, hbl, hlocks, hgv⟩ := id C0
  have hbA : ¬ (AL s) b := Nat.not_le.mpr hbl
  obtain ⟨oc, om, q1, q2, ⟨v, hv1, hv2⟩, hc2, hm2, hR1, hR2, hI2⟩ := St hc hm hI
  obtain ⟨k1, k2, n1, n2⟩ := hI0 hc hm hI
  have z1 : 0 < hc.length := by
    obtain ⟨b0, As, fs, h1, h2⟩ := recv_inv (ci := 10) rfl k1
    cases h1
    exact (List.getElem?_eq_some_iff.mp h2).1
  have z2 : 0 < hm.length := by
    obtain ⟨b0, As, fs, h1, h2⟩ := recv_inv (ci := 12) rfl k2
    cases h1
    exact (List.getElem?_eq_some_iff.mp h2).1
  refine lv_aload_n hx hb dL_law_359 rfl (lv_at hl 1 rfl) ?_
  refine lw_call (L1 := []) Cx0 G (fun q h => h) cmX10_where (run_V (X := XLaw meth.name) rfl clX10 yoX10_where rfl tw_710 tw_711 tw_712 ⟨Nat.le_of_ble_eq_true rfl, Nat.le_of_ble_eq_true rfl⟩ dL_law_360) [.ref 0] [] q1 rfl k1 (Nat.le_of_ble_eq_true rfl) hl.1 n1 ha1 hP hD hS (by show cells + 0 ≤ 601024; omega) (by show slots + 0 ≤ 7293034; omega) (fun ad3 H locs g1 g2 g3 ha3 hP hD hS => ?_)
  rw [hv1]
  show W p l e room_1 s m _ below meth c H locs _ _ _ (F0 m 363 ls [.int v])
  refine lv_aload_n hx hb dL_law_363 rfl (lv_at hl 2 rfl) ?_
  refine lw_call (L1 := wd cy ad3 (fI oc hc).2) Cx0 G (fun q h => h) cmX12_where (run_V (X := XLaw meth.name) rfl clX12 yoX12_where rfl tw_1686 tw_1687 tw_1688 ⟨Nat.le_of_ble_eq_true rfl, Nat.le_of_ble_eq_true rfl⟩ dL_law_364) [.ref 0] [.int v] q2 rfl k2 (Nat.le_of_ble_eq_true rfl) hl.1 n2 ha2 hP hD hS (by show cells + 0 + 0 ≤ 601024; omega) (by show slots + 0 + 0 ≤ 7293034; omega) (fun ad4 H locs g4 g5 g6 ha4 hP hD hS => ?_)
  rw [hv2]
  show W p l e room_1 s m _ below meth c H locs _ _ _ (F0 m 367 ls [.int v, .int v])
  refine lv_icmp_eq (tgt := 1439) hx hb dL_law_367 (by decide) (fun _ => ?_) (fun hne => absurd rfl hne)
  obtain ⟨ad5, g7, g8, g9, hP, hD⟩ := va_ren (L1 := []) hR1 hP hD
  obtain ⟨ad6, g10, g11, g12, hP, hD⟩ := va_ren (L1 := wd cy ad5 hc2) hR2 hP hD
  have e1 : ad5 0 = ad1 0 := g8.trans (g3 0 (Or.inl z1))
  have e2 : ad6 0 = ad2 0 := g11.trans (g6 0 (Or.inl z2))
  rw [← e1, ← e2] at hl
  exact law_next C0 hN hI2 (fun n hn => (g9 n hn).trans (ha3 n hn)) (fun n hn => (g12 n hn).trans (ha4 n hn)) hP hD hS (by omega) (by omega) hl
set_option maxRecDepth 20000 in
set_option maxHeartbeats 4000000 in
theorem law_op_4 (hI0 : InvOK Inv) (C0 : lw_At p s m meth c b L xs) (hL : L ≤ 3072) (G : GS D cy (AL s) adS s s.heap) {i : Nat} (h6 : 6 * i + 6 ≤ L) (hN : HD Inv p l e s m below meth c b D cy adS (i + 1)) {hc hm : HP} {ad1 ad2 : Nat → Nat} {qo : Nat} {fo : Nat → Int64} {H : Heap} {locs : List Loc} {cells slots : Nat} {ls : Array Slot} (hI : Inv hc hm) (ha1 : ∀ n, 2000 ≤ n → ad1 n = adS n) (ha2 : ∀ n, 2000 ≤ n → ad2 n = adS n) (hP : va_P D vwCl (wd cy ad1 hc ++ (wd cy ad2 hm ++ wO cy qo fo)) H) (hD : va_D (AL s) (wd cy ad1 hc ++ (wd cy ad2 hm ++ wO cy qo fo))) (hS : va_S (AL s) s.heap H locs) (hcl : cells ≤ 1000 + 100 * i) (hsl : slots ≤ 100000 + 1000 * i) (hl : lv_has ls 7 [(0, .ref b), (1, .ref (ad1 0)), (2, .ref (ad2 0)), (3, .ref qo), (4, .int (nI (6 * i)))]) (St : Step Inv EX10_mown fIH EX12_mown fIH [.int (xs (nI (6 * i) + 1).toNatClampNeg), .int (xs (nI (6 * i) + 2).toNatClampNeg)]) : W p l e room_1 s m #[Value.ref b] below meth c H locs cells slots (lw_Z below #[Value.ref b] s) (F0 m 372 ls []) := by
  have Cx0 := lw_Cx C0
  obtain ⟨hx, hb, hr, hml, hown, hts, hX, hbl, hlocks, hgv⟩ := id C0
  have hbA : ¬ (AL s) b := Nat.not_le.mpr hbl
  obtain ⟨oc, om, q1, q2, ⟨v, hv1, hv2⟩, hc2, hm2, hR1, hR2, hI2⟩ := St hc hm hI
  obtain ⟨k1, k2, n1, n2⟩ := hI0 hc hm hI
  have z1 : 0 < hc.length := by
    obtain ⟨b0, As, fs, h1, h2⟩ := recv_inv (ci := 10) rfl k1
    cases h1
    exact (List.getElem?_eq_some_iff.mp h2).1
  have z2 : 0 < hm.length := by
    obtain ⟨b0, As, fs, h1, h2⟩ := recv_inv (ci := 12) rfl k2
    cases h1
    exact (List.getElem?_eq_some_iff.mp h2).1
  refine lv_aload_n hx hb dL_law_372 rfl (lv_at hl 1 rfl) ?_
  refine lv_aload_n hx hb dL_law_373 rfl (lv_at hl 0 rfl) ?_
  refine lv_iload hx hb dL_law_374 (lv_at hl 4 rfl) ?_
  refine lv_iconst (v := 1) hx hb dL_law_376 (by decide) ?_
  refine lv_iadd hx hb dL_law_377 ?_
  refine va_sld hx hb hX hbl hbA hS (law_in (k := 1) rfl h6 hL (by decide)) dL_law_378 ?_
  refine lv_aload_n hx hb dL_law_379 rfl (lv_at hl 0 rfl) ?_
  refine lv_iload hx hb dL_law_380 (lv_at hl 4 rfl) ?_
  refine lv_iconst (v := 2) hx hb dL_law_382 (by decide) ?_
  refine lv_iadd hx hb dL_law_383 ?_
  refine va_sld hx hb hX hbl hbA hS (law_in (k := 2) rfl h6 hL (by decide)) dL_law_384 ?_
  refine lw_call (L1 := []) Cx0 G (fun q h => h) cmX10_mown (run_V (X := XLaw meth.name) rfl clX10 yoX10_mown rfl tw_714 tw_715 tw_716 ⟨Nat.le_of_ble_eq_true rfl, Nat.le_of_ble_eq_true rfl⟩ dL_law_385) [.ref 0, .int (xs (nI (6 * i) + 1).toNatClampNeg), .int (xs (nI (6 * i) + 2).toNatClampNeg)] [] q1 rfl k1 (Nat.le_of_ble_eq_true rfl) hl.1 n1 ha1 hP hD hS (by show cells + 0 ≤ 601024; omega) (by show slots + 0 ≤ 7293034; omega) (fun ad3 H locs g1 g2 g3 ha3 hP hD hS => ?_)
  rw [hv1]
  show W p l e room_1 s m _ below meth c H locs _ _ _ (F0 m 388 ls [.int v])
  refine lv_aload_n hx hb dL_law_388 rfl (lv_at hl 2 rfl) ?_
  refine lv_aload_n hx hb dL_law_389 rfl (lv_at hl 0 rfl) ?_
  refine lv_iload hx hb dL_law_390 (lv_at hl 4 rfl) ?_
  refine lv_iconst (v := 1) hx hb dL_law_392 (by decide) ?_
  refine lv_iadd hx hb dL_law_393 ?_
  refine va_sld hx hb hX hbl hbA hS (law_in (k := 1) rfl h6 hL (by decide)) dL_law_394 ?_
  refine lv_aload_n hx hb dL_law_395 rfl (lv_at hl 0 rfl) ?_
  refine lv_iload hx hb dL_law_396 (lv_at hl 4 rfl) ?_
  refine lv_iconst (v := 2) hx hb dL_law_398 (by decide) ?_
  refine lv_iadd hx hb dL_law_399 ?_
  refine va_sld hx hb hX hbl hbA hS (law_in (k := 2) rfl h6 hL (by decide)) dL_law_400 ?_
  refine lw_call (L1 := wd cy ad3 (fIH oc hc).2) Cx0 G (fun q h => h) cmX12_mown (run_V (X := XLaw meth.name) rfl clX12 yoX12_mown rfl tw_1690 tw_1691 tw_1692 ⟨Nat.le_of_ble_eq_true rfl, Nat.le_of_ble_eq_true rfl⟩ dL_law_401) [.ref 0, .int (xs (nI (6 * i) + 1).toNatClampNeg), .int (xs (nI (6 * i) + 2).toNatClampNeg)] [.int v] q2 rfl k2 (Nat.le_of_ble_eq_true rfl) hl.1 n2 ha2 hP hD hS (by show cells + 0 + 0 ≤ 601024; omega) (by show slots + 0 + 0 ≤ 7293034; omega) (fun ad4 H locs g4 g5 g6 ha4 hP hD hS => ?_)
  rw [hv2]
  show W p l e room_1 s m _ below meth c H locs _ _ _ (F0 m 404 ls [.int v, .int v])
  refine lv_icmp_eq (tgt := 1439) hx hb dL_law_404 (by decide) (fun _ => ?_) (fun hne => absurd rfl hne)
  obtain ⟨ad5, g7, g8, g9, hP, hD⟩ := va_ren (L1 := []) hR1 hP hD
  obtain ⟨ad6, g10, g11, g12, hP, hD⟩ := va_ren (L1 := wd cy ad5 hc2) hR2 hP hD
  have e1 : ad5 0 = ad1 0 := g8.trans (g3 0 (Or.inl z1))
  have e2 : ad6 0 = ad2 0 := g11.trans (g6 0 (Or.inl z2))
  rw [← e1, ← e2] at hl
  exact law_next C0 hN hI2 (fun n hn => (g9 n hn).trans (ha3 n hn)) (fun n hn => (g12 n hn).trans (ha4 n hn)) hP hD hS (by omega) (by omega) hl
set_option maxRecDepth 20000 in
set_option maxHeartbeats 4000000 in
theorem law_op_5 (hI0 : InvOK Inv) (C0 : lw_At p s m meth c b L xs) (hL : L ≤ 3072) (G : GS D cy (AL s) adS s s.heap) {i : Nat} (h6 : 6 * i + 6 ≤ L) (hN : HD Inv p l e s m below meth c b D cy adS (i + 1)) {hc hm : HP} {ad1 ad2 : Nat → Nat} {qo : Nat} {fo : Nat → Int64} {H : Heap} {locs : List Loc} {cells slots : Nat} {ls : Array Slot} (hI : Inv hc hm) (ha1 : ∀ n, 2000 ≤ n → ad1 n = adS n) (ha2 : ∀ n, 2000 ≤ n → ad2 n = adS n) (hP : va_P D vwCl (wd cy ad1 hc ++ (wd cy ad2 hm ++ wO cy qo fo)) H) (hD : va_D (AL s) (wd cy ad1 hc ++ (wd cy ad2 hm ++ wO cy qo fo))) (hS : va_S (AL s) s.heap H locs) (hcl : cells ≤ 1000 + 100 * i) (hsl : slots ≤ 100000 + 1000 * i) (hl : lv_has ls 7 [(0, .ref b), (1, .ref (ad1 0)), (2, .ref (ad2 0)), (3, .ref qo), (4, .int (nI (6 * i)))]) (St : Step Inv EX10_beside fIH EX12_beside fIH [.int (xs (nI (6 * i) + 1).toNatClampNeg), .int (xs (nI (6 * i) + 2).toNatClampNeg)]) : W p l e room_1 s m #[Value.ref b] below meth c H locs cells slots (lw_Z below #[Value.ref b] s) (F0 m 409 ls []) := by
  have Cx0 := lw_Cx C0
  obtain ⟨hx, hb, hr, hml, hown, hts, hX, hbl, hlocks, hgv⟩ := id C0
  have hbA : ¬ (AL s) b := Nat.not_le.mpr hbl
  obtain ⟨oc, om, q1, q2, ⟨v, hv1, hv2⟩, hc2, hm2, hR1, hR2, hI2⟩ := St hc hm hI
  obtain ⟨k1, k2, n1, n2⟩ := hI0 hc hm hI
  have z1 : 0 < hc.length := by
    obtain ⟨b0, As, fs, h1, h2⟩ := recv_inv (ci := 10) rfl k1
    cases h1
    exact (List.getElem?_eq_some_iff.mp h2).1
  have z2 : 0 < hm.length := by
    obtain ⟨b0, As, fs, h1, h2⟩ := recv_inv (ci := 12) rfl k2
    cases h1
    exact (List.getElem?_eq_some_iff.mp h2).1
  refine lv_aload_n hx hb dL_law_409 rfl (lv_at hl 1 rfl) ?_
  refine lv_aload_n hx hb dL_law_410 rfl (lv_at hl 0 rfl) ?_
  refine lv_iload hx hb dL_law_411 (lv_at hl 4 rfl) ?_
  refine lv_iconst (v := 1) hx hb dL_law_413 (by decide) ?_
  refine lv_iadd hx hb dL_law_414 ?_
  refine va_sld hx hb hX hbl hbA hS (law_in (k := 1) rfl h6 hL (by decide)) dL_law_415 ?_
  refine lv_aload_n hx hb dL_law_416 rfl (lv_at hl 0 rfl) ?_
  refine lv_iload hx hb dL_law_417 (lv_at hl 4 rfl) ?_
  refine lv_iconst (v := 2) hx hb dL_law_419 (by decide) ?_
  refine lv_iadd hx hb dL_law_420 ?_
  refine va_sld hx hb hX hbl hbA hS (law_in (k := 2) rfl h6 hL (by decide)) dL_law_421 ?_
  refine lw_call (L1 := []) Cx0 G (fun q h => h) cmX10_beside (run_V (X := XLaw meth.name) rfl clX10 yoX10_beside rfl tw_729 tw_730 tw_731 ⟨Nat.le_of_ble_eq_true rfl, Nat.le_of_ble_eq_true rfl⟩ dL_law_422) [.ref 0, .int (xs (nI (6 * i) + 1).toNatClampNeg), .int (xs (nI (6 * i) + 2).toNatClampNeg)] [] q1 rfl k1 (Nat.le_of_ble_eq_true rfl) hl.1 n1 ha1 hP hD hS (by show cells + 0 ≤ 601024; omega) (by show slots + 0 ≤ 7293034; omega) (fun ad3 H locs g1 g2 g3 ha3 hP hD hS => ?_)
  rw [hv1]
  show W p l e room_1 s m _ below meth c H locs _ _ _ (F0 m 425 ls [.int v])
  refine lv_aload_n hx hb dL_law_425 rfl (lv_at hl 2 rfl) ?_
  refine lv_aload_n hx hb dL_law_426 rfl (lv_at hl 0 rfl) ?_
  refine lv_iload hx hb dL_law_427 (lv_at hl 4 rfl) ?_
  refine lv_iconst (v := 1) hx hb dL_law_429 (by decide) ?_
  refine lv_iadd hx hb dL_law_430 ?_
  refine va_sld hx hb hX hbl hbA hS (law_in (k := 1) rfl h6 hL (by decide)) dL_law_431 ?_
  refine lv_aload_n hx hb dL_law_432 rfl (lv_at hl 0 rfl) ?_
  refine lv_iload hx hb dL_law_433 (lv_at hl 4 rfl) ?_
  refine lv_iconst (v := 2) hx hb dL_law_435 (by decide) ?_
  refine lv_iadd hx hb dL_law_436 ?_
  refine va_sld hx hb hX hbl hbA hS (law_in (k := 2) rfl h6 hL (by decide)) dL_law_437 ?_
  refine lw_call (L1 := wd cy ad3 (fIH oc hc).2) Cx0 G (fun q h => h) cmX12_beside (run_V (X := XLaw meth.name) rfl clX12 yoX12_beside rfl tw_1702 tw_1703 tw_1704 ⟨Nat.le_of_ble_eq_true rfl, Nat.le_of_ble_eq_true rfl⟩ dL_law_438) [.ref 0, .int (xs (nI (6 * i) + 1).toNatClampNeg), .int (xs (nI (6 * i) + 2).toNatClampNeg)] [.int v] q2 rfl k2 (Nat.le_of_ble_eq_true rfl) hl.1 n2 ha2 hP hD hS (by show cells + 0 + 0 ≤ 601024; omega) (by show slots + 0 + 0 ≤ 7293034; omega) (fun ad4 H locs g4 g5 g6 ha4 hP hD hS => ?_)
  rw [hv2]
  show W p l e room_1 s m _ below meth c H locs _ _ _ (F0 m 441 ls [.int v, .int v])
  refine lv_icmp_eq (tgt := 1439) hx hb dL_law_441 (by decide) (fun _ => ?_) (fun hne => absurd rfl hne)
  obtain ⟨ad5, g7, g8, g9, hP, hD⟩ := va_ren (L1 := []) hR1 hP hD
  obtain ⟨ad6, g10, g11, g12, hP, hD⟩ := va_ren (L1 := wd cy ad5 hc2) hR2 hP hD
  have e1 : ad5 0 = ad1 0 := g8.trans (g3 0 (Or.inl z1))
  have e2 : ad6 0 = ad2 0 := g11.trans (g6 0 (Or.inl z2))
  rw [← e1, ← e2] at hl
  exact law_next C0 hN hI2 (fun n hn => (g9 n hn).trans (ha3 n hn)) (fun n hn => (g12 n hn).trans (ha4 n hn)) hP hD hS (by omega) (by omega) hl
set_option maxRecDepth 20000 in
set_option maxHeartbeats 4000000 in
theorem law_op_6 (hI0 : InvOK Inv) (C0 : lw_At p s m meth c b L xs) (hL : L ≤ 3072) (G : GS D cy (AL s) adS s s.heap) {i : Nat} (h6 : 6 * i + 6 ≤ L) (hN : HD Inv p l e s m below meth c b D cy adS (i + 1)) {hc hm : HP} {ad1 ad2 : Nat → Nat} {qo : Nat} {fo : Nat → Int64} {H : Heap} {locs : List Loc} {cells slots : Nat} {ls : Array Slot} (hI : Inv hc hm) (ha1 : ∀ n, 2000 ≤ n → ad1 n = adS n) (ha2 : ∀ n, 2000 ≤ n → ad2 n = adS n) (hP : va_P D vwCl (wd cy ad1 hc ++ (wd cy ad2 hm ++ wO cy qo fo)) H) (hD : va_D (AL s) (wd cy ad1 hc ++ (wd cy ad2 hm ++ wO cy qo fo))) (hS : va_S (AL s) s.heap H locs) (hcl : cells ≤ 1000 + 100 * i) (hsl : slots ≤ 100000 + 1000 * i) (hl : lv_has ls 7 [(0, .ref b), (1, .ref (ad1 0)), (2, .ref (ad2 0)), (3, .ref qo), (4, .int (nI (6 * i)))]) (St : Step Inv EX10_parts fIH EX12_parts fIH []) : W p l e room_1 s m #[Value.ref b] below meth c H locs cells slots (lw_Z below #[Value.ref b] s) (F0 m 446 ls []) := by
  have Cx0 := lw_Cx C0
  obtain ⟨hx, hb, hr, hml, hown, hts, hX, hbl, hlocks, hgv⟩ := id C0
  have hbA : ¬ (AL s) b := Nat.not_le.mpr hbl
  obtain ⟨oc, om, q1, q2, ⟨v, hv1, hv2⟩, hc2, hm2, hR1, hR2, hI2⟩ := St hc hm hI
  obtain ⟨k1, k2, n1, n2⟩ := hI0 hc hm hI
  have z1 : 0 < hc.length := by
    obtain ⟨b0, As, fs, h1, h2⟩ := recv_inv (ci := 10) rfl k1
    cases h1
    exact (List.getElem?_eq_some_iff.mp h2).1
  have z2 : 0 < hm.length := by
    obtain ⟨b0, As, fs, h1, h2⟩ := recv_inv (ci := 12) rfl k2
    cases h1
    exact (List.getElem?_eq_some_iff.mp h2).1
  refine lv_aload_n hx hb dL_law_446 rfl (lv_at hl 1 rfl) ?_
  refine lw_call (L1 := []) Cx0 G (fun q h => h) cmX10_parts (run_V (X := XLaw meth.name) rfl clX10 yoX10_parts rfl tw_743 tw_744 tw_745 ⟨Nat.le_of_ble_eq_true rfl, Nat.le_of_ble_eq_true rfl⟩ dL_law_447) [.ref 0] [] q1 rfl k1 (Nat.le_of_ble_eq_true rfl) hl.1 n1 ha1 hP hD hS (by show cells + 0 ≤ 601024; omega) (by show slots + 0 ≤ 7293034; omega) (fun ad3 H locs g1 g2 g3 ha3 hP hD hS => ?_)
  rw [hv1]
  show W p l e room_1 s m _ below meth c H locs _ _ _ (F0 m 450 ls [.int v])
  refine lv_aload_n hx hb dL_law_450 rfl (lv_at hl 2 rfl) ?_
  refine lw_call (L1 := wd cy ad3 (fIH oc hc).2) Cx0 G (fun q h => h) cmX12_parts (run_V (X := XLaw meth.name) rfl clX12 yoX12_parts rfl tw_1718 tw_1719 tw_1720 ⟨Nat.le_of_ble_eq_true rfl, Nat.le_of_ble_eq_true rfl⟩ dL_law_451) [.ref 0] [.int v] q2 rfl k2 (Nat.le_of_ble_eq_true rfl) hl.1 n2 ha2 hP hD hS (by show cells + 0 + 0 ≤ 601024; omega) (by show slots + 0 + 0 ≤ 7293034; omega) (fun ad4 H locs g4 g5 g6 ha4 hP hD hS => ?_)
  rw [hv2]
  show W p l e room_1 s m _ below meth c H locs _ _ _ (F0 m 454 ls [.int v, .int v])
  refine lv_icmp_eq (tgt := 1439) hx hb dL_law_454 (by decide) (fun _ => ?_) (fun hne => absurd rfl hne)
  obtain ⟨ad5, g7, g8, g9, hP, hD⟩ := va_ren (L1 := []) hR1 hP hD
  obtain ⟨ad6, g10, g11, g12, hP, hD⟩ := va_ren (L1 := wd cy ad5 hc2) hR2 hP hD
  have e1 : ad5 0 = ad1 0 := g8.trans (g3 0 (Or.inl z1))
  have e2 : ad6 0 = ad2 0 := g11.trans (g6 0 (Or.inl z2))
  rw [← e1, ← e2] at hl
  exact law_next C0 hN hI2 (fun n hn => (g9 n hn).trans (ha3 n hn)) (fun n hn => (g12 n hn).trans (ha4 n hn)) hP hD hS (by omega) (by omega) hl
set_option maxRecDepth 20000 in
set_option maxHeartbeats 4000000 in
theorem law_op_7 (hI0 : InvOK Inv) (C0 : lw_At p s m meth c b L xs) (hL : L ≤ 3072) (G : GS D cy (AL s) adS s s.heap) {i : Nat} (h6 : 6 * i + 6 ≤ L) (hN : HD Inv p l e s m below meth c b D cy adS (i + 1)) {hc hm : HP} {ad1 ad2 : Nat → Nat} {qo : Nat} {fo : Nat → Int64} {H : Heap} {locs : List Loc} {cells slots : Nat} {ls : Array Slot} (hI : Inv hc hm) (ha1 : ∀ n, 2000 ≤ n → ad1 n = adS n) (ha2 : ∀ n, 2000 ≤ n → ad2 n = adS n) (hP : va_P D vwCl (wd cy ad1 hc ++ (wd cy ad2 hm ++ wO cy qo fo)) H) (hD : va_D (AL s) (wd cy ad1 hc ++ (wd cy ad2 hm ++ wO cy qo fo))) (hS : va_S (AL s) s.heap H locs) (hcl : cells ≤ 1000 + 100 * i) (hsl : slots ≤ 100000 + 1000 * i) (hl : lv_has ls 7 [(0, .ref b), (1, .ref (ad1 0)), (2, .ref (ad2 0)), (3, .ref qo), (4, .int (nI (6 * i)))]) (St : Step Inv EX10_rings fIH EX12_rings fIH []) : W p l e room_1 s m #[Value.ref b] below meth c H locs cells slots (lw_Z below #[Value.ref b] s) (F0 m 459 ls []) := by
  have Cx0 := lw_Cx C0
  obtain ⟨hx, hb, hr, hml, hown, hts, hX, hbl, hlocks, hgv⟩ := id C0
  have hbA : ¬ (AL s) b := Nat.not_le.mpr hbl
  obtain ⟨oc, om, q1, q2, ⟨v, hv1, hv2⟩, hc2, hm2, hR1, hR2, hI2⟩ := St hc hm hI
  obtain ⟨k1, k2, n1, n2⟩ := hI0 hc hm hI
  have z1 : 0 < hc.length := by
    obtain ⟨b0, As, fs, h1, h2⟩ := recv_inv (ci := 10) rfl k1
    cases h1
    exact (List.getElem?_eq_some_iff.mp h2).1
  have z2 : 0 < hm.length := by
    obtain ⟨b0, As, fs, h1, h2⟩ := recv_inv (ci := 12) rfl k2
    cases h1
    exact (List.getElem?_eq_some_iff.mp h2).1
  refine lv_aload_n hx hb dL_law_459 rfl (lv_at hl 1 rfl) ?_
  refine lw_call (L1 := []) Cx0 G (fun q h => h) cmX10_rings (run_V (X := XLaw meth.name) rfl clX10 yoX10_rings rfl tw_755 tw_756 tw_757 ⟨Nat.le_of_ble_eq_true rfl, Nat.le_of_ble_eq_true rfl⟩ dL_law_460) [.ref 0] [] q1 rfl k1 (Nat.le_of_ble_eq_true rfl) hl.1 n1 ha1 hP hD hS (by show cells + 0 ≤ 601024; omega) (by show slots + 0 ≤ 7293034; omega) (fun ad3 H locs g1 g2 g3 ha3 hP hD hS => ?_)
  rw [hv1]
  show W p l e room_1 s m _ below meth c H locs _ _ _ (F0 m 463 ls [.int v])
  refine lv_aload_n hx hb dL_law_463 rfl (lv_at hl 2 rfl) ?_
  refine lw_call (L1 := wd cy ad3 (fIH oc hc).2) Cx0 G (fun q h => h) cmX12_rings (run_V (X := XLaw meth.name) rfl clX12 yoX12_rings rfl tw_1735 tw_1736 tw_1737 ⟨Nat.le_of_ble_eq_true rfl, Nat.le_of_ble_eq_true rfl⟩ dL_law_464) [.ref 0] [.int v] q2 rfl k2 (Nat.le_of_ble_eq_true rfl) hl.1 n2 ha2 hP hD hS (by show cells + 0 + 0 ≤ 601024; omega) (by show slots + 0 + 0 ≤ 7293034; omega) (fun ad4 H locs g4 g5 g6 ha4 hP hD hS => ?_)
  rw [hv2]
  show W p l e room_1 s m _ below meth c H locs _ _ _ (F0 m 467 ls [.int v, .int v])
  refine lv_icmp_eq (tgt := 1439) hx hb dL_law_467 (by decide) (fun _ => ?_) (fun hne => absurd rfl hne)
  obtain ⟨ad5, g7, g8, g9, hP, hD⟩ := va_ren (L1 := []) hR1 hP hD
  obtain ⟨ad6, g10, g11, g12, hP, hD⟩ := va_ren (L1 := wd cy ad5 hc2) hR2 hP hD
  have e1 : ad5 0 = ad1 0 := g8.trans (g3 0 (Or.inl z1))
  have e2 : ad6 0 = ad2 0 := g11.trans (g6 0 (Or.inl z2))
  rw [← e1, ← e2] at hl
  exact law_next C0 hN hI2 (fun n hn => (g9 n hn).trans (ha3 n hn)) (fun n hn => (g12 n hn).trans (ha4 n hn)) hP hD hS (by omega) (by omega) hl
set_option maxRecDepth 20000 in
set_option maxHeartbeats 4000000 in
theorem law_op_8 (hI0 : InvOK Inv) (C0 : lw_At p s m meth c b L xs) (hL : L ≤ 3072) (G : GS D cy (AL s) adS s s.heap) {i : Nat} (h6 : 6 * i + 6 ≤ L) (hN : HD Inv p l e s m below meth c b D cy adS (i + 1)) {hc hm : HP} {ad1 ad2 : Nat → Nat} {qo : Nat} {fo : Nat → Int64} {H : Heap} {locs : List Loc} {cells slots : Nat} {ls : Array Slot} (hI : Inv hc hm) (ha1 : ∀ n, 2000 ≤ n → ad1 n = adS n) (ha2 : ∀ n, 2000 ≤ n → ad2 n = adS n) (hP : va_P D vwCl (wd cy ad1 hc ++ (wd cy ad2 hm ++ wO cy qo fo)) H) (hD : va_D (AL s) (wd cy ad1 hc ++ (wd cy ad2 hm ++ wO cy qo fo))) (hS : va_S (AL s) s.heap H locs) (hcl : cells ≤ 1000 + 100 * i) (hsl : slots ≤ 100000 + 1000 * i) (hl : lv_has ls 7 [(0, .ref b), (1, .ref (ad1 0)), (2, .ref (ad2 0)), (3, .ref qo), (4, .int (nI (6 * i)))]) (St : Step Inv EX10_ends fIH EX12_ends fIH []) : W p l e room_1 s m #[Value.ref b] below meth c H locs cells slots (lw_Z below #[Value.ref b] s) (F0 m 472 ls []) := by
  have Cx0 := lw_Cx C0
  obtain ⟨hx, hb, hr, hml, hown, hts, hX, hbl, hlocks, hgv⟩ := id C0
  have hbA : ¬ (AL s) b := Nat.not_le.mpr hbl
  obtain ⟨oc, om, q1, q2, ⟨v, hv1, hv2⟩, hc2, hm2, hR1, hR2, hI2⟩ := St hc hm hI
  obtain ⟨k1, k2, n1, n2⟩ := hI0 hc hm hI
  have z1 : 0 < hc.length := by
    obtain ⟨b0, As, fs, h1, h2⟩ := recv_inv (ci := 10) rfl k1
    cases h1
    exact (List.getElem?_eq_some_iff.mp h2).1
  have z2 : 0 < hm.length := by
    obtain ⟨b0, As, fs, h1, h2⟩ := recv_inv (ci := 12) rfl k2
    cases h1
    exact (List.getElem?_eq_some_iff.mp h2).1
  refine lv_aload_n hx hb dL_law_472 rfl (lv_at hl 1 rfl) ?_
  refine lw_call (L1 := []) Cx0 G (fun q h => h) cmX10_ends (run_V (X := XLaw meth.name) rfl clX10 yoX10_ends rfl tw_764 tw_765 tw_766 ⟨Nat.le_of_ble_eq_true rfl, Nat.le_of_ble_eq_true rfl⟩ dL_law_473) [.ref 0] [] q1 rfl k1 (Nat.le_of_ble_eq_true rfl) hl.1 n1 ha1 hP hD hS (by show cells + 0 ≤ 601024; omega) (by show slots + 0 ≤ 7293034; omega) (fun ad3 H locs g1 g2 g3 ha3 hP hD hS => ?_)
  rw [hv1]
  show W p l e room_1 s m _ below meth c H locs _ _ _ (F0 m 476 ls [.int v])
  refine lv_aload_n hx hb dL_law_476 rfl (lv_at hl 2 rfl) ?_
  refine lw_call (L1 := wd cy ad3 (fIH oc hc).2) Cx0 G (fun q h => h) cmX12_ends (run_V (X := XLaw meth.name) rfl clX12 yoX12_ends rfl tw_1739 tw_1740 tw_1741 ⟨Nat.le_of_ble_eq_true rfl, Nat.le_of_ble_eq_true rfl⟩ dL_law_477) [.ref 0] [.int v] q2 rfl k2 (Nat.le_of_ble_eq_true rfl) hl.1 n2 ha2 hP hD hS (by show cells + 0 + 0 ≤ 601024; omega) (by show slots + 0 + 0 ≤ 7293034; omega) (fun ad4 H locs g4 g5 g6 ha4 hP hD hS => ?_)
  rw [hv2]
  show W p l e room_1 s m _ below meth c H locs _ _ _ (F0 m 480 ls [.int v, .int v])
  refine lv_icmp_eq (tgt := 1439) hx hb dL_law_480 (by decide) (fun _ => ?_) (fun hne => absurd rfl hne)
  obtain ⟨ad5, g7, g8, g9, hP, hD⟩ := va_ren (L1 := []) hR1 hP hD
  obtain ⟨ad6, g10, g11, g12, hP, hD⟩ := va_ren (L1 := wd cy ad5 hc2) hR2 hP hD
  have e1 : ad5 0 = ad1 0 := g8.trans (g3 0 (Or.inl z1))
  have e2 : ad6 0 = ad2 0 := g11.trans (g6 0 (Or.inl z2))
  rw [← e1, ← e2] at hl
  exact law_next C0 hN hI2 (fun n hn => (g9 n hn).trans (ha3 n hn)) (fun n hn => (g12 n hn).trans (ha4 n hn)) hP hD hS (by omega) (by omega) hl
set_option maxRecDepth 20000 in
set_option maxHeartbeats 4000000 in
theorem law_op_9 (hI0 : InvOK Inv) (C0 : lw_At p s m meth c b L xs) (hL : L ≤ 3072) (G : GS D cy (AL s) adS s s.heap) {i : Nat} (h6 : 6 * i + 6 ≤ L) (hN : HD Inv p l e s m below meth c b D cy adS (i + 1)) {hc hm : HP} {ad1 ad2 : Nat → Nat} {qo : Nat} {fo : Nat → Int64} {H : Heap} {locs : List Loc} {cells slots : Nat} {ls : Array Slot} (hI : Inv hc hm) (ha1 : ∀ n, 2000 ≤ n → ad1 n = adS n) (ha2 : ∀ n, 2000 ≤ n → ad2 n = adS n) (hP : va_P D vwCl (wd cy ad1 hc ++ (wd cy ad2 hm ++ wO cy qo fo)) H) (hD : va_D (AL s) (wd cy ad1 hc ++ (wd cy ad2 hm ++ wO cy qo fo))) (hS : va_S (AL s) s.heap H locs) (hcl : cells ≤ 1000 + 100 * i) (hsl : slots ≤ 100000 + 1000 * i) (hl : lv_has ls 7 [(0, .ref b), (1, .ref (ad1 0)), (2, .ref (ad2 0)), (3, .ref qo), (4, .int (nI (6 * i)))]) (St : Step Inv EX10_steps fIH EX12_steps fIH [.int (xs (nI (6 * i) + 1).toNatClampNeg), .int (xs (nI (6 * i) + 2).toNatClampNeg)]) : W p l e room_1 s m #[Value.ref b] below meth c H locs cells slots (lw_Z below #[Value.ref b] s) (F0 m 485 ls []) := by
  have Cx0 := lw_Cx C0
  obtain ⟨hx, hb, hr, hml, hown, hts, hX, hbl, hlocks, hgv⟩ := id C0
  have hbA : ¬ (AL s) b := Nat.not_le.mpr hbl
  obtain ⟨oc, om, q1, q2, ⟨v, hv1, hv2⟩, hc2, hm2, hR1, hR2, hI2⟩ := St hc hm hI
  obtain ⟨k1, k2, n1, n2⟩ := hI0 hc hm hI
  have z1 : 0 < hc.length := by
    obtain ⟨b0, As, fs, h1, h2⟩ := recv_inv (ci := 10) rfl k1
    cases h1
    exact (List.getElem?_eq_some_iff.mp h2).1
  have z2 : 0 < hm.length := by
    obtain ⟨b0, As, fs, h1, h2⟩ := recv_inv (ci := 12) rfl k2
    cases h1
    exact (List.getElem?_eq_some_iff.mp h2).1
  refine lv_aload_n hx hb dL_law_485 rfl (lv_at hl 1 rfl) ?_
  refine lv_aload_n hx hb dL_law_486 rfl (lv_at hl 0 rfl) ?_
  refine lv_iload hx hb dL_law_487 (lv_at hl 4 rfl) ?_
  refine lv_iconst (v := 1) hx hb dL_law_489 (by decide) ?_
  refine lv_iadd hx hb dL_law_490 ?_
  refine va_sld hx hb hX hbl hbA hS (law_in (k := 1) rfl h6 hL (by decide)) dL_law_491 ?_
  refine lv_aload_n hx hb dL_law_492 rfl (lv_at hl 0 rfl) ?_
  refine lv_iload hx hb dL_law_493 (lv_at hl 4 rfl) ?_
  refine lv_iconst (v := 2) hx hb dL_law_495 (by decide) ?_
  refine lv_iadd hx hb dL_law_496 ?_
  refine va_sld hx hb hX hbl hbA hS (law_in (k := 2) rfl h6 hL (by decide)) dL_law_497 ?_
  refine lw_call (L1 := []) Cx0 G (fun q h => h) cmX10_steps (run_V (X := XLaw meth.name) rfl clX10 yoX10_steps rfl tw_774 tw_775 tw_776 ⟨Nat.le_of_ble_eq_true rfl, Nat.le_of_ble_eq_true rfl⟩ dL_law_498) [.ref 0, .int (xs (nI (6 * i) + 1).toNatClampNeg), .int (xs (nI (6 * i) + 2).toNatClampNeg)] [] q1 rfl k1 (Nat.le_of_ble_eq_true rfl) hl.1 n1 ha1 hP hD hS (by show cells + 0 ≤ 601024; omega) (by show slots + 0 ≤ 7293034; omega) (fun ad3 H locs g1 g2 g3 ha3 hP hD hS => ?_)
  rw [hv1]
  show W p l e room_1 s m _ below meth c H locs _ _ _ (F0 m 501 ls [.int v])
  refine lv_aload_n hx hb dL_law_501 rfl (lv_at hl 2 rfl) ?_
  refine lv_aload_n hx hb dL_law_502 rfl (lv_at hl 0 rfl) ?_
  refine lv_iload hx hb dL_law_503 (lv_at hl 4 rfl) ?_
  refine lv_iconst (v := 1) hx hb dL_law_505 (by decide) ?_
  refine lv_iadd hx hb dL_law_506 ?_
  refine va_sld hx hb hX hbl hbA hS (law_in (k := 1) rfl h6 hL (by decide)) dL_law_507 ?_
  refine lv_aload_n hx hb dL_law_508 rfl (lv_at hl 0 rfl) ?_
  refine lv_iload hx hb dL_law_509 (lv_at hl 4 rfl) ?_
  refine lv_iconst (v := 2) hx hb dL_law_511 (by decide) ?_
  refine lv_iadd hx hb dL_law_512 ?_
  refine va_sld hx hb hX hbl hbA hS (law_in (k := 2) rfl h6 hL (by decide)) dL_law_513 ?_
  refine lw_call (L1 := wd cy ad3 (fIH oc hc).2) Cx0 G (fun q h => h) cmX12_steps (run_V (X := XLaw meth.name) rfl clX12 yoX12_steps rfl tw_1743 tw_1744 tw_1745 ⟨Nat.le_of_ble_eq_true rfl, Nat.le_of_ble_eq_true rfl⟩ dL_law_514) [.ref 0, .int (xs (nI (6 * i) + 1).toNatClampNeg), .int (xs (nI (6 * i) + 2).toNatClampNeg)] [.int v] q2 rfl k2 (Nat.le_of_ble_eq_true rfl) hl.1 n2 ha2 hP hD hS (by show cells + 0 + 0 ≤ 601024; omega) (by show slots + 0 + 0 ≤ 7293034; omega) (fun ad4 H locs g4 g5 g6 ha4 hP hD hS => ?_)
  rw [hv2]
  show W p l e room_1 s m _ below meth c H locs _ _ _ (F0 m 517 ls [.int v, .int v])
  refine lv_icmp_eq (tgt := 1439) hx hb dL_law_517 (by decide) (fun _ => ?_) (fun hne => absurd rfl hne)
  obtain ⟨ad5, g7, g8, g9, hP, hD⟩ := va_ren (L1 := []) hR1 hP hD
  obtain ⟨ad6, g10, g11, g12, hP, hD⟩ := va_ren (L1 := wd cy ad5 hc2) hR2 hP hD
  have e1 : ad5 0 = ad1 0 := g8.trans (g3 0 (Or.inl z1))
  have e2 : ad6 0 = ad2 0 := g11.trans (g6 0 (Or.inl z2))
  rw [← e1, ← e2] at hl
  exact law_next C0 hN hI2 (fun n hn => (g9 n hn).trans (ha3 n hn)) (fun n hn => (g12 n hn).trans (ha4 n hn)) hP hD hS (by omega) (by omega) hl
set_option maxRecDepth 20000 in
set_option maxHeartbeats 4000000 in
theorem law_op_10 (hI0 : InvOK Inv) (C0 : lw_At p s m meth c b L xs) (hL : L ≤ 3072) (G : GS D cy (AL s) adS s s.heap) {i : Nat} (h6 : 6 * i + 6 ≤ L) (hN : HD Inv p l e s m below meth c b D cy adS (i + 1)) {hc hm : HP} {ad1 ad2 : Nat → Nat} {qo : Nat} {fo : Nat → Int64} {H : Heap} {locs : List Loc} {cells slots : Nat} {ls : Array Slot} (hI : Inv hc hm) (ha1 : ∀ n, 2000 ≤ n → ad1 n = adS n) (ha2 : ∀ n, 2000 ≤ n → ad2 n = adS n) (hP : va_P D vwCl (wd cy ad1 hc ++ (wd cy ad2 hm ++ wO cy qo fo)) H) (hD : va_D (AL s) (wd cy ad1 hc ++ (wd cy ad2 hm ++ wO cy qo fo))) (hS : va_S (AL s) s.heap H locs) (hcl : cells ≤ 1000 + 100 * i) (hsl : slots ≤ 100000 + 1000 * i) (hl : lv_has ls 7 [(0, .ref b), (1, .ref (ad1 0)), (2, .ref (ad2 0)), (3, .ref qo), (4, .int (nI (6 * i)))]) (St : Step Inv EX10_longest fIH EX12_longest fIH []) : W p l e room_1 s m #[Value.ref b] below meth c H locs cells slots (lw_Z below #[Value.ref b] s) (F0 m 522 ls []) := by
  have Cx0 := lw_Cx C0
  obtain ⟨hx, hb, hr, hml, hown, hts, hX, hbl, hlocks, hgv⟩ := id C0
  have hbA : ¬ (AL s) b := Nat.not_le.mpr hbl
  obtain ⟨oc, om, q1, q2, ⟨v, hv1, hv2⟩, hc2, hm2, hR1, hR2, hI2⟩ := St hc hm hI
  obtain ⟨k1, k2, n1, n2⟩ := hI0 hc hm hI
  have z1 : 0 < hc.length := by
    obtain ⟨b0, As, fs, h1, h2⟩ := recv_inv (ci := 10) rfl k1
    cases h1
    exact (List.getElem?_eq_some_iff.mp h2).1
  have z2 : 0 < hm.length := by
    obtain ⟨b0, As, fs, h1, h2⟩ := recv_inv (ci := 12) rfl k2
    cases h1
    exact (List.getElem?_eq_some_iff.mp h2).1
  refine lv_aload_n hx hb dL_law_522 rfl (lv_at hl 1 rfl) ?_
  refine lw_call (L1 := []) Cx0 G (fun q h => h) cmX10_longest (run_V (X := XLaw meth.name) rfl clX10 yoX10_longest rfl tw_786 tw_787 tw_788 ⟨Nat.le_of_ble_eq_true rfl, Nat.le_of_ble_eq_true rfl⟩ dL_law_523) [.ref 0] [] q1 rfl k1 (Nat.le_of_ble_eq_true rfl) hl.1 n1 ha1 hP hD hS (by show cells + 0 ≤ 601024; omega) (by show slots + 0 ≤ 7293034; omega) (fun ad3 H locs g1 g2 g3 ha3 hP hD hS => ?_)
  rw [hv1]
  show W p l e room_1 s m _ below meth c H locs _ _ _ (F0 m 526 ls [.int v])
  refine lv_aload_n hx hb dL_law_526 rfl (lv_at hl 2 rfl) ?_
  refine lw_call (L1 := wd cy ad3 (fIH oc hc).2) Cx0 G (fun q h => h) cmX12_longest (run_V (X := XLaw meth.name) rfl clX12 yoX12_longest rfl tw_1751 tw_1752 tw_1753 ⟨Nat.le_of_ble_eq_true rfl, Nat.le_of_ble_eq_true rfl⟩ dL_law_527) [.ref 0] [.int v] q2 rfl k2 (Nat.le_of_ble_eq_true rfl) hl.1 n2 ha2 hP hD hS (by show cells + 0 + 0 ≤ 601024; omega) (by show slots + 0 + 0 ≤ 7293034; omega) (fun ad4 H locs g4 g5 g6 ha4 hP hD hS => ?_)
  rw [hv2]
  show W p l e room_1 s m _ below meth c H locs _ _ _ (F0 m 530 ls [.int v, .int v])
  refine lv_icmp_eq (tgt := 1439) hx hb dL_law_530 (by decide) (fun _ => ?_) (fun hne => absurd rfl hne)
  obtain ⟨ad5, g7, g8, g9, hP, hD⟩ := va_ren (L1 := []) hR1 hP hD
  obtain ⟨ad6, g10, g11, g12, hP, hD⟩ := va_ren (L1 := wd cy ad5 hc2) hR2 hP hD
  have e1 : ad5 0 = ad1 0 := g8.trans (g3 0 (Or.inl z1))
  have e2 : ad6 0 = ad2 0 := g11.trans (g6 0 (Or.inl z2))
  rw [← e1, ← e2] at hl
  exact law_next C0 hN hI2 (fun n hn => (g9 n hn).trans (ha3 n hn)) (fun n hn => (g12 n hn).trans (ha4 n hn)) hP hD hS (by omega) (by omega) hl
set_option maxRecDepth 20000 in
set_option maxHeartbeats 4000000 in
theorem law_op_11 (hI0 : InvOK Inv) (C0 : lw_At p s m meth c b L xs) (hL : L ≤ 3072) (G : GS D cy (AL s) adS s s.heap) {i : Nat} (h6 : 6 * i + 6 ≤ L) (hN : HD Inv p l e s m below meth c b D cy adS (i + 1)) {hc hm : HP} {ad1 ad2 : Nat → Nat} {qo : Nat} {fo : Nat → Int64} {H : Heap} {locs : List Loc} {cells slots : Nat} {ls : Array Slot} (hI : Inv hc hm) (ha1 : ∀ n, 2000 ≤ n → ad1 n = adS n) (ha2 : ∀ n, 2000 ≤ n → ad2 n = adS n) (hP : va_P D vwCl (wd cy ad1 hc ++ (wd cy ad2 hm ++ wO cy qo fo)) H) (hD : va_D (AL s) (wd cy ad1 hc ++ (wd cy ad2 hm ++ wO cy qo fo))) (hS : va_S (AL s) s.heap H locs) (hcl : cells ≤ 1000 + 100 * i) (hsl : slots ≤ 100000 + 1000 * i) (hl : lv_has ls 7 [(0, .ref b), (1, .ref (ad1 0)), (2, .ref (ad2 0)), (3, .ref qo), (4, .int (nI (6 * i)))]) (St : Step Inv EX10_splits fIH EX12_splits fIH [.int (xs (nI (6 * i) + 1).toNatClampNeg), .int (xs (nI (6 * i) + 2).toNatClampNeg)]) : W p l e room_1 s m #[Value.ref b] below meth c H locs cells slots (lw_Z below #[Value.ref b] s) (F0 m 535 ls []) := by
  have Cx0 := lw_Cx C0
  obtain ⟨hx, hb, hr, hml, hown, hts, hX, hbl, hlocks, hgv⟩ := id C0
  have hbA : ¬ (AL s) b := Nat.not_le.mpr hbl
  obtain ⟨oc, om, q1, q2, ⟨v, hv1, hv2⟩, hc2, hm2, hR1, hR2, hI2⟩ := St hc hm hI
  obtain ⟨k1, k2, n1, n2⟩ := hI0 hc hm hI
  have z1 : 0 < hc.length := by
    obtain ⟨b0, As, fs, h1, h2⟩ := recv_inv (ci := 10) rfl k1
    cases h1
    exact (List.getElem?_eq_some_iff.mp h2).1
  have z2 : 0 < hm.length := by
    obtain ⟨b0, As, fs, h1, h2⟩ := recv_inv (ci := 12) rfl k2
    cases h1
    exact (List.getElem?_eq_some_iff.mp h2).1
  refine lv_aload_n hx hb dL_law_535 rfl (lv_at hl 1 rfl) ?_
  refine lv_aload_n hx hb dL_law_536 rfl (lv_at hl 0 rfl) ?_
  refine lv_iload hx hb dL_law_537 (lv_at hl 4 rfl) ?_
  refine lv_iconst (v := 1) hx hb dL_law_539 (by decide) ?_
  refine lv_iadd hx hb dL_law_540 ?_
  refine va_sld hx hb hX hbl hbA hS (law_in (k := 1) rfl h6 hL (by decide)) dL_law_541 ?_
  refine lv_aload_n hx hb dL_law_542 rfl (lv_at hl 0 rfl) ?_
  refine lv_iload hx hb dL_law_543 (lv_at hl 4 rfl) ?_
  refine lv_iconst (v := 2) hx hb dL_law_545 (by decide) ?_
  refine lv_iadd hx hb dL_law_546 ?_
  refine va_sld hx hb hX hbl hbA hS (law_in (k := 2) rfl h6 hL (by decide)) dL_law_547 ?_
  refine lw_call (L1 := []) Cx0 G (fun q h => h) cmX10_splits (run_V (X := XLaw meth.name) rfl clX10 yoX10_splits rfl tw_801 tw_802 tw_803 ⟨Nat.le_of_ble_eq_true rfl, Nat.le_of_ble_eq_true rfl⟩ dL_law_548) [.ref 0, .int (xs (nI (6 * i) + 1).toNatClampNeg), .int (xs (nI (6 * i) + 2).toNatClampNeg)] [] q1 rfl k1 (Nat.le_of_ble_eq_true rfl) hl.1 n1 ha1 hP hD hS (by show cells + 0 ≤ 601024; omega) (by show slots + 0 ≤ 7293034; omega) (fun ad3 H locs g1 g2 g3 ha3 hP hD hS => ?_)
  rw [hv1]
  show W p l e room_1 s m _ below meth c H locs _ _ _ (F0 m 551 ls [.int v])
  refine lv_aload_n hx hb dL_law_551 rfl (lv_at hl 2 rfl) ?_
  refine lv_aload_n hx hb dL_law_552 rfl (lv_at hl 0 rfl) ?_
  refine lv_iload hx hb dL_law_553 (lv_at hl 4 rfl) ?_
  refine lv_iconst (v := 1) hx hb dL_law_555 (by decide) ?_
  refine lv_iadd hx hb dL_law_556 ?_
  refine va_sld hx hb hX hbl hbA hS (law_in (k := 1) rfl h6 hL (by decide)) dL_law_557 ?_
  refine lv_aload_n hx hb dL_law_558 rfl (lv_at hl 0 rfl) ?_
  refine lv_iload hx hb dL_law_559 (lv_at hl 4 rfl) ?_
  refine lv_iconst (v := 2) hx hb dL_law_561 (by decide) ?_
  refine lv_iadd hx hb dL_law_562 ?_
  refine va_sld hx hb hX hbl hbA hS (law_in (k := 2) rfl h6 hL (by decide)) dL_law_563 ?_
  refine lw_call (L1 := wd cy ad3 (fIH oc hc).2) Cx0 G (fun q h => h) cmX12_splits (run_V (X := XLaw meth.name) rfl clX12 yoX12_splits rfl tw_1755 tw_1756 tw_1757 ⟨Nat.le_of_ble_eq_true rfl, Nat.le_of_ble_eq_true rfl⟩ dL_law_564) [.ref 0, .int (xs (nI (6 * i) + 1).toNatClampNeg), .int (xs (nI (6 * i) + 2).toNatClampNeg)] [.int v] q2 rfl k2 (Nat.le_of_ble_eq_true rfl) hl.1 n2 ha2 hP hD hS (by show cells + 0 + 0 ≤ 601024; omega) (by show slots + 0 + 0 ≤ 7293034; omega) (fun ad4 H locs g4 g5 g6 ha4 hP hD hS => ?_)
  rw [hv2]
  show W p l e room_1 s m _ below meth c H locs _ _ _ (F0 m 567 ls [.int v, .int v])
  refine lv_icmp_eq (tgt := 1439) hx hb dL_law_567 (by decide) (fun _ => ?_) (fun hne => absurd rfl hne)
  obtain ⟨ad5, g7, g8, g9, hP, hD⟩ := va_ren (L1 := []) hR1 hP hD
  obtain ⟨ad6, g10, g11, g12, hP, hD⟩ := va_ren (L1 := wd cy ad5 hc2) hR2 hP hD
  have e1 : ad5 0 = ad1 0 := g8.trans (g3 0 (Or.inl z1))
  have e2 : ad6 0 = ad2 0 := g11.trans (g6 0 (Or.inl z2))
  rw [← e1, ← e2] at hl
  exact law_next C0 hN hI2 (fun n hn => (g9 n hn).trans (ha3 n hn)) (fun n hn => (g12 n hn).trans (ha4 n hn)) hP hD hS (by omega) (by omega) hl
set_option maxRecDepth 20000 in
set_option maxHeartbeats 4000000 in
theorem law_op_12 (hI0 : InvOK Inv) (C0 : lw_At p s m meth c b L xs) (hL : L ≤ 3072) (G : GS D cy (AL s) adS s s.heap) {i : Nat} (h6 : 6 * i + 6 ≤ L) (hN : HD Inv p l e s m below meth c b D cy adS (i + 1)) {hc hm : HP} {ad1 ad2 : Nat → Nat} {qo : Nat} {fo : Nat → Int64} {H : Heap} {locs : List Loc} {cells slots : Nat} {ls : Array Slot} (hI : Inv hc hm) (ha1 : ∀ n, 2000 ≤ n → ad1 n = adS n) (ha2 : ∀ n, 2000 ≤ n → ad2 n = adS n) (hP : va_P D vwCl (wd cy ad1 hc ++ (wd cy ad2 hm ++ wO cy qo fo)) H) (hD : va_D (AL s) (wd cy ad1 hc ++ (wd cy ad2 hm ++ wO cy qo fo))) (hS : va_S (AL s) s.heap H locs) (hcl : cells ≤ 1000 + 100 * i) (hsl : slots ≤ 100000 + 1000 * i) (hl : lv_has ls 7 [(0, .ref b), (1, .ref (ad1 0)), (2, .ref (ad2 0)), (3, .ref qo), (4, .int (nI (6 * i)))]) (St : Step Inv EX10_at fIH EX12_at fIH [.int (xs (nI (6 * i) + 1).toNatClampNeg), .int (xs (nI (6 * i) + 2).toNatClampNeg)]) : W p l e room_1 s m #[Value.ref b] below meth c H locs cells slots (lw_Z below #[Value.ref b] s) (F0 m 572 ls []) := by
  have Cx0 := lw_Cx C0
  obtain ⟨hx, hb, hr, hml, hown, hts, hX, hbl, hlocks, hgv⟩ := id C0
  have hbA : ¬ (AL s) b := Nat.not_le.mpr hbl
  obtain ⟨oc, om, q1, q2, ⟨v, hv1, hv2⟩, hc2, hm2, hR1, hR2, hI2⟩ := St hc hm hI
  obtain ⟨k1, k2, n1, n2⟩ := hI0 hc hm hI
  have z1 : 0 < hc.length := by
    obtain ⟨b0, As, fs, h1, h2⟩ := recv_inv (ci := 10) rfl k1
    cases h1
    exact (List.getElem?_eq_some_iff.mp h2).1
  have z2 : 0 < hm.length := by
    obtain ⟨b0, As, fs, h1, h2⟩ := recv_inv (ci := 12) rfl k2
    cases h1
    exact (List.getElem?_eq_some_iff.mp h2).1
  refine lv_aload_n hx hb dL_law_572 rfl (lv_at hl 1 rfl) ?_
  refine lv_aload_n hx hb dL_law_573 rfl (lv_at hl 0 rfl) ?_
  refine lv_iload hx hb dL_law_574 (lv_at hl 4 rfl) ?_
  refine lv_iconst (v := 1) hx hb dL_law_576 (by decide) ?_
  refine lv_iadd hx hb dL_law_577 ?_
  refine va_sld hx hb hX hbl hbA hS (law_in (k := 1) rfl h6 hL (by decide)) dL_law_578 ?_
  refine lv_aload_n hx hb dL_law_579 rfl (lv_at hl 0 rfl) ?_
  refine lv_iload hx hb dL_law_580 (lv_at hl 4 rfl) ?_
  refine lv_iconst (v := 2) hx hb dL_law_582 (by decide) ?_
  refine lv_iadd hx hb dL_law_583 ?_
  refine va_sld hx hb hX hbl hbA hS (law_in (k := 2) rfl h6 hL (by decide)) dL_law_584 ?_
  refine lw_call (L1 := []) Cx0 G (fun q h => h) cmX10_at (run_V (X := XLaw meth.name) rfl clX10 yoX10_at rfl tw_809 tw_810 tw_811 ⟨Nat.le_of_ble_eq_true rfl, Nat.le_of_ble_eq_true rfl⟩ dL_law_585) [.ref 0, .int (xs (nI (6 * i) + 1).toNatClampNeg), .int (xs (nI (6 * i) + 2).toNatClampNeg)] [] q1 rfl k1 (Nat.le_of_ble_eq_true rfl) hl.1 n1 ha1 hP hD hS (by show cells + 0 ≤ 601024; omega) (by show slots + 0 ≤ 7293034; omega) (fun ad3 H locs g1 g2 g3 ha3 hP hD hS => ?_)
  rw [hv1]
  show W p l e room_1 s m _ below meth c H locs _ _ _ (F0 m 588 ls [.int v])
  refine lv_aload_n hx hb dL_law_588 rfl (lv_at hl 2 rfl) ?_
  refine lv_aload_n hx hb dL_law_589 rfl (lv_at hl 0 rfl) ?_
  refine lv_iload hx hb dL_law_590 (lv_at hl 4 rfl) ?_
  refine lv_iconst (v := 1) hx hb dL_law_592 (by decide) ?_
  refine lv_iadd hx hb dL_law_593 ?_
  refine va_sld hx hb hX hbl hbA hS (law_in (k := 1) rfl h6 hL (by decide)) dL_law_594 ?_
  refine lv_aload_n hx hb dL_law_595 rfl (lv_at hl 0 rfl) ?_
  refine lv_iload hx hb dL_law_596 (lv_at hl 4 rfl) ?_
  refine lv_iconst (v := 2) hx hb dL_law_598 (by decide) ?_
  refine lv_iadd hx hb dL_law_599 ?_
  refine va_sld hx hb hX hbl hbA hS (law_in (k := 2) rfl h6 hL (by decide)) dL_law_600 ?_
  refine lw_call (L1 := wd cy ad3 (fIH oc hc).2) Cx0 G (fun q h => h) cmX12_at (run_V (X := XLaw meth.name) rfl clX12 yoX12_at rfl tw_1763 tw_1764 tw_1765 ⟨Nat.le_of_ble_eq_true rfl, Nat.le_of_ble_eq_true rfl⟩ dL_law_601) [.ref 0, .int (xs (nI (6 * i) + 1).toNatClampNeg), .int (xs (nI (6 * i) + 2).toNatClampNeg)] [.int v] q2 rfl k2 (Nat.le_of_ble_eq_true rfl) hl.1 n2 ha2 hP hD hS (by show cells + 0 + 0 ≤ 601024; omega) (by show slots + 0 + 0 ≤ 7293034; omega) (fun ad4 H locs g4 g5 g6 ha4 hP hD hS => ?_)
  rw [hv2]
  show W p l e room_1 s m _ below meth c H locs _ _ _ (F0 m 604 ls [.int v, .int v])
  refine lv_icmp_eq (tgt := 1439) hx hb dL_law_604 (by decide) (fun _ => ?_) (fun hne => absurd rfl hne)
  obtain ⟨ad5, g7, g8, g9, hP, hD⟩ := va_ren (L1 := []) hR1 hP hD
  obtain ⟨ad6, g10, g11, g12, hP, hD⟩ := va_ren (L1 := wd cy ad5 hc2) hR2 hP hD
  have e1 : ad5 0 = ad1 0 := g8.trans (g3 0 (Or.inl z1))
  have e2 : ad6 0 = ad2 0 := g11.trans (g6 0 (Or.inl z2))
  rw [← e1, ← e2] at hl
  exact law_next C0 hN hI2 (fun n hn => (g9 n hn).trans (ha3 n hn)) (fun n hn => (g12 n hn).trans (ha4 n hn)) hP hD hS (by omega) (by omega) hl
set_option maxRecDepth 20000 in
set_option maxHeartbeats 4000000 in
theorem law_op_13 (hI0 : InvOK Inv) (C0 : lw_At p s m meth c b L xs) (hL : L ≤ 3072) (G : GS D cy (AL s) adS s s.heap) {i : Nat} (h6 : 6 * i + 6 ≤ L) (hN : HD Inv p l e s m below meth c b D cy adS (i + 1)) {hc hm : HP} {ad1 ad2 : Nat → Nat} {qo : Nat} {fo : Nat → Int64} {H : Heap} {locs : List Loc} {cells slots : Nat} {ls : Array Slot} (hI : Inv hc hm) (ha1 : ∀ n, 2000 ≤ n → ad1 n = adS n) (ha2 : ∀ n, 2000 ≤ n → ad2 n = adS n) (hP : va_P D vwCl (wd cy ad1 hc ++ (wd cy ad2 hm ++ wO cy qo fo)) H) (hD : va_D (AL s) (wd cy ad1 hc ++ (wd cy ad2 hm ++ wO cy qo fo))) (hS : va_S (AL s) s.heap H locs) (hcl : cells ≤ 1000 + 100 * i) (hsl : slots ≤ 100000 + 1000 * i) (hl : lv_has ls 7 [(0, .ref b), (1, .ref (ad1 0)), (2, .ref (ad2 0)), (3, .ref qo), (4, .int (nI (6 * i)))]) (St : Step Inv EX10_out fIH EX12_out fIH [.int (xs (nI (6 * i) + 1).toNatClampNeg)]) : W p l e room_1 s m #[Value.ref b] below meth c H locs cells slots (lw_Z below #[Value.ref b] s) (F0 m 609 ls []) := by
  have Cx0 := lw_Cx C0
  obtain ⟨hx, hb, hr, hml, hown, hts, hX, hbl, hlocks, hgv⟩ := id C0
  have hbA : ¬ (AL s) b := Nat.not_le.mpr hbl
  obtain ⟨oc, om, q1, q2, ⟨v, hv1, hv2⟩, hc2, hm2, hR1, hR2, hI2⟩ := St hc hm hI
  obtain ⟨k1, k2, n1, n2⟩ := hI0 hc hm hI
  have z1 : 0 < hc.length := by
    obtain ⟨b0, As, fs, h1, h2⟩ := recv_inv (ci := 10) rfl k1
    cases h1
    exact (List.getElem?_eq_some_iff.mp h2).1
  have z2 : 0 < hm.length := by
    obtain ⟨b0, As, fs, h1, h2⟩ := recv_inv (ci := 12) rfl k2
    cases h1
    exact (List.getElem?_eq_some_iff.mp h2).1
  refine lv_aload_n hx hb dL_law_609 rfl (lv_at hl 1 rfl) ?_
  refine lv_aload_n hx hb dL_law_610 rfl (lv_at hl 0 rfl) ?_
  refine lv_iload hx hb dL_law_611 (lv_at hl 4 rfl) ?_
  refine lv_iconst (v := 1) hx hb dL_law_613 (by decide) ?_
  refine lv_iadd hx hb dL_law_614 ?_
  refine va_sld hx hb hX hbl hbA hS (law_in (k := 1) rfl h6 hL (by decide)) dL_law_615 ?_
  refine lw_call (L1 := []) Cx0 G (fun q h => h) cmX10_out (run_V (X := XLaw meth.name) rfl clX10 yoX10_out rfl tw_882 tw_883 tw_884 ⟨Nat.le_of_ble_eq_true rfl, Nat.le_of_ble_eq_true rfl⟩ dL_law_616) [.ref 0, .int (xs (nI (6 * i) + 1).toNatClampNeg)] [] q1 rfl k1 (Nat.le_of_ble_eq_true rfl) hl.1 n1 ha1 hP hD hS (by show cells + 0 ≤ 601024; omega) (by show slots + 0 ≤ 7293034; omega) (fun ad3 H locs g1 g2 g3 ha3 hP hD hS => ?_)
  rw [hv1]
  show W p l e room_1 s m _ below meth c H locs _ _ _ (F0 m 619 ls [.int v])
  refine lv_aload_n hx hb dL_law_619 rfl (lv_at hl 2 rfl) ?_
  refine lv_aload_n hx hb dL_law_620 rfl (lv_at hl 0 rfl) ?_
  refine lv_iload hx hb dL_law_621 (lv_at hl 4 rfl) ?_
  refine lv_iconst (v := 1) hx hb dL_law_623 (by decide) ?_
  refine lv_iadd hx hb dL_law_624 ?_
  refine va_sld hx hb hX hbl hbA hS (law_in (k := 1) rfl h6 hL (by decide)) dL_law_625 ?_
  refine lw_call (L1 := wd cy ad3 (fIH oc hc).2) Cx0 G (fun q h => h) cmX12_out (run_V (X := XLaw meth.name) rfl clX12 yoX12_out rfl tw_1814 tw_1815 tw_1816 ⟨Nat.le_of_ble_eq_true rfl, Nat.le_of_ble_eq_true rfl⟩ dL_law_626) [.ref 0, .int (xs (nI (6 * i) + 1).toNatClampNeg)] [.int v] q2 rfl k2 (Nat.le_of_ble_eq_true rfl) hl.1 n2 ha2 hP hD hS (by show cells + 0 + 0 ≤ 601024; omega) (by show slots + 0 + 0 ≤ 7293034; omega) (fun ad4 H locs g4 g5 g6 ha4 hP hD hS => ?_)
  rw [hv2]
  show W p l e room_1 s m _ below meth c H locs _ _ _ (F0 m 629 ls [.int v, .int v])
  refine lv_icmp_eq (tgt := 1439) hx hb dL_law_629 (by decide) (fun _ => ?_) (fun hne => absurd rfl hne)
  obtain ⟨ad5, g7, g8, g9, hP, hD⟩ := va_ren (L1 := []) hR1 hP hD
  obtain ⟨ad6, g10, g11, g12, hP, hD⟩ := va_ren (L1 := wd cy ad5 hc2) hR2 hP hD
  have e1 : ad5 0 = ad1 0 := g8.trans (g3 0 (Or.inl z1))
  have e2 : ad6 0 = ad2 0 := g11.trans (g6 0 (Or.inl z2))
  rw [← e1, ← e2] at hl
  exact law_next C0 hN hI2 (fun n hn => (g9 n hn).trans (ha3 n hn)) (fun n hn => (g12 n hn).trans (ha4 n hn)) hP hD hS (by omega) (by omega) hl
set_option maxRecDepth 20000 in
set_option maxHeartbeats 4000000 in
theorem law_op_14 (hI0 : InvOK Inv) (C0 : lw_At p s m meth c b L xs) (hL : L ≤ 3072) (G : GS D cy (AL s) adS s s.heap) {i : Nat} (h6 : 6 * i + 6 ≤ L) (hN : HD Inv p l e s m below meth c b D cy adS (i + 1)) {hc hm : HP} {ad1 ad2 : Nat → Nat} {qo : Nat} {fo : Nat → Int64} {H : Heap} {locs : List Loc} {cells slots : Nat} {ls : Array Slot} (hI : Inv hc hm) (ha1 : ∀ n, 2000 ≤ n → ad1 n = adS n) (ha2 : ∀ n, 2000 ≤ n → ad2 n = adS n) (hP : va_P D vwCl (wd cy ad1 hc ++ (wd cy ad2 hm ++ wO cy qo fo)) H) (hD : va_D (AL s) (wd cy ad1 hc ++ (wd cy ad2 hm ++ wO cy qo fo))) (hS : va_S (AL s) s.heap H locs) (hcl : cells ≤ 1000 + 100 * i) (hsl : slots ≤ 100000 + 1000 * i) (hl : lv_has ls 7 [(0, .ref b), (1, .ref (ad1 0)), (2, .ref (ad2 0)), (3, .ref qo), (4, .int (nI (6 * i)))]) (St : Step Inv EX10_ever fIH EX12_ever fIH [.int (xs (nI (6 * i) + 1).toNatClampNeg)]) : W p l e room_1 s m #[Value.ref b] below meth c H locs cells slots (lw_Z below #[Value.ref b] s) (F0 m 634 ls []) := by
  have Cx0 := lw_Cx C0
  obtain ⟨hx, hb, hr, hml, hown, hts, hX, hbl, hlocks, hgv⟩ := id C0
  have hbA : ¬ (AL s) b := Nat.not_le.mpr hbl
  obtain ⟨oc, om, q1, q2, ⟨v, hv1, hv2⟩, hc2, hm2, hR1, hR2, hI2⟩ := St hc hm hI
  obtain ⟨k1, k2, n1, n2⟩ := hI0 hc hm hI
  have z1 : 0 < hc.length := by
    obtain ⟨b0, As, fs, h1, h2⟩ := recv_inv (ci := 10) rfl k1
    cases h1
    exact (List.getElem?_eq_some_iff.mp h2).1
  have z2 : 0 < hm.length := by
    obtain ⟨b0, As, fs, h1, h2⟩ := recv_inv (ci := 12) rfl k2
    cases h1
    exact (List.getElem?_eq_some_iff.mp h2).1
  refine lv_aload_n hx hb dL_law_634 rfl (lv_at hl 1 rfl) ?_
  refine lv_aload_n hx hb dL_law_635 rfl (lv_at hl 0 rfl) ?_
  refine lv_iload hx hb dL_law_636 (lv_at hl 4 rfl) ?_
  refine lv_iconst (v := 1) hx hb dL_law_638 (by decide) ?_
  refine lv_iadd hx hb dL_law_639 ?_
  refine va_sld hx hb hX hbl hbA hS (law_in (k := 1) rfl h6 hL (by decide)) dL_law_640 ?_
  refine lw_call (L1 := []) Cx0 G (fun q h => h) cmX10_ever (run_V (X := XLaw meth.name) rfl clX10 yoX10_ever rfl tw_890 tw_891 tw_892 ⟨Nat.le_of_ble_eq_true rfl, Nat.le_of_ble_eq_true rfl⟩ dL_law_641) [.ref 0, .int (xs (nI (6 * i) + 1).toNatClampNeg)] [] q1 rfl k1 (Nat.le_of_ble_eq_true rfl) hl.1 n1 ha1 hP hD hS (by show cells + 0 ≤ 601024; omega) (by show slots + 0 ≤ 7293034; omega) (fun ad3 H locs g1 g2 g3 ha3 hP hD hS => ?_)
  rw [hv1]
  show W p l e room_1 s m _ below meth c H locs _ _ _ (F0 m 644 ls [.int v])
  refine lv_aload_n hx hb dL_law_644 rfl (lv_at hl 2 rfl) ?_
  refine lv_aload_n hx hb dL_law_645 rfl (lv_at hl 0 rfl) ?_
  refine lv_iload hx hb dL_law_646 (lv_at hl 4 rfl) ?_
  refine lv_iconst (v := 1) hx hb dL_law_648 (by decide) ?_
  refine lv_iadd hx hb dL_law_649 ?_
  refine va_sld hx hb hX hbl hbA hS (law_in (k := 1) rfl h6 hL (by decide)) dL_law_650 ?_
  refine lw_call (L1 := wd cy ad3 (fIH oc hc).2) Cx0 G (fun q h => h) cmX12_ever (run_V (X := XLaw meth.name) rfl clX12 yoX12_ever rfl tw_1818 tw_1819 tw_1820 ⟨Nat.le_of_ble_eq_true rfl, Nat.le_of_ble_eq_true rfl⟩ dL_law_651) [.ref 0, .int (xs (nI (6 * i) + 1).toNatClampNeg)] [.int v] q2 rfl k2 (Nat.le_of_ble_eq_true rfl) hl.1 n2 ha2 hP hD hS (by show cells + 0 + 0 ≤ 601024; omega) (by show slots + 0 + 0 ≤ 7293034; omega) (fun ad4 H locs g4 g5 g6 ha4 hP hD hS => ?_)
  rw [hv2]
  show W p l e room_1 s m _ below meth c H locs _ _ _ (F0 m 654 ls [.int v, .int v])
  refine lv_icmp_eq (tgt := 1439) hx hb dL_law_654 (by decide) (fun _ => ?_) (fun hne => absurd rfl hne)
  obtain ⟨ad5, g7, g8, g9, hP, hD⟩ := va_ren (L1 := []) hR1 hP hD
  obtain ⟨ad6, g10, g11, g12, hP, hD⟩ := va_ren (L1 := wd cy ad5 hc2) hR2 hP hD
  have e1 : ad5 0 = ad1 0 := g8.trans (g3 0 (Or.inl z1))
  have e2 : ad6 0 = ad2 0 := g11.trans (g6 0 (Or.inl z2))
  rw [← e1, ← e2] at hl
  exact law_next C0 hN hI2 (fun n hn => (g9 n hn).trans (ha3 n hn)) (fun n hn => (g12 n hn).trans (ha4 n hn)) hP hD hS (by omega) (by omega) hl
set_option maxRecDepth 20000 in
set_option maxHeartbeats 4000000 in
theorem law_op_15 (hI0 : InvOK Inv) (C0 : lw_At p s m meth c b L xs) (hL : L ≤ 3072) (G : GS D cy (AL s) adS s s.heap) {i : Nat} (h6 : 6 * i + 6 ≤ L) (hN : HD Inv p l e s m below meth c b D cy adS (i + 1)) {hc hm : HP} {ad1 ad2 : Nat → Nat} {qo : Nat} {fo : Nat → Int64} {H : Heap} {locs : List Loc} {cells slots : Nat} {ls : Array Slot} (hI : Inv hc hm) (ha1 : ∀ n, 2000 ≤ n → ad1 n = adS n) (ha2 : ∀ n, 2000 ≤ n → ad2 n = adS n) (hP : va_P D vwCl (wd cy ad1 hc ++ (wd cy ad2 hm ++ wO cy qo fo)) H) (hD : va_D (AL s) (wd cy ad1 hc ++ (wd cy ad2 hm ++ wO cy qo fo))) (hS : va_S (AL s) s.heap H locs) (hcl : cells ≤ 1000 + 100 * i) (hsl : slots ≤ 100000 + 1000 * i) (hl : lv_has ls 7 [(0, .ref b), (1, .ref (ad1 0)), (2, .ref (ad2 0)), (3, .ref qo), (4, .int (nI (6 * i)))]) (St : Step Inv EX10_ring fIH EX12_ring fIH [.int (xs (nI (6 * i) + 1).toNatClampNeg)]) : W p l e room_1 s m #[Value.ref b] below meth c H locs cells slots (lw_Z below #[Value.ref b] s) (F0 m 659 ls []) := by
  have Cx0 := lw_Cx C0
  obtain ⟨hx, hb, hr, hml, hown, hts, hX, hbl, hlocks, hgv⟩ := id C0
  have hbA : ¬ (AL s) b := Nat.not_le.mpr hbl
  obtain ⟨oc, om, q1, q2, ⟨v, hv1, hv2⟩, hc2, hm2, hR1, hR2, hI2⟩ := St hc hm hI
  obtain ⟨k1, k2, n1, n2⟩ := hI0 hc hm hI
  have z1 : 0 < hc.length := by
    obtain ⟨b0, As, fs, h1, h2⟩ := recv_inv (ci := 10) rfl k1
    cases h1
    exact (List.getElem?_eq_some_iff.mp h2).1
  have z2 : 0 < hm.length := by
    obtain ⟨b0, As, fs, h1, h2⟩ := recv_inv (ci := 12) rfl k2
    cases h1
    exact (List.getElem?_eq_some_iff.mp h2).1
  refine lv_aload_n hx hb dL_law_659 rfl (lv_at hl 1 rfl) ?_
  refine lv_aload_n hx hb dL_law_660 rfl (lv_at hl 0 rfl) ?_
  refine lv_iload hx hb dL_law_661 (lv_at hl 4 rfl) ?_
  refine lv_iconst (v := 1) hx hb dL_law_663 (by decide) ?_
  refine lv_iadd hx hb dL_law_664 ?_
  refine va_sld hx hb hX hbl hbA hS (law_in (k := 1) rfl h6 hL (by decide)) dL_law_665 ?_
  refine lw_call (L1 := []) Cx0 G (fun q h => h) cmX10_ring (run_V (X := XLaw meth.name) rfl clX10 yoX10_ring rfl tw_904 tw_905 tw_906 ⟨Nat.le_of_ble_eq_true rfl, Nat.le_of_ble_eq_true rfl⟩ dL_law_666) [.ref 0, .int (xs (nI (6 * i) + 1).toNatClampNeg)] [] q1 rfl k1 (Nat.le_of_ble_eq_true rfl) hl.1 n1 ha1 hP hD hS (by show cells + 0 ≤ 601024; omega) (by show slots + 0 ≤ 7293034; omega) (fun ad3 H locs g1 g2 g3 ha3 hP hD hS => ?_)
  rw [hv1]
  show W p l e room_1 s m _ below meth c H locs _ _ _ (F0 m 669 ls [.int v])
  refine lv_aload_n hx hb dL_law_669 rfl (lv_at hl 2 rfl) ?_
  refine lv_aload_n hx hb dL_law_670 rfl (lv_at hl 0 rfl) ?_
  refine lv_iload hx hb dL_law_671 (lv_at hl 4 rfl) ?_
  refine lv_iconst (v := 1) hx hb dL_law_673 (by decide) ?_
  refine lv_iadd hx hb dL_law_674 ?_
  refine va_sld hx hb hX hbl hbA hS (law_in (k := 1) rfl h6 hL (by decide)) dL_law_675 ?_
  refine lw_call (L1 := wd cy ad3 (fIH oc hc).2) Cx0 G (fun q h => h) cmX12_ring (run_V (X := XLaw meth.name) rfl clX12 yoX12_ring rfl tw_1826 tw_1827 tw_1828 ⟨Nat.le_of_ble_eq_true rfl, Nat.le_of_ble_eq_true rfl⟩ dL_law_676) [.ref 0, .int (xs (nI (6 * i) + 1).toNatClampNeg)] [.int v] q2 rfl k2 (Nat.le_of_ble_eq_true rfl) hl.1 n2 ha2 hP hD hS (by show cells + 0 + 0 ≤ 601024; omega) (by show slots + 0 + 0 ≤ 7293034; omega) (fun ad4 H locs g4 g5 g6 ha4 hP hD hS => ?_)
  rw [hv2]
  show W p l e room_1 s m _ below meth c H locs _ _ _ (F0 m 679 ls [.int v, .int v])
  refine lv_icmp_eq (tgt := 1439) hx hb dL_law_679 (by decide) (fun _ => ?_) (fun hne => absurd rfl hne)
  obtain ⟨ad5, g7, g8, g9, hP, hD⟩ := va_ren (L1 := []) hR1 hP hD
  obtain ⟨ad6, g10, g11, g12, hP, hD⟩ := va_ren (L1 := wd cy ad5 hc2) hR2 hP hD
  have e1 : ad5 0 = ad1 0 := g8.trans (g3 0 (Or.inl z1))
  have e2 : ad6 0 = ad2 0 := g11.trans (g6 0 (Or.inl z2))
  rw [← e1, ← e2] at hl
  exact law_next C0 hN hI2 (fun n hn => (g9 n hn).trans (ha3 n hn)) (fun n hn => (g12 n hn).trans (ha4 n hn)) hP hD hS (by omega) (by omega) hl
set_option maxRecDepth 20000 in
set_option maxHeartbeats 4000000 in
theorem law_op_16 (hI0 : InvOK Inv) (C0 : lw_At p s m meth c b L xs) (hL : L ≤ 3072) (G : GS D cy (AL s) adS s s.heap) {i : Nat} (h6 : 6 * i + 6 ≤ L) (hN : HD Inv p l e s m below meth c b D cy adS (i + 1)) {hc hm : HP} {ad1 ad2 : Nat → Nat} {qo : Nat} {fo : Nat → Int64} {H : Heap} {locs : List Loc} {cells slots : Nat} {ls : Array Slot} (hI : Inv hc hm) (ha1 : ∀ n, 2000 ≤ n → ad1 n = adS n) (ha2 : ∀ n, 2000 ≤ n → ad2 n = adS n) (hP : va_P D vwCl (wd cy ad1 hc ++ (wd cy ad2 hm ++ wO cy qo fo)) H) (hD : va_D (AL s) (wd cy ad1 hc ++ (wd cy ad2 hm ++ wO cy qo fo))) (hS : va_S (AL s) s.heap H locs) (hcl : cells ≤ 1000 + 100 * i) (hsl : slots ≤ 100000 + 1000 * i) (hl : lv_has ls 7 [(0, .ref b), (1, .ref (ad1 0)), (2, .ref (ad2 0)), (3, .ref qo), (4, .int (nI (6 * i)))]) (St : Step Inv EX10_meets fIH EX12_meets fIH [.int (xs (nI (6 * i) + 1).toNatClampNeg), .int (xs (nI (6 * i) + 2).toNatClampNeg)]) : W p l e room_1 s m #[Value.ref b] below meth c H locs cells slots (lw_Z below #[Value.ref b] s) (F0 m 684 ls []) := by
  have Cx0 := lw_Cx C0
  obtain ⟨hx, hb, hr, hml, hown, hts, hX, hbl, hlocks, hgv⟩ := id C0
  have hbA : ¬ (AL s) b := Nat.not_le.mpr hbl
  obtain ⟨oc, om, q1, q2, ⟨v, hv1, hv2⟩, hc2, hm2, hR1, hR2, hI2⟩ := St hc hm hI
  obtain ⟨k1, k2, n1, n2⟩ := hI0 hc hm hI
  have z1 : 0 < hc.length := by
    obtain ⟨b0, As, fs, h1, h2⟩ := recv_inv (ci := 10) rfl k1
    cases h1
    exact (List.getElem?_eq_some_iff.mp h2).1
  have z2 : 0 < hm.length := by
    obtain ⟨b0, As, fs, h1, h2⟩ := recv_inv (ci := 12) rfl k2
    cases h1
    exact (List.getElem?_eq_some_iff.mp h2).1
  refine lv_aload_n hx hb dL_law_684 rfl (lv_at hl 1 rfl) ?_
  refine lv_aload_n hx hb dL_law_685 rfl (lv_at hl 0 rfl) ?_
  refine lv_iload hx hb dL_law_686 (lv_at hl 4 rfl) ?_
  refine lv_iconst (v := 1) hx hb dL_law_688 (by decide) ?_
  refine lv_iadd hx hb dL_law_689 ?_
  refine va_sld hx hb hX hbl hbA hS (law_in (k := 1) rfl h6 hL (by decide)) dL_law_690 ?_
  refine lv_aload_n hx hb dL_law_691 rfl (lv_at hl 0 rfl) ?_
  refine lv_iload hx hb dL_law_692 (lv_at hl 4 rfl) ?_
  refine lv_iconst (v := 2) hx hb dL_law_694 (by decide) ?_
  refine lv_iadd hx hb dL_law_695 ?_
  refine va_sld hx hb hX hbl hbA hS (law_in (k := 2) rfl h6 hL (by decide)) dL_law_696 ?_
  refine lw_call (L1 := []) Cx0 G (fun q h => h) cmX10_meets (run_V (X := XLaw meth.name) rfl clX10 yoX10_meets rfl tw_912 tw_913 tw_914 ⟨Nat.le_of_ble_eq_true rfl, Nat.le_of_ble_eq_true rfl⟩ dL_law_697) [.ref 0, .int (xs (nI (6 * i) + 1).toNatClampNeg), .int (xs (nI (6 * i) + 2).toNatClampNeg)] [] q1 rfl k1 (Nat.le_of_ble_eq_true rfl) hl.1 n1 ha1 hP hD hS (by show cells + 0 ≤ 601024; omega) (by show slots + 0 ≤ 7293034; omega) (fun ad3 H locs g1 g2 g3 ha3 hP hD hS => ?_)
  rw [hv1]
  show W p l e room_1 s m _ below meth c H locs _ _ _ (F0 m 700 ls [.int v])
  refine lv_aload_n hx hb dL_law_700 rfl (lv_at hl 2 rfl) ?_
  refine lv_aload_n hx hb dL_law_701 rfl (lv_at hl 0 rfl) ?_
  refine lv_iload hx hb dL_law_702 (lv_at hl 4 rfl) ?_
  refine lv_iconst (v := 1) hx hb dL_law_704 (by decide) ?_
  refine lv_iadd hx hb dL_law_705 ?_
  refine va_sld hx hb hX hbl hbA hS (law_in (k := 1) rfl h6 hL (by decide)) dL_law_706 ?_
  refine lv_aload_n hx hb dL_law_707 rfl (lv_at hl 0 rfl) ?_
  refine lv_iload hx hb dL_law_708 (lv_at hl 4 rfl) ?_
  refine lv_iconst (v := 2) hx hb dL_law_710 (by decide) ?_
  refine lv_iadd hx hb dL_law_711 ?_
  refine va_sld hx hb hX hbl hbA hS (law_in (k := 2) rfl h6 hL (by decide)) dL_law_712 ?_
  refine lw_call (L1 := wd cy ad3 (fIH oc hc).2) Cx0 G (fun q h => h) cmX12_meets (run_V (X := XLaw meth.name) rfl clX12 yoX12_meets rfl tw_1830 tw_1831 tw_1832 ⟨Nat.le_of_ble_eq_true rfl, Nat.le_of_ble_eq_true rfl⟩ dL_law_713) [.ref 0, .int (xs (nI (6 * i) + 1).toNatClampNeg), .int (xs (nI (6 * i) + 2).toNatClampNeg)] [.int v] q2 rfl k2 (Nat.le_of_ble_eq_true rfl) hl.1 n2 ha2 hP hD hS (by show cells + 0 + 0 ≤ 601024; omega) (by show slots + 0 + 0 ≤ 7293034; omega) (fun ad4 H locs g4 g5 g6 ha4 hP hD hS => ?_)
  rw [hv2]
  show W p l e room_1 s m _ below meth c H locs _ _ _ (F0 m 716 ls [.int v, .int v])
  refine lv_icmp_eq (tgt := 1439) hx hb dL_law_716 (by decide) (fun _ => ?_) (fun hne => absurd rfl hne)
  obtain ⟨ad5, g7, g8, g9, hP, hD⟩ := va_ren (L1 := []) hR1 hP hD
  obtain ⟨ad6, g10, g11, g12, hP, hD⟩ := va_ren (L1 := wd cy ad5 hc2) hR2 hP hD
  have e1 : ad5 0 = ad1 0 := g8.trans (g3 0 (Or.inl z1))
  have e2 : ad6 0 = ad2 0 := g11.trans (g6 0 (Or.inl z2))
  rw [← e1, ← e2] at hl
  exact law_next C0 hN hI2 (fun n hn => (g9 n hn).trans (ha3 n hn)) (fun n hn => (g12 n hn).trans (ha4 n hn)) hP hD hS (by omega) (by omega) hl
set_option maxRecDepth 20000 in
set_option maxHeartbeats 4000000 in
theorem law_op_17 (hI0 : InvOK Inv) (C0 : lw_At p s m meth c b L xs) (hL : L ≤ 3072) (G : GS D cy (AL s) adS s s.heap) {i : Nat} (h6 : 6 * i + 6 ≤ L) (hN : HD Inv p l e s m below meth c b D cy adS (i + 1)) {hc hm : HP} {ad1 ad2 : Nat → Nat} {qo : Nat} {fo : Nat → Int64} {H : Heap} {locs : List Loc} {cells slots : Nat} {ls : Array Slot} (hI : Inv hc hm) (ha1 : ∀ n, 2000 ≤ n → ad1 n = adS n) (ha2 : ∀ n, 2000 ≤ n → ad2 n = adS n) (hP : va_P D vwCl (wd cy ad1 hc ++ (wd cy ad2 hm ++ wO cy qo fo)) H) (hD : va_D (AL s) (wd cy ad1 hc ++ (wd cy ad2 hm ++ wO cy qo fo))) (hS : va_S (AL s) s.heap H locs) (hcl : cells ≤ 1000 + 100 * i) (hsl : slots ≤ 100000 + 1000 * i) (hl : lv_has ls 7 [(0, .ref b), (1, .ref (ad1 0)), (2, .ref (ad2 0)), (3, .ref qo), (4, .int (nI (6 * i)))]) (St : Step Inv EX10_shouts fIH EX12_shouts fIH [.int (xs (nI (6 * i) + 1).toNatClampNeg)]) : W p l e room_1 s m #[Value.ref b] below meth c H locs cells slots (lw_Z below #[Value.ref b] s) (F0 m 721 ls []) := by
  have Cx0 := lw_Cx C0
  obtain ⟨hx, hb, hr, hml, hown, hts, hX, hbl, hlocks, hgv⟩ := id C0
  have hbA : ¬ (AL s) b := Nat.not_le.mpr hbl
  obtain ⟨oc, om, q1, q2, ⟨v, hv1, hv2⟩, hc2, hm2, hR1, hR2, hI2⟩ := St hc hm hI
  obtain ⟨k1, k2, n1, n2⟩ := hI0 hc hm hI
  have z1 : 0 < hc.length := by
    obtain ⟨b0, As, fs, h1, h2⟩ := recv_inv (ci := 10) rfl k1
    cases h1
    exact (List.getElem?_eq_some_iff.mp h2).1
  have z2 : 0 < hm.length := by
    obtain ⟨b0, As, fs, h1, h2⟩ := recv_inv (ci := 12) rfl k2
    cases h1
    exact (List.getElem?_eq_some_iff.mp h2).1
  refine lv_aload_n hx hb dL_law_721 rfl (lv_at hl 1 rfl) ?_
  refine lv_aload_n hx hb dL_law_722 rfl (lv_at hl 0 rfl) ?_
  refine lv_iload hx hb dL_law_723 (lv_at hl 4 rfl) ?_
  refine lv_iconst (v := 1) hx hb dL_law_725 (by decide) ?_
  refine lv_iadd hx hb dL_law_726 ?_
  refine va_sld hx hb hX hbl hbA hS (law_in (k := 1) rfl h6 hL (by decide)) dL_law_727 ?_
  refine lw_call (L1 := []) Cx0 G (fun q h => h) cmX10_shouts (run_V (X := XLaw meth.name) rfl clX10 yoX10_shouts rfl tw_916 tw_917 tw_918 ⟨Nat.le_of_ble_eq_true rfl, Nat.le_of_ble_eq_true rfl⟩ dL_law_728) [.ref 0, .int (xs (nI (6 * i) + 1).toNatClampNeg)] [] q1 rfl k1 (Nat.le_of_ble_eq_true rfl) hl.1 n1 ha1 hP hD hS (by show cells + 0 ≤ 601024; omega) (by show slots + 0 ≤ 7293034; omega) (fun ad3 H locs g1 g2 g3 ha3 hP hD hS => ?_)
  rw [hv1]
  show W p l e room_1 s m _ below meth c H locs _ _ _ (F0 m 731 ls [.int v])
  refine lv_aload_n hx hb dL_law_731 rfl (lv_at hl 2 rfl) ?_
  refine lv_aload_n hx hb dL_law_732 rfl (lv_at hl 0 rfl) ?_
  refine lv_iload hx hb dL_law_733 (lv_at hl 4 rfl) ?_
  refine lv_iconst (v := 1) hx hb dL_law_735 (by decide) ?_
  refine lv_iadd hx hb dL_law_736 ?_
  refine va_sld hx hb hX hbl hbA hS (law_in (k := 1) rfl h6 hL (by decide)) dL_law_737 ?_
  refine lw_call (L1 := wd cy ad3 (fIH oc hc).2) Cx0 G (fun q h => h) cmX12_shouts (run_V (X := XLaw meth.name) rfl clX12 yoX12_shouts rfl tw_1834 tw_1835 tw_1836 ⟨Nat.le_of_ble_eq_true rfl, Nat.le_of_ble_eq_true rfl⟩ dL_law_738) [.ref 0, .int (xs (nI (6 * i) + 1).toNatClampNeg)] [.int v] q2 rfl k2 (Nat.le_of_ble_eq_true rfl) hl.1 n2 ha2 hP hD hS (by show cells + 0 + 0 ≤ 601024; omega) (by show slots + 0 + 0 ≤ 7293034; omega) (fun ad4 H locs g4 g5 g6 ha4 hP hD hS => ?_)
  rw [hv2]
  show W p l e room_1 s m _ below meth c H locs _ _ _ (F0 m 741 ls [.int v, .int v])
  refine lv_icmp_eq (tgt := 1439) hx hb dL_law_741 (by decide) (fun _ => ?_) (fun hne => absurd rfl hne)
  obtain ⟨ad5, g7, g8, g9, hP, hD⟩ := va_ren (L1 := []) hR1 hP hD
  obtain ⟨ad6, g10, g11, g12, hP, hD⟩ := va_ren (L1 := wd cy ad5 hc2) hR2 hP hD
  have e1 : ad5 0 = ad1 0 := g8.trans (g3 0 (Or.inl z1))
  have e2 : ad6 0 = ad2 0 := g11.trans (g6 0 (Or.inl z2))
  rw [← e1, ← e2] at hl
  exact law_next C0 hN hI2 (fun n hn => (g9 n hn).trans (ha3 n hn)) (fun n hn => (g12 n hn).trans (ha4 n hn)) hP hD hS (by omega) (by omega) hl
set_option maxRecDepth 20000 in
set_option maxHeartbeats 4000000 in
theorem law_op_18 (hI0 : InvOK Inv) (C0 : lw_At p s m meth c b L xs) (hL : L ≤ 3072) (G : GS D cy (AL s) adS s s.heap) {i : Nat} (h6 : 6 * i + 6 ≤ L) (hN : HD Inv p l e s m below meth c b D cy adS (i + 1)) {hc hm : HP} {ad1 ad2 : Nat → Nat} {qo : Nat} {fo : Nat → Int64} {H : Heap} {locs : List Loc} {cells slots : Nat} {ls : Array Slot} (hI : Inv hc hm) (ha1 : ∀ n, 2000 ≤ n → ad1 n = adS n) (ha2 : ∀ n, 2000 ≤ n → ad2 n = adS n) (hP : va_P D vwCl (wd cy ad1 hc ++ (wd cy ad2 hm ++ wO cy qo fo)) H) (hD : va_D (AL s) (wd cy ad1 hc ++ (wd cy ad2 hm ++ wO cy qo fo))) (hS : va_S (AL s) s.heap H locs) (hcl : cells ≤ 1000 + 100 * i) (hsl : slots ≤ 100000 + 1000 * i) (hl : lv_has ls 7 [(0, .ref b), (1, .ref (ad1 0)), (2, .ref (ad2 0)), (3, .ref qo), (4, .int (nI (6 * i)))]) (St : Step Inv EX10_visits fIH EX12_visits fIH [.int (xs (nI (6 * i) + 1).toNatClampNeg)]) : W p l e room_1 s m #[Value.ref b] below meth c H locs cells slots (lw_Z below #[Value.ref b] s) (F0 m 746 ls []) := by
  have Cx0 := lw_Cx C0
  obtain ⟨hx, hb, hr, hml, hown, hts, hX, hbl, hlocks, hgv⟩ := id C0
  have hbA : ¬ (AL s) b := Nat.not_le.mpr hbl
  obtain ⟨oc, om, q1, q2, ⟨v, hv1, hv2⟩, hc2, hm2, hR1, hR2, hI2⟩ := St hc hm hI
  obtain ⟨k1, k2, n1, n2⟩ := hI0 hc hm hI
  have z1 : 0 < hc.length := by
    obtain ⟨b0, As, fs, h1, h2⟩ := recv_inv (ci := 10) rfl k1
    cases h1
    exact (List.getElem?_eq_some_iff.mp h2).1
  have z2 : 0 < hm.length := by
    obtain ⟨b0, As, fs, h1, h2⟩ := recv_inv (ci := 12) rfl k2
    cases h1
    exact (List.getElem?_eq_some_iff.mp h2).1
  refine lv_aload_n hx hb dL_law_746 rfl (lv_at hl 1 rfl) ?_
  refine lv_aload_n hx hb dL_law_747 rfl (lv_at hl 0 rfl) ?_
  refine lv_iload hx hb dL_law_748 (lv_at hl 4 rfl) ?_
  refine lv_iconst (v := 1) hx hb dL_law_750 (by decide) ?_
  refine lv_iadd hx hb dL_law_751 ?_
  refine va_sld hx hb hX hbl hbA hS (law_in (k := 1) rfl h6 hL (by decide)) dL_law_752 ?_
  refine lw_call (L1 := []) Cx0 G (fun q h => h) cmX10_visits (run_V (X := XLaw meth.name) rfl clX10 yoX10_visits rfl tw_925 tw_926 tw_927 ⟨Nat.le_of_ble_eq_true rfl, Nat.le_of_ble_eq_true rfl⟩ dL_law_753) [.ref 0, .int (xs (nI (6 * i) + 1).toNatClampNeg)] [] q1 rfl k1 (Nat.le_of_ble_eq_true rfl) hl.1 n1 ha1 hP hD hS (by show cells + 0 ≤ 601024; omega) (by show slots + 0 ≤ 7293034; omega) (fun ad3 H locs g1 g2 g3 ha3 hP hD hS => ?_)
  rw [hv1]
  show W p l e room_1 s m _ below meth c H locs _ _ _ (F0 m 756 ls [.int v])
  refine lv_aload_n hx hb dL_law_756 rfl (lv_at hl 2 rfl) ?_
  refine lv_aload_n hx hb dL_law_757 rfl (lv_at hl 0 rfl) ?_
  refine lv_iload hx hb dL_law_758 (lv_at hl 4 rfl) ?_
  refine lv_iconst (v := 1) hx hb dL_law_760 (by decide) ?_
  refine lv_iadd hx hb dL_law_761 ?_
  refine va_sld hx hb hX hbl hbA hS (law_in (k := 1) rfl h6 hL (by decide)) dL_law_762 ?_
  refine lw_call (L1 := wd cy ad3 (fIH oc hc).2) Cx0 G (fun q h => h) cmX12_visits (run_V (X := XLaw meth.name) rfl clX12 yoX12_visits rfl tw_1842 tw_1843 tw_1844 ⟨Nat.le_of_ble_eq_true rfl, Nat.le_of_ble_eq_true rfl⟩ dL_law_763) [.ref 0, .int (xs (nI (6 * i) + 1).toNatClampNeg)] [.int v] q2 rfl k2 (Nat.le_of_ble_eq_true rfl) hl.1 n2 ha2 hP hD hS (by show cells + 0 + 0 ≤ 601024; omega) (by show slots + 0 + 0 ≤ 7293034; omega) (fun ad4 H locs g4 g5 g6 ha4 hP hD hS => ?_)
  rw [hv2]
  show W p l e room_1 s m _ below meth c H locs _ _ _ (F0 m 766 ls [.int v, .int v])
  refine lv_icmp_eq (tgt := 1439) hx hb dL_law_766 (by decide) (fun _ => ?_) (fun hne => absurd rfl hne)
  obtain ⟨ad5, g7, g8, g9, hP, hD⟩ := va_ren (L1 := []) hR1 hP hD
  obtain ⟨ad6, g10, g11, g12, hP, hD⟩ := va_ren (L1 := wd cy ad5 hc2) hR2 hP hD
  have e1 : ad5 0 = ad1 0 := g8.trans (g3 0 (Or.inl z1))
  have e2 : ad6 0 = ad2 0 := g11.trans (g6 0 (Or.inl z2))
  rw [← e1, ← e2] at hl
  exact law_next C0 hN hI2 (fun n hn => (g9 n hn).trans (ha3 n hn)) (fun n hn => (g12 n hn).trans (ha4 n hn)) hP hD hS (by omega) (by omega) hl
set_option maxRecDepth 20000 in
set_option maxHeartbeats 4000000 in
theorem law_op_19 (hI0 : InvOK Inv) (C0 : lw_At p s m meth c b L xs) (hL : L ≤ 3072) (G : GS D cy (AL s) adS s s.heap) {i : Nat} (h6 : 6 * i + 6 ≤ L) (hN : HD Inv p l e s m below meth c b D cy adS (i + 1)) {hc hm : HP} {ad1 ad2 : Nat → Nat} {qo : Nat} {fo : Nat → Int64} {H : Heap} {locs : List Loc} {cells slots : Nat} {ls : Array Slot} (hI : Inv hc hm) (ha1 : ∀ n, 2000 ≤ n → ad1 n = adS n) (ha2 : ∀ n, 2000 ≤ n → ad2 n = adS n) (hP : va_P D vwCl (wd cy ad1 hc ++ (wd cy ad2 hm ++ wO cy qo fo)) H) (hD : va_D (AL s) (wd cy ad1 hc ++ (wd cy ad2 hm ++ wO cy qo fo))) (hS : va_S (AL s) s.heap H locs) (hcl : cells ≤ 1000 + 100 * i) (hsl : slots ≤ 100000 + 1000 * i) (hl : lv_has ls 7 [(0, .ref b), (1, .ref (ad1 0)), (2, .ref (ad2 0)), (3, .ref qo), (4, .int (nI (6 * i)))]) (St : Step Inv EX10_crowd fIH EX12_crowd fIH [.int (xs (nI (6 * i) + 1).toNatClampNeg)]) : W p l e room_1 s m #[Value.ref b] below meth c H locs cells slots (lw_Z below #[Value.ref b] s) (F0 m 771 ls []) := by
  have Cx0 := lw_Cx C0
  obtain ⟨hx, hb, hr, hml, hown, hts, hX, hbl, hlocks, hgv⟩ := id C0
  have hbA : ¬ (AL s) b := Nat.not_le.mpr hbl
  obtain ⟨oc, om, q1, q2, ⟨v, hv1, hv2⟩, hc2, hm2, hR1, hR2, hI2⟩ := St hc hm hI
  obtain ⟨k1, k2, n1, n2⟩ := hI0 hc hm hI
  have z1 : 0 < hc.length := by
    obtain ⟨b0, As, fs, h1, h2⟩ := recv_inv (ci := 10) rfl k1
    cases h1
    exact (List.getElem?_eq_some_iff.mp h2).1
  have z2 : 0 < hm.length := by
    obtain ⟨b0, As, fs, h1, h2⟩ := recv_inv (ci := 12) rfl k2
    cases h1
    exact (List.getElem?_eq_some_iff.mp h2).1
  refine lv_aload_n hx hb dL_law_771 rfl (lv_at hl 1 rfl) ?_
  refine lv_aload_n hx hb dL_law_772 rfl (lv_at hl 0 rfl) ?_
  refine lv_iload hx hb dL_law_773 (lv_at hl 4 rfl) ?_
  refine lv_iconst (v := 1) hx hb dL_law_775 (by decide) ?_
  refine lv_iadd hx hb dL_law_776 ?_
  refine va_sld hx hb hX hbl hbA hS (law_in (k := 1) rfl h6 hL (by decide)) dL_law_777 ?_
  refine lw_call (L1 := []) Cx0 G (fun q h => h) cmX10_crowd (run_V (X := XLaw meth.name) rfl clX10 yoX10_crowd rfl tw_934 tw_935 tw_936 ⟨Nat.le_of_ble_eq_true rfl, Nat.le_of_ble_eq_true rfl⟩ dL_law_778) [.ref 0, .int (xs (nI (6 * i) + 1).toNatClampNeg)] [] q1 rfl k1 (Nat.le_of_ble_eq_true rfl) hl.1 n1 ha1 hP hD hS (by show cells + 0 ≤ 601024; omega) (by show slots + 0 ≤ 7293034; omega) (fun ad3 H locs g1 g2 g3 ha3 hP hD hS => ?_)
  rw [hv1]
  show W p l e room_1 s m _ below meth c H locs _ _ _ (F0 m 781 ls [.int v])
  refine lv_aload_n hx hb dL_law_781 rfl (lv_at hl 2 rfl) ?_
  refine lv_aload_n hx hb dL_law_782 rfl (lv_at hl 0 rfl) ?_
  refine lv_iload hx hb dL_law_783 (lv_at hl 4 rfl) ?_
  refine lv_iconst (v := 1) hx hb dL_law_785 (by decide) ?_
  refine lv_iadd hx hb dL_law_786 ?_
  refine va_sld hx hb hX hbl hbA hS (law_in (k := 1) rfl h6 hL (by decide)) dL_law_787 ?_
  refine lw_call (L1 := wd cy ad3 (fIH oc hc).2) Cx0 G (fun q h => h) cmX12_crowd (run_V (X := XLaw meth.name) rfl clX12 yoX12_crowd rfl tw_1846 tw_1847 tw_1848 ⟨Nat.le_of_ble_eq_true rfl, Nat.le_of_ble_eq_true rfl⟩ dL_law_788) [.ref 0, .int (xs (nI (6 * i) + 1).toNatClampNeg)] [.int v] q2 rfl k2 (Nat.le_of_ble_eq_true rfl) hl.1 n2 ha2 hP hD hS (by show cells + 0 + 0 ≤ 601024; omega) (by show slots + 0 + 0 ≤ 7293034; omega) (fun ad4 H locs g4 g5 g6 ha4 hP hD hS => ?_)
  rw [hv2]
  show W p l e room_1 s m _ below meth c H locs _ _ _ (F0 m 791 ls [.int v, .int v])
  refine lv_icmp_eq (tgt := 1439) hx hb dL_law_791 (by decide) (fun _ => ?_) (fun hne => absurd rfl hne)
  obtain ⟨ad5, g7, g8, g9, hP, hD⟩ := va_ren (L1 := []) hR1 hP hD
  obtain ⟨ad6, g10, g11, g12, hP, hD⟩ := va_ren (L1 := wd cy ad5 hc2) hR2 hP hD
  have e1 : ad5 0 = ad1 0 := g8.trans (g3 0 (Or.inl z1))
  have e2 : ad6 0 = ad2 0 := g11.trans (g6 0 (Or.inl z2))
  rw [← e1, ← e2] at hl
  exact law_next C0 hN hI2 (fun n hn => (g9 n hn).trans (ha3 n hn)) (fun n hn => (g12 n hn).trans (ha4 n hn)) hP hD hS (by omega) (by omega) hl
set_option maxRecDepth 20000 in
set_option maxHeartbeats 4000000 in
theorem law_op_20 (hI0 : InvOK Inv) (C0 : lw_At p s m meth c b L xs) (hL : L ≤ 3072) (G : GS D cy (AL s) adS s s.heap) {i : Nat} (h6 : 6 * i + 6 ≤ L) (hN : HD Inv p l e s m below meth c b D cy adS (i + 1)) {hc hm : HP} {ad1 ad2 : Nat → Nat} {qo : Nat} {fo : Nat → Int64} {H : Heap} {locs : List Loc} {cells slots : Nat} {ls : Array Slot} (hI : Inv hc hm) (ha1 : ∀ n, 2000 ≤ n → ad1 n = adS n) (ha2 : ∀ n, 2000 ≤ n → ad2 n = adS n) (hP : va_P D vwCl (wd cy ad1 hc ++ (wd cy ad2 hm ++ wO cy qo fo)) H) (hD : va_D (AL s) (wd cy ad1 hc ++ (wd cy ad2 hm ++ wO cy qo fo))) (hS : va_S (AL s) s.heap H locs) (hcl : cells ≤ 1000 + 100 * i) (hsl : slots ≤ 100000 + 1000 * i) (hl : lv_has ls 7 [(0, .ref b), (1, .ref (ad1 0)), (2, .ref (ad2 0)), (3, .ref qo), (4, .int (nI (6 * i)))]) (St : Step Inv EX10_paid fIH EX12_paid fIH []) : W p l e room_1 s m #[Value.ref b] below meth c H locs cells slots (lw_Z below #[Value.ref b] s) (F0 m 796 ls []) := by
  have Cx0 := lw_Cx C0
  obtain ⟨hx, hb, hr, hml, hown, hts, hX, hbl, hlocks, hgv⟩ := id C0
  have hbA : ¬ (AL s) b := Nat.not_le.mpr hbl
  obtain ⟨oc, om, q1, q2, ⟨v, hv1, hv2⟩, hc2, hm2, hR1, hR2, hI2⟩ := St hc hm hI
  obtain ⟨k1, k2, n1, n2⟩ := hI0 hc hm hI
  have z1 : 0 < hc.length := by
    obtain ⟨b0, As, fs, h1, h2⟩ := recv_inv (ci := 10) rfl k1
    cases h1
    exact (List.getElem?_eq_some_iff.mp h2).1
  have z2 : 0 < hm.length := by
    obtain ⟨b0, As, fs, h1, h2⟩ := recv_inv (ci := 12) rfl k2
    cases h1
    exact (List.getElem?_eq_some_iff.mp h2).1
  refine lv_aload_n hx hb dL_law_796 rfl (lv_at hl 1 rfl) ?_
  refine lw_call (L1 := []) Cx0 G (fun q h => h) cmX10_paid (run_V (X := XLaw meth.name) rfl clX10 yoX10_paid rfl tw_938 tw_939 tw_940 ⟨Nat.le_of_ble_eq_true rfl, Nat.le_of_ble_eq_true rfl⟩ dL_law_797) [.ref 0] [] q1 rfl k1 (Nat.le_of_ble_eq_true rfl) hl.1 n1 ha1 hP hD hS (by show cells + 0 ≤ 601024; omega) (by show slots + 0 ≤ 7293034; omega) (fun ad3 H locs g1 g2 g3 ha3 hP hD hS => ?_)
  rw [hv1]
  show W p l e room_1 s m _ below meth c H locs _ _ _ (F0 m 800 ls [.int v])
  refine lv_aload_n hx hb dL_law_800 rfl (lv_at hl 2 rfl) ?_
  refine lw_call (L1 := wd cy ad3 (fIH oc hc).2) Cx0 G (fun q h => h) cmX12_paid (run_V (X := XLaw meth.name) rfl clX12 yoX12_paid rfl tw_1850 tw_1851 tw_1852 ⟨Nat.le_of_ble_eq_true rfl, Nat.le_of_ble_eq_true rfl⟩ dL_law_801) [.ref 0] [.int v] q2 rfl k2 (Nat.le_of_ble_eq_true rfl) hl.1 n2 ha2 hP hD hS (by show cells + 0 + 0 ≤ 601024; omega) (by show slots + 0 + 0 ≤ 7293034; omega) (fun ad4 H locs g4 g5 g6 ha4 hP hD hS => ?_)
  rw [hv2]
  show W p l e room_1 s m _ below meth c H locs _ _ _ (F0 m 804 ls [.int v, .int v])
  refine lv_icmp_eq (tgt := 1439) hx hb dL_law_804 (by decide) (fun _ => ?_) (fun hne => absurd rfl hne)
  obtain ⟨ad5, g7, g8, g9, hP, hD⟩ := va_ren (L1 := []) hR1 hP hD
  obtain ⟨ad6, g10, g11, g12, hP, hD⟩ := va_ren (L1 := wd cy ad5 hc2) hR2 hP hD
  have e1 : ad5 0 = ad1 0 := g8.trans (g3 0 (Or.inl z1))
  have e2 : ad6 0 = ad2 0 := g11.trans (g6 0 (Or.inl z2))
  rw [← e1, ← e2] at hl
  exact law_next C0 hN hI2 (fun n hn => (g9 n hn).trans (ha3 n hn)) (fun n hn => (g12 n hn).trans (ha4 n hn)) hP hD hS (by omega) (by omega) hl
set_option maxRecDepth 20000 in
set_option maxHeartbeats 4000000 in
theorem law_op_21 (hI0 : InvOK Inv) (C0 : lw_At p s m meth c b L xs) (hL : L ≤ 3072) (G : GS D cy (AL s) adS s s.heap) {i : Nat} (h6 : 6 * i + 6 ≤ L) (hN : HD Inv p l e s m below meth c b D cy adS (i + 1)) {hc hm : HP} {ad1 ad2 : Nat → Nat} {qo : Nat} {fo : Nat → Int64} {H : Heap} {locs : List Loc} {cells slots : Nat} {ls : Array Slot} (hI : Inv hc hm) (ha1 : ∀ n, 2000 ≤ n → ad1 n = adS n) (ha2 : ∀ n, 2000 ≤ n → ad2 n = adS n) (hP : va_P D vwCl (wd cy ad1 hc ++ (wd cy ad2 hm ++ wO cy qo fo)) H) (hD : va_D (AL s) (wd cy ad1 hc ++ (wd cy ad2 hm ++ wO cy qo fo))) (hS : va_S (AL s) s.heap H locs) (hcl : cells ≤ 1000 + 100 * i) (hsl : slots ≤ 100000 + 1000 * i) (hl : lv_has ls 7 [(0, .ref b), (1, .ref (ad1 0)), (2, .ref (ad2 0)), (3, .ref qo), (4, .int (nI (6 * i)))]) (St : Step Inv EX10_stuck fIH EX12_stuck fIH []) : W p l e room_1 s m #[Value.ref b] below meth c H locs cells slots (lw_Z below #[Value.ref b] s) (F0 m 809 ls []) := by
  have Cx0 := lw_Cx C0
  obtain ⟨hx, hb, hr, hml, hown, hts, hX, hbl, hlocks, hgv⟩ := id C0
  have hbA : ¬ (AL s) b := Nat.not_le.mpr hbl
  obtain ⟨oc, om, q1, q2, ⟨v, hv1, hv2⟩, hc2, hm2, hR1, hR2, hI2⟩ := St hc hm hI
  obtain ⟨k1, k2, n1, n2⟩ := hI0 hc hm hI
  have z1 : 0 < hc.length := by
    obtain ⟨b0, As, fs, h1, h2⟩ := recv_inv (ci := 10) rfl k1
    cases h1
    exact (List.getElem?_eq_some_iff.mp h2).1
  have z2 : 0 < hm.length := by
    obtain ⟨b0, As, fs, h1, h2⟩ := recv_inv (ci := 12) rfl k2
    cases h1
    exact (List.getElem?_eq_some_iff.mp h2).1
  refine lv_aload_n hx hb dL_law_809 rfl (lv_at hl 1 rfl) ?_
  refine lw_call (L1 := []) Cx0 G (fun q h => h) cmX10_stuck (run_V (X := XLaw meth.name) rfl clX10 yoX10_stuck rfl tw_942 tw_943 tw_944 ⟨Nat.le_of_ble_eq_true rfl, Nat.le_of_ble_eq_true rfl⟩ dL_law_810) [.ref 0] [] q1 rfl k1 (Nat.le_of_ble_eq_true rfl) hl.1 n1 ha1 hP hD hS (by show cells + 0 ≤ 601024; omega) (by show slots + 0 ≤ 7293034; omega) (fun ad3 H locs g1 g2 g3 ha3 hP hD hS => ?_)
  rw [hv1]
  show W p l e room_1 s m _ below meth c H locs _ _ _ (F0 m 813 ls [.int v])
  refine lv_aload_n hx hb dL_law_813 rfl (lv_at hl 2 rfl) ?_
  refine lw_call (L1 := wd cy ad3 (fIH oc hc).2) Cx0 G (fun q h => h) cmX12_stuck (run_V (X := XLaw meth.name) rfl clX12 yoX12_stuck rfl tw_1858 tw_1859 tw_1860 ⟨Nat.le_of_ble_eq_true rfl, Nat.le_of_ble_eq_true rfl⟩ dL_law_814) [.ref 0] [.int v] q2 rfl k2 (Nat.le_of_ble_eq_true rfl) hl.1 n2 ha2 hP hD hS (by show cells + 0 + 0 ≤ 601024; omega) (by show slots + 0 + 0 ≤ 7293034; omega) (fun ad4 H locs g4 g5 g6 ha4 hP hD hS => ?_)
  rw [hv2]
  show W p l e room_1 s m _ below meth c H locs _ _ _ (F0 m 817 ls [.int v, .int v])
  refine lv_icmp_eq (tgt := 1439) hx hb dL_law_817 (by decide) (fun _ => ?_) (fun hne => absurd rfl hne)
  obtain ⟨ad5, g7, g8, g9, hP, hD⟩ := va_ren (L1 := []) hR1 hP hD
  obtain ⟨ad6, g10, g11, g12, hP, hD⟩ := va_ren (L1 := wd cy ad5 hc2) hR2 hP hD
  have e1 : ad5 0 = ad1 0 := g8.trans (g3 0 (Or.inl z1))
  have e2 : ad6 0 = ad2 0 := g11.trans (g6 0 (Or.inl z2))
  rw [← e1, ← e2] at hl
  exact law_next C0 hN hI2 (fun n hn => (g9 n hn).trans (ha3 n hn)) (fun n hn => (g12 n hn).trans (ha4 n hn)) hP hD hS (by omega) (by omega) hl
set_option maxRecDepth 20000 in
set_option maxHeartbeats 4000000 in
theorem law_op_22 (hI0 : InvOK Inv) (C0 : lw_At p s m meth c b L xs) (hL : L ≤ 3072) (G : GS D cy (AL s) adS s s.heap) {i : Nat} (h6 : 6 * i + 6 ≤ L) (hN : HD Inv p l e s m below meth c b D cy adS (i + 1)) {hc hm : HP} {ad1 ad2 : Nat → Nat} {qo : Nat} {fo : Nat → Int64} {H : Heap} {locs : List Loc} {cells slots : Nat} {ls : Array Slot} (hI : Inv hc hm) (ha1 : ∀ n, 2000 ≤ n → ad1 n = adS n) (ha2 : ∀ n, 2000 ≤ n → ad2 n = adS n) (hP : va_P D vwCl (wd cy ad1 hc ++ (wd cy ad2 hm ++ wO cy qo fo)) H) (hD : va_D (AL s) (wd cy ad1 hc ++ (wd cy ad2 hm ++ wO cy qo fo))) (hS : va_S (AL s) s.heap H locs) (hcl : cells ≤ 1000 + 100 * i) (hsl : slots ≤ 100000 + 1000 * i) (hl : lv_has ls 7 [(0, .ref b), (1, .ref (ad1 0)), (2, .ref (ad2 0)), (3, .ref qo), (4, .int (nI (6 * i)))]) (St : Step Inv EX10_caught fIH EX12_caught fIH [.int (xs (nI (6 * i) + 1).toNatClampNeg), .int (xs (nI (6 * i) + 2).toNatClampNeg), .int (xs (nI (6 * i) + 3).toNatClampNeg)]) : W p l e room_1 s m #[Value.ref b] below meth c H locs cells slots (lw_Z below #[Value.ref b] s) (F0 m 822 ls []) := by
  have Cx0 := lw_Cx C0
  obtain ⟨hx, hb, hr, hml, hown, hts, hX, hbl, hlocks, hgv⟩ := id C0
  have hbA : ¬ (AL s) b := Nat.not_le.mpr hbl
  obtain ⟨oc, om, q1, q2, ⟨v, hv1, hv2⟩, hc2, hm2, hR1, hR2, hI2⟩ := St hc hm hI
  obtain ⟨k1, k2, n1, n2⟩ := hI0 hc hm hI
  have z1 : 0 < hc.length := by
    obtain ⟨b0, As, fs, h1, h2⟩ := recv_inv (ci := 10) rfl k1
    cases h1
    exact (List.getElem?_eq_some_iff.mp h2).1
  have z2 : 0 < hm.length := by
    obtain ⟨b0, As, fs, h1, h2⟩ := recv_inv (ci := 12) rfl k2
    cases h1
    exact (List.getElem?_eq_some_iff.mp h2).1
  refine lv_aload_n hx hb dL_law_822 rfl (lv_at hl 1 rfl) ?_
  refine lv_aload_n hx hb dL_law_823 rfl (lv_at hl 0 rfl) ?_
  refine lv_iload hx hb dL_law_824 (lv_at hl 4 rfl) ?_
  refine lv_iconst (v := 1) hx hb dL_law_826 (by decide) ?_
  refine lv_iadd hx hb dL_law_827 ?_
  refine va_sld hx hb hX hbl hbA hS (law_in (k := 1) rfl h6 hL (by decide)) dL_law_828 ?_
  refine lv_aload_n hx hb dL_law_829 rfl (lv_at hl 0 rfl) ?_
  refine lv_iload hx hb dL_law_830 (lv_at hl 4 rfl) ?_
  refine lv_iconst (v := 2) hx hb dL_law_832 (by decide) ?_
  refine lv_iadd hx hb dL_law_833 ?_
  refine va_sld hx hb hX hbl hbA hS (law_in (k := 2) rfl h6 hL (by decide)) dL_law_834 ?_
  refine lv_aload_n hx hb dL_law_835 rfl (lv_at hl 0 rfl) ?_
  refine lv_iload hx hb dL_law_836 (lv_at hl 4 rfl) ?_
  refine lv_iconst (v := 3) hx hb dL_law_838 (by decide) ?_
  refine lv_iadd hx hb dL_law_839 ?_
  refine va_sld hx hb hX hbl hbA hS (law_in (k := 3) rfl h6 hL (by decide)) dL_law_840 ?_
  refine lw_call (L1 := []) Cx0 G (fun q h => h) cmX10_caught (run_V (X := XLaw meth.name) rfl clX10 yoX10_caught rfl tw_946 tw_947 tw_948 ⟨Nat.le_of_ble_eq_true rfl, Nat.le_of_ble_eq_true rfl⟩ dL_law_841) [.ref 0, .int (xs (nI (6 * i) + 1).toNatClampNeg), .int (xs (nI (6 * i) + 2).toNatClampNeg), .int (xs (nI (6 * i) + 3).toNatClampNeg)] [] q1 rfl k1 (Nat.le_of_ble_eq_true rfl) hl.1 n1 ha1 hP hD hS (by show cells + 0 ≤ 601024; omega) (by show slots + 0 ≤ 7293034; omega) (fun ad3 H locs g1 g2 g3 ha3 hP hD hS => ?_)
  rw [hv1]
  show W p l e room_1 s m _ below meth c H locs _ _ _ (F0 m 844 ls [.int v])
  refine lv_aload_n hx hb dL_law_844 rfl (lv_at hl 2 rfl) ?_
  refine lv_aload_n hx hb dL_law_845 rfl (lv_at hl 0 rfl) ?_
  refine lv_iload hx hb dL_law_846 (lv_at hl 4 rfl) ?_
  refine lv_iconst (v := 1) hx hb dL_law_848 (by decide) ?_
  refine lv_iadd hx hb dL_law_849 ?_
  refine va_sld hx hb hX hbl hbA hS (law_in (k := 1) rfl h6 hL (by decide)) dL_law_850 ?_
  refine lv_aload_n hx hb dL_law_851 rfl (lv_at hl 0 rfl) ?_
  refine lv_iload hx hb dL_law_852 (lv_at hl 4 rfl) ?_
  refine lv_iconst (v := 2) hx hb dL_law_854 (by decide) ?_
  refine lv_iadd hx hb dL_law_855 ?_
  refine va_sld hx hb hX hbl hbA hS (law_in (k := 2) rfl h6 hL (by decide)) dL_law_856 ?_
  refine lv_aload_n hx hb dL_law_857 rfl (lv_at hl 0 rfl) ?_
  refine lv_iload hx hb dL_law_858 (lv_at hl 4 rfl) ?_
  refine lv_iconst (v := 3) hx hb dL_law_860 (by decide) ?_
  refine lv_iadd hx hb dL_law_861 ?_
  refine va_sld hx hb hX hbl hbA hS (law_in (k := 3) rfl h6 hL (by decide)) dL_law_862 ?_
  refine lw_call (L1 := wd cy ad3 (fIH oc hc).2) Cx0 G (fun q h => h) cmX12_caught (run_V (X := XLaw meth.name) rfl clX12 yoX12_caught rfl tw_1862 tw_1863 tw_1864 ⟨Nat.le_of_ble_eq_true rfl, Nat.le_of_ble_eq_true rfl⟩ dL_law_863) [.ref 0, .int (xs (nI (6 * i) + 1).toNatClampNeg), .int (xs (nI (6 * i) + 2).toNatClampNeg), .int (xs (nI (6 * i) + 3).toNatClampNeg)] [.int v] q2 rfl k2 (Nat.le_of_ble_eq_true rfl) hl.1 n2 ha2 hP hD hS (by show cells + 0 + 0 ≤ 601024; omega) (by show slots + 0 + 0 ≤ 7293034; omega) (fun ad4 H locs g4 g5 g6 ha4 hP hD hS => ?_)
  rw [hv2]
  show W p l e room_1 s m _ below meth c H locs _ _ _ (F0 m 866 ls [.int v, .int v])
  refine lv_icmp_eq (tgt := 1439) hx hb dL_law_866 (by decide) (fun _ => ?_) (fun hne => absurd rfl hne)
  obtain ⟨ad5, g7, g8, g9, hP, hD⟩ := va_ren (L1 := []) hR1 hP hD
  obtain ⟨ad6, g10, g11, g12, hP, hD⟩ := va_ren (L1 := wd cy ad5 hc2) hR2 hP hD
  have e1 : ad5 0 = ad1 0 := g8.trans (g3 0 (Or.inl z1))
  have e2 : ad6 0 = ad2 0 := g11.trans (g6 0 (Or.inl z2))
  rw [← e1, ← e2] at hl
  exact law_next C0 hN hI2 (fun n hn => (g9 n hn).trans (ha3 n hn)) (fun n hn => (g12 n hn).trans (ha4 n hn)) hP hD hS (by omega) (by omega) hl
set_option maxRecDepth 20000 in
set_option maxHeartbeats 4000000 in
theorem law_op_23 (hI0 : InvOK Inv) (C0 : lw_At p s m meth c b L xs) (hL : L ≤ 3072) (G : GS D cy (AL s) adS s s.heap) {i : Nat} (h6 : 6 * i + 6 ≤ L) (hN : HD Inv p l e s m below meth c b D cy adS (i + 1)) {hc hm : HP} {ad1 ad2 : Nat → Nat} {qo : Nat} {fo : Nat → Int64} {H : Heap} {locs : List Loc} {cells slots : Nat} {ls : Array Slot} (hI : Inv hc hm) (ha1 : ∀ n, 2000 ≤ n → ad1 n = adS n) (ha2 : ∀ n, 2000 ≤ n → ad2 n = adS n) (hP : va_P D vwCl (wd cy ad1 hc ++ (wd cy ad2 hm ++ wO cy qo fo)) H) (hD : va_D (AL s) (wd cy ad1 hc ++ (wd cy ad2 hm ++ wO cy qo fo))) (hS : va_S (AL s) s.heap H locs) (hcl : cells ≤ 1000 + 100 * i) (hsl : slots ≤ 100000 + 1000 * i) (hl : lv_has ls 7 [(0, .ref b), (1, .ref (ad1 0)), (2, .ref (ad2 0)), (3, .ref qo), (4, .int (nI (6 * i)))]) (St0 : Step Inv EX10_unlike fIH EX12_unlike fIH [.int 0]) (St1 : Step Inv EX10_unlike fIH EX12_unlike fIH [.int 1]) : W p l e room_1 s m #[Value.ref b] below meth c H locs cells slots (lw_Z below #[Value.ref b] s) (F0 m 871 ls []) := by
  have Cx0 := lw_Cx C0
  obtain ⟨hx, hb, hr, hml, hown, hts, hX, hbl, hlocks, hgv⟩ := id C0
  have hbA : ¬ (AL s) b := Nat.not_le.mpr hbl
  by_cases h0 : xs (nI (6 * i) + 1).toNatClampNeg = 0
  · obtain ⟨oc, om, q1, q2, ⟨v, hv1, hv2⟩, hc2, hm2, hR1, hR2, hI2⟩ := St0 hc hm hI
    obtain ⟨k1, k2, n1, n2⟩ := hI0 hc hm hI
    have z1 : 0 < hc.length := by
      obtain ⟨b0, As, fs, h1, h2⟩ := recv_inv (ci := 10) rfl k1
      cases h1
      exact (List.getElem?_eq_some_iff.mp h2).1
    have z2 : 0 < hm.length := by
      obtain ⟨b0, As, fs, h1, h2⟩ := recv_inv (ci := 12) rfl k2
      cases h1
      exact (List.getElem?_eq_some_iff.mp h2).1
    refine lv_aload_n hx hb dL_law_871 rfl (lv_at hl 1 rfl) ?_
    refine lv_aload_n hx hb dL_law_872 rfl (lv_at hl 0 rfl) ?_
    refine lv_iload hx hb dL_law_873 (lv_at hl 4 rfl) ?_
    refine lv_iconst (v := 1) hx hb dL_law_875 (by decide) ?_
    refine lv_iadd hx hb dL_law_876 ?_
    refine va_sld hx hb hX hbl hbA hS (law_in (k := 1) rfl h6 hL (by decide)) dL_law_877 ?_
    refine lv_if_eq (tgt := 885) hx hb dL_law_878 (by decide) (fun _ => ?_) (fun hne => absurd h0 hne)
    refine lv_iconst (v := 0) hx hb dL_law_885 (by decide) ?_
    refine lw_call (L1 := []) Cx0 G (fun q h => h) cmX10_unlike (run_V (X := XLaw meth.name) rfl clX10 yoX10_unlike rfl tw_951 tw_952 tw_953 ⟨Nat.le_of_ble_eq_true rfl, Nat.le_of_ble_eq_true rfl⟩ dL_law_886) [.ref 0, .int (0)] [] q1 rfl k1 (Nat.le_of_ble_eq_true rfl) hl.1 n1 ha1 hP hD hS (by show cells + 0 ≤ 601024; omega) (by show slots + 0 ≤ 7293034; omega) (fun ad3 H locs g1 g2 g3 ha3 hP hD hS => ?_)
    rw [hv1]
    show W p l e room_1 s m _ below meth c H locs _ _ _ (F0 m 889 ls [.int v])
    refine lv_aload_n hx hb dL_law_889 rfl (lv_at hl 2 rfl) ?_
    refine lv_aload_n hx hb dL_law_890 rfl (lv_at hl 0 rfl) ?_
    refine lv_iload hx hb dL_law_891 (lv_at hl 4 rfl) ?_
    refine lv_iconst (v := 1) hx hb dL_law_893 (by decide) ?_
    refine lv_iadd hx hb dL_law_894 ?_
    refine va_sld hx hb hX hbl hbA hS (law_in (k := 1) rfl h6 hL (by decide)) dL_law_895 ?_
    refine lv_if_eq (tgt := 903) hx hb dL_law_896 (by decide) (fun _ => ?_) (fun hne => absurd h0 hne)
    refine lv_iconst (v := 0) hx hb dL_law_903 (by decide) ?_
    refine lw_call (L1 := wd cy ad3 (fIH oc hc).2) Cx0 G (fun q h => h) cmX12_unlike (run_V (X := XLaw meth.name) rfl clX12 yoX12_unlike rfl tw_1866 tw_1867 tw_1868 ⟨Nat.le_of_ble_eq_true rfl, Nat.le_of_ble_eq_true rfl⟩ dL_law_904) [.ref 0, .int (0)] [.int v] q2 rfl k2 (Nat.le_of_ble_eq_true rfl) hl.1 n2 ha2 hP hD hS (by show cells + 0 + 0 ≤ 601024; omega) (by show slots + 0 + 0 ≤ 7293034; omega) (fun ad4 H locs g4 g5 g6 ha4 hP hD hS => ?_)
    rw [hv2]
    show W p l e room_1 s m _ below meth c H locs _ _ _ (F0 m 907 ls [.int v, .int v])
    refine lv_icmp_eq (tgt := 1439) hx hb dL_law_907 (by decide) (fun _ => ?_) (fun hne => absurd rfl hne)
    obtain ⟨ad5, g7, g8, g9, hP, hD⟩ := va_ren (L1 := []) hR1 hP hD
    obtain ⟨ad6, g10, g11, g12, hP, hD⟩ := va_ren (L1 := wd cy ad5 hc2) hR2 hP hD
    have e1 : ad5 0 = ad1 0 := g8.trans (g3 0 (Or.inl z1))
    have e2 : ad6 0 = ad2 0 := g11.trans (g6 0 (Or.inl z2))
    rw [← e1, ← e2] at hl
    exact law_next C0 hN hI2 (fun n hn => (g9 n hn).trans (ha3 n hn)) (fun n hn => (g12 n hn).trans (ha4 n hn)) hP hD hS (by omega) (by omega) hl
  · obtain ⟨oc, om, q1, q2, ⟨v, hv1, hv2⟩, hc2, hm2, hR1, hR2, hI2⟩ := St1 hc hm hI
    obtain ⟨k1, k2, n1, n2⟩ := hI0 hc hm hI
    have z1 : 0 < hc.length := by
      obtain ⟨b0, As, fs, h1, h2⟩ := recv_inv (ci := 10) rfl k1
      cases h1
      exact (List.getElem?_eq_some_iff.mp h2).1
    have z2 : 0 < hm.length := by
      obtain ⟨b0, As, fs, h1, h2⟩ := recv_inv (ci := 12) rfl k2
      cases h1
      exact (List.getElem?_eq_some_iff.mp h2).1
    refine lv_aload_n hx hb dL_law_871 rfl (lv_at hl 1 rfl) ?_
    refine lv_aload_n hx hb dL_law_872 rfl (lv_at hl 0 rfl) ?_
    refine lv_iload hx hb dL_law_873 (lv_at hl 4 rfl) ?_
    refine lv_iconst (v := 1) hx hb dL_law_875 (by decide) ?_
    refine lv_iadd hx hb dL_law_876 ?_
    refine va_sld hx hb hX hbl hbA hS (law_in (k := 1) rfl h6 hL (by decide)) dL_law_877 ?_
    refine lv_if_eq (tgt := 885) hx hb dL_law_878 (by decide) (fun he => absurd he h0) (fun _ => ?_)
    refine lv_iconst (v := 1) hx hb dL_law_881 (by decide) ?_
    refine lv_goto (tgt := 886) hx hb dL_law_882 (by decide) ?_
    refine lw_call (L1 := []) Cx0 G (fun q h => h) cmX10_unlike (run_V (X := XLaw meth.name) rfl clX10 yoX10_unlike rfl tw_951 tw_952 tw_953 ⟨Nat.le_of_ble_eq_true rfl, Nat.le_of_ble_eq_true rfl⟩ dL_law_886) [.ref 0, .int (1)] [] q1 rfl k1 (Nat.le_of_ble_eq_true rfl) hl.1 n1 ha1 hP hD hS (by show cells + 0 ≤ 601024; omega) (by show slots + 0 ≤ 7293034; omega) (fun ad3 H locs g1 g2 g3 ha3 hP hD hS => ?_)
    rw [hv1]
    show W p l e room_1 s m _ below meth c H locs _ _ _ (F0 m 889 ls [.int v])
    refine lv_aload_n hx hb dL_law_889 rfl (lv_at hl 2 rfl) ?_
    refine lv_aload_n hx hb dL_law_890 rfl (lv_at hl 0 rfl) ?_
    refine lv_iload hx hb dL_law_891 (lv_at hl 4 rfl) ?_
    refine lv_iconst (v := 1) hx hb dL_law_893 (by decide) ?_
    refine lv_iadd hx hb dL_law_894 ?_
    refine va_sld hx hb hX hbl hbA hS (law_in (k := 1) rfl h6 hL (by decide)) dL_law_895 ?_
    refine lv_if_eq (tgt := 903) hx hb dL_law_896 (by decide) (fun he => absurd he h0) (fun _ => ?_)
    refine lv_iconst (v := 1) hx hb dL_law_899 (by decide) ?_
    refine lv_goto (tgt := 904) hx hb dL_law_900 (by decide) ?_
    refine lw_call (L1 := wd cy ad3 (fIH oc hc).2) Cx0 G (fun q h => h) cmX12_unlike (run_V (X := XLaw meth.name) rfl clX12 yoX12_unlike rfl tw_1866 tw_1867 tw_1868 ⟨Nat.le_of_ble_eq_true rfl, Nat.le_of_ble_eq_true rfl⟩ dL_law_904) [.ref 0, .int (1)] [.int v] q2 rfl k2 (Nat.le_of_ble_eq_true rfl) hl.1 n2 ha2 hP hD hS (by show cells + 0 + 0 ≤ 601024; omega) (by show slots + 0 + 0 ≤ 7293034; omega) (fun ad4 H locs g4 g5 g6 ha4 hP hD hS => ?_)
    rw [hv2]
    show W p l e room_1 s m _ below meth c H locs _ _ _ (F0 m 907 ls [.int v, .int v])
    refine lv_icmp_eq (tgt := 1439) hx hb dL_law_907 (by decide) (fun _ => ?_) (fun hne => absurd rfl hne)
    obtain ⟨ad5, g7, g8, g9, hP, hD⟩ := va_ren (L1 := []) hR1 hP hD
    obtain ⟨ad6, g10, g11, g12, hP, hD⟩ := va_ren (L1 := wd cy ad5 hc2) hR2 hP hD
    have e1 : ad5 0 = ad1 0 := g8.trans (g3 0 (Or.inl z1))
    have e2 : ad6 0 = ad2 0 := g11.trans (g6 0 (Or.inl z2))
    rw [← e1, ← e2] at hl
    exact law_next C0 hN hI2 (fun n hn => (g9 n hn).trans (ha3 n hn)) (fun n hn => (g12 n hn).trans (ha4 n hn)) hP hD hS (by omega) (by omega) hl
set_option maxRecDepth 20000 in
set_option maxHeartbeats 4000000 in
theorem law_op_24 (hI0 : InvOK Inv) (C0 : lw_At p s m meth c b L xs) (hL : L ≤ 3072) (G : GS D cy (AL s) adS s s.heap) {i : Nat} (h6 : 6 * i + 6 ≤ L) (hN : HD Inv p l e s m below meth c b D cy adS (i + 1)) {hc hm : HP} {ad1 ad2 : Nat → Nat} {qo : Nat} {fo : Nat → Int64} {H : Heap} {locs : List Loc} {cells slots : Nat} {ls : Array Slot} (hI : Inv hc hm) (ha1 : ∀ n, 2000 ≤ n → ad1 n = adS n) (ha2 : ∀ n, 2000 ≤ n → ad2 n = adS n) (hP : va_P D vwCl (wd cy ad1 hc ++ (wd cy ad2 hm ++ wO cy qo fo)) H) (hD : va_D (AL s) (wd cy ad1 hc ++ (wd cy ad2 hm ++ wO cy qo fo))) (hS : va_S (AL s) s.heap H locs) (hcl : cells ≤ 1000 + 100 * i) (hsl : slots ≤ 100000 + 1000 * i) (hl : lv_has ls 7 [(0, .ref b), (1, .ref (ad1 0)), (2, .ref (ad2 0)), (3, .ref qo), (4, .int (nI (6 * i)))]) (St0 : Step Inv EX10_firstUnlike fIH EX12_firstUnlike fIH [.int 0]) (St1 : Step Inv EX10_firstUnlike fIH EX12_firstUnlike fIH [.int 1]) : W p l e room_1 s m #[Value.ref b] below meth c H locs cells slots (lw_Z below #[Value.ref b] s) (F0 m 912 ls []) := by
  have Cx0 := lw_Cx C0
  obtain ⟨hx, hb, hr, hml, hown, hts, hX, hbl, hlocks, hgv⟩ := id C0
  have hbA : ¬ (AL s) b := Nat.not_le.mpr hbl
  by_cases h0 : xs (nI (6 * i) + 1).toNatClampNeg = 0
  · obtain ⟨oc, om, q1, q2, ⟨v, hv1, hv2⟩, hc2, hm2, hR1, hR2, hI2⟩ := St0 hc hm hI
    obtain ⟨k1, k2, n1, n2⟩ := hI0 hc hm hI
    have z1 : 0 < hc.length := by
      obtain ⟨b0, As, fs, h1, h2⟩ := recv_inv (ci := 10) rfl k1
      cases h1
      exact (List.getElem?_eq_some_iff.mp h2).1
    have z2 : 0 < hm.length := by
      obtain ⟨b0, As, fs, h1, h2⟩ := recv_inv (ci := 12) rfl k2
      cases h1
      exact (List.getElem?_eq_some_iff.mp h2).1
    refine lv_aload_n hx hb dL_law_912 rfl (lv_at hl 1 rfl) ?_
    refine lv_aload_n hx hb dL_law_913 rfl (lv_at hl 0 rfl) ?_
    refine lv_iload hx hb dL_law_914 (lv_at hl 4 rfl) ?_
    refine lv_iconst (v := 1) hx hb dL_law_916 (by decide) ?_
    refine lv_iadd hx hb dL_law_917 ?_
    refine va_sld hx hb hX hbl hbA hS (law_in (k := 1) rfl h6 hL (by decide)) dL_law_918 ?_
    refine lv_if_eq (tgt := 926) hx hb dL_law_919 (by decide) (fun _ => ?_) (fun hne => absurd h0 hne)
    refine lv_iconst (v := 0) hx hb dL_law_926 (by decide) ?_
    refine lw_call (L1 := []) Cx0 G (fun q h => h) cmX10_firstUnlike (run_V (X := XLaw meth.name) rfl clX10 yoX10_firstUnlike rfl tw_964 tw_965 tw_966 ⟨Nat.le_of_ble_eq_true rfl, Nat.le_of_ble_eq_true rfl⟩ dL_law_927) [.ref 0, .int (0)] [] q1 rfl k1 (Nat.le_of_ble_eq_true rfl) hl.1 n1 ha1 hP hD hS (by show cells + 0 ≤ 601024; omega) (by show slots + 0 ≤ 7293034; omega) (fun ad3 H locs g1 g2 g3 ha3 hP hD hS => ?_)
    rw [hv1]
    show W p l e room_1 s m _ below meth c H locs _ _ _ (F0 m 930 ls [.int v])
    refine lv_aload_n hx hb dL_law_930 rfl (lv_at hl 2 rfl) ?_
    refine lv_aload_n hx hb dL_law_931 rfl (lv_at hl 0 rfl) ?_
    refine lv_iload hx hb dL_law_932 (lv_at hl 4 rfl) ?_
    refine lv_iconst (v := 1) hx hb dL_law_934 (by decide) ?_
    refine lv_iadd hx hb dL_law_935 ?_
    refine va_sld hx hb hX hbl hbA hS (law_in (k := 1) rfl h6 hL (by decide)) dL_law_936 ?_
    refine lv_if_eq (tgt := 944) hx hb dL_law_937 (by decide) (fun _ => ?_) (fun hne => absurd h0 hne)
    refine lv_iconst (v := 0) hx hb dL_law_944 (by decide) ?_
    refine lw_call (L1 := wd cy ad3 (fIH oc hc).2) Cx0 G (fun q h => h) cmX12_firstUnlike (run_V (X := XLaw meth.name) rfl clX12 yoX12_firstUnlike rfl tw_1874 tw_1875 tw_1876 ⟨Nat.le_of_ble_eq_true rfl, Nat.le_of_ble_eq_true rfl⟩ dL_law_945) [.ref 0, .int (0)] [.int v] q2 rfl k2 (Nat.le_of_ble_eq_true rfl) hl.1 n2 ha2 hP hD hS (by show cells + 0 + 0 ≤ 601024; omega) (by show slots + 0 + 0 ≤ 7293034; omega) (fun ad4 H locs g4 g5 g6 ha4 hP hD hS => ?_)
    rw [hv2]
    show W p l e room_1 s m _ below meth c H locs _ _ _ (F0 m 948 ls [.int v, .int v])
    refine lv_icmp_eq (tgt := 1439) hx hb dL_law_948 (by decide) (fun _ => ?_) (fun hne => absurd rfl hne)
    obtain ⟨ad5, g7, g8, g9, hP, hD⟩ := va_ren (L1 := []) hR1 hP hD
    obtain ⟨ad6, g10, g11, g12, hP, hD⟩ := va_ren (L1 := wd cy ad5 hc2) hR2 hP hD
    have e1 : ad5 0 = ad1 0 := g8.trans (g3 0 (Or.inl z1))
    have e2 : ad6 0 = ad2 0 := g11.trans (g6 0 (Or.inl z2))
    rw [← e1, ← e2] at hl
    exact law_next C0 hN hI2 (fun n hn => (g9 n hn).trans (ha3 n hn)) (fun n hn => (g12 n hn).trans (ha4 n hn)) hP hD hS (by omega) (by omega) hl
  · obtain ⟨oc, om, q1, q2, ⟨v, hv1, hv2⟩, hc2, hm2, hR1, hR2, hI2⟩ := St1 hc hm hI
    obtain ⟨k1, k2, n1, n2⟩ := hI0 hc hm hI
    have z1 : 0 < hc.length := by
      obtain ⟨b0, As, fs, h1, h2⟩ := recv_inv (ci := 10) rfl k1
      cases h1
      exact (List.getElem?_eq_some_iff.mp h2).1
    have z2 : 0 < hm.length := by
      obtain ⟨b0, As, fs, h1, h2⟩ := recv_inv (ci := 12) rfl k2
      cases h1
      exact (List.getElem?_eq_some_iff.mp h2).1
    refine lv_aload_n hx hb dL_law_912 rfl (lv_at hl 1 rfl) ?_
    refine lv_aload_n hx hb dL_law_913 rfl (lv_at hl 0 rfl) ?_
    refine lv_iload hx hb dL_law_914 (lv_at hl 4 rfl) ?_
    refine lv_iconst (v := 1) hx hb dL_law_916 (by decide) ?_
    refine lv_iadd hx hb dL_law_917 ?_
    refine va_sld hx hb hX hbl hbA hS (law_in (k := 1) rfl h6 hL (by decide)) dL_law_918 ?_
    refine lv_if_eq (tgt := 926) hx hb dL_law_919 (by decide) (fun he => absurd he h0) (fun _ => ?_)
    refine lv_iconst (v := 1) hx hb dL_law_922 (by decide) ?_
    refine lv_goto (tgt := 927) hx hb dL_law_923 (by decide) ?_
    refine lw_call (L1 := []) Cx0 G (fun q h => h) cmX10_firstUnlike (run_V (X := XLaw meth.name) rfl clX10 yoX10_firstUnlike rfl tw_964 tw_965 tw_966 ⟨Nat.le_of_ble_eq_true rfl, Nat.le_of_ble_eq_true rfl⟩ dL_law_927) [.ref 0, .int (1)] [] q1 rfl k1 (Nat.le_of_ble_eq_true rfl) hl.1 n1 ha1 hP hD hS (by show cells + 0 ≤ 601024; omega) (by show slots + 0 ≤ 7293034; omega) (fun ad3 H locs g1 g2 g3 ha3 hP hD hS => ?_)
    rw [hv1]
    show W p l e room_1 s m _ below meth c H locs _ _ _ (F0 m 930 ls [.int v])
    refine lv_aload_n hx hb dL_law_930 rfl (lv_at hl 2 rfl) ?_
    refine lv_aload_n hx hb dL_law_931 rfl (lv_at hl 0 rfl) ?_
    refine lv_iload hx hb dL_law_932 (lv_at hl 4 rfl) ?_
    refine lv_iconst (v := 1) hx hb dL_law_934 (by decide) ?_
    refine lv_iadd hx hb dL_law_935 ?_
    refine va_sld hx hb hX hbl hbA hS (law_in (k := 1) rfl h6 hL (by decide)) dL_law_936 ?_
    refine lv_if_eq (tgt := 944) hx hb dL_law_937 (by decide) (fun he => absurd he h0) (fun _ => ?_)
    refine lv_iconst (v := 1) hx hb dL_law_940 (by decide) ?_
    refine lv_goto (tgt := 945) hx hb dL_law_941 (by decide) ?_
    refine lw_call (L1 := wd cy ad3 (fIH oc hc).2) Cx0 G (fun q h => h) cmX12_firstUnlike (run_V (X := XLaw meth.name) rfl clX12 yoX12_firstUnlike rfl tw_1874 tw_1875 tw_1876 ⟨Nat.le_of_ble_eq_true rfl, Nat.le_of_ble_eq_true rfl⟩ dL_law_945) [.ref 0, .int (1)] [.int v] q2 rfl k2 (Nat.le_of_ble_eq_true rfl) hl.1 n2 ha2 hP hD hS (by show cells + 0 + 0 ≤ 601024; omega) (by show slots + 0 + 0 ≤ 7293034; omega) (fun ad4 H locs g4 g5 g6 ha4 hP hD hS => ?_)
    rw [hv2]
    show W p l e room_1 s m _ below meth c H locs _ _ _ (F0 m 948 ls [.int v, .int v])
    refine lv_icmp_eq (tgt := 1439) hx hb dL_law_948 (by decide) (fun _ => ?_) (fun hne => absurd rfl hne)
    obtain ⟨ad5, g7, g8, g9, hP, hD⟩ := va_ren (L1 := []) hR1 hP hD
    obtain ⟨ad6, g10, g11, g12, hP, hD⟩ := va_ren (L1 := wd cy ad5 hc2) hR2 hP hD
    have e1 : ad5 0 = ad1 0 := g8.trans (g3 0 (Or.inl z1))
    have e2 : ad6 0 = ad2 0 := g11.trans (g6 0 (Or.inl z2))
    rw [← e1, ← e2] at hl
    exact law_next C0 hN hI2 (fun n hn => (g9 n hn).trans (ha3 n hn)) (fun n hn => (g12 n hn).trans (ha4 n hn)) hP hD hS (by omega) (by omega) hl
set_option maxRecDepth 20000 in
set_option maxHeartbeats 4000000 in
theorem law_op_25 (hI0 : InvOK Inv) (C0 : lw_At p s m meth c b L xs) (hL : L ≤ 3072) (G : GS D cy (AL s) adS s s.heap) {i : Nat} (h6 : 6 * i + 6 ≤ L) (hN : HD Inv p l e s m below meth c b D cy adS (i + 1)) {hc hm : HP} {ad1 ad2 : Nat → Nat} {qo : Nat} {fo : Nat → Int64} {H : Heap} {locs : List Loc} {cells slots : Nat} {ls : Array Slot} (hI : Inv hc hm) (ha1 : ∀ n, 2000 ≤ n → ad1 n = adS n) (ha2 : ∀ n, 2000 ≤ n → ad2 n = adS n) (hP : va_P D vwCl (wd cy ad1 hc ++ (wd cy ad2 hm ++ wO cy qo fo)) H) (hD : va_D (AL s) (wd cy ad1 hc ++ (wd cy ad2 hm ++ wO cy qo fo))) (hS : va_S (AL s) s.heap H locs) (hcl : cells ≤ 1000 + 100 * i) (hsl : slots ≤ 100000 + 1000 * i) (hl : lv_has ls 7 [(0, .ref b), (1, .ref (ad1 0)), (2, .ref (ad2 0)), (3, .ref qo), (4, .int (nI (6 * i)))]) (St : Step Inv EX10_clash fIH EX12_clash fIH []) : W p l e room_1 s m #[Value.ref b] below meth c H locs cells slots (lw_Z below #[Value.ref b] s) (F0 m 953 ls []) := by
  have Cx0 := lw_Cx C0
  obtain ⟨hx, hb, hr, hml, hown, hts, hX, hbl, hlocks, hgv⟩ := id C0
  have hbA : ¬ (AL s) b := Nat.not_le.mpr hbl
  obtain ⟨oc, om, q1, q2, ⟨v, hv1, hv2⟩, hc2, hm2, hR1, hR2, hI2⟩ := St hc hm hI
  obtain ⟨k1, k2, n1, n2⟩ := hI0 hc hm hI
  have z1 : 0 < hc.length := by
    obtain ⟨b0, As, fs, h1, h2⟩ := recv_inv (ci := 10) rfl k1
    cases h1
    exact (List.getElem?_eq_some_iff.mp h2).1
  have z2 : 0 < hm.length := by
    obtain ⟨b0, As, fs, h1, h2⟩ := recv_inv (ci := 12) rfl k2
    cases h1
    exact (List.getElem?_eq_some_iff.mp h2).1
  refine lv_aload_n hx hb dL_law_953 rfl (lv_at hl 1 rfl) ?_
  refine lw_call (L1 := []) Cx0 G (fun q h => h) cmX10_clash (run_V (X := XLaw meth.name) rfl clX10 yoX10_clash rfl tw_971 tw_972 tw_973 ⟨Nat.le_of_ble_eq_true rfl, Nat.le_of_ble_eq_true rfl⟩ dL_law_954) [.ref 0] [] q1 rfl k1 (Nat.le_of_ble_eq_true rfl) hl.1 n1 ha1 hP hD hS (by show cells + 0 ≤ 601024; omega) (by show slots + 0 ≤ 7293034; omega) (fun ad3 H locs g1 g2 g3 ha3 hP hD hS => ?_)
  rw [hv1]
  show W p l e room_1 s m _ below meth c H locs _ _ _ (F0 m 957 ls [.int v])
  refine lv_aload_n hx hb dL_law_957 rfl (lv_at hl 2 rfl) ?_
  refine lw_call (L1 := wd cy ad3 (fIH oc hc).2) Cx0 G (fun q h => h) cmX12_clash (run_V (X := XLaw meth.name) rfl clX12 yoX12_clash rfl tw_1878 tw_1879 tw_1880 ⟨Nat.le_of_ble_eq_true rfl, Nat.le_of_ble_eq_true rfl⟩ dL_law_958) [.ref 0] [.int v] q2 rfl k2 (Nat.le_of_ble_eq_true rfl) hl.1 n2 ha2 hP hD hS (by show cells + 0 + 0 ≤ 601024; omega) (by show slots + 0 + 0 ≤ 7293034; omega) (fun ad4 H locs g4 g5 g6 ha4 hP hD hS => ?_)
  rw [hv2]
  show W p l e room_1 s m _ below meth c H locs _ _ _ (F0 m 961 ls [.int v, .int v])
  refine lv_icmp_eq (tgt := 1439) hx hb dL_law_961 (by decide) (fun _ => ?_) (fun hne => absurd rfl hne)
  obtain ⟨ad5, g7, g8, g9, hP, hD⟩ := va_ren (L1 := []) hR1 hP hD
  obtain ⟨ad6, g10, g11, g12, hP, hD⟩ := va_ren (L1 := wd cy ad5 hc2) hR2 hP hD
  have e1 : ad5 0 = ad1 0 := g8.trans (g3 0 (Or.inl z1))
  have e2 : ad6 0 = ad2 0 := g11.trans (g6 0 (Or.inl z2))
  rw [← e1, ← e2] at hl
  exact law_next C0 hN hI2 (fun n hn => (g9 n hn).trans (ha3 n hn)) (fun n hn => (g12 n hn).trans (ha4 n hn)) hP hD hS (by omega) (by omega) hl
set_option maxRecDepth 20000 in
set_option maxHeartbeats 4000000 in
theorem law_op_26 (hI0 : InvOK Inv) (C0 : lw_At p s m meth c b L xs) (hL : L ≤ 3072) (G : GS D cy (AL s) adS s s.heap) {i : Nat} (h6 : 6 * i + 6 ≤ L) (hN : HD Inv p l e s m below meth c b D cy adS (i + 1)) {hc hm : HP} {ad1 ad2 : Nat → Nat} {qo : Nat} {fo : Nat → Int64} {H : Heap} {locs : List Loc} {cells slots : Nat} {ls : Array Slot} (hI : Inv hc hm) (ha1 : ∀ n, 2000 ≤ n → ad1 n = adS n) (ha2 : ∀ n, 2000 ≤ n → ad2 n = adS n) (hP : va_P D vwCl (wd cy ad1 hc ++ (wd cy ad2 hm ++ wO cy qo fo)) H) (hD : va_D (AL s) (wd cy ad1 hc ++ (wd cy ad2 hm ++ wO cy qo fo))) (hS : va_S (AL s) s.heap H locs) (hcl : cells ≤ 1000 + 100 * i) (hsl : slots ≤ 100000 + 1000 * i) (hl : lv_has ls 7 [(0, .ref b), (1, .ref (ad1 0)), (2, .ref (ad2 0)), (3, .ref qo), (4, .int (nI (6 * i)))]) (St : Step Inv EX10_changes fIH EX12_changes fIH []) : W p l e room_1 s m #[Value.ref b] below meth c H locs cells slots (lw_Z below #[Value.ref b] s) (F0 m 966 ls []) := by
  have Cx0 := lw_Cx C0
  obtain ⟨hx, hb, hr, hml, hown, hts, hX, hbl, hlocks, hgv⟩ := id C0
  have hbA : ¬ (AL s) b := Nat.not_le.mpr hbl
  obtain ⟨oc, om, q1, q2, ⟨v, hv1, hv2⟩, hc2, hm2, hR1, hR2, hI2⟩ := St hc hm hI
  obtain ⟨k1, k2, n1, n2⟩ := hI0 hc hm hI
  have z1 : 0 < hc.length := by
    obtain ⟨b0, As, fs, h1, h2⟩ := recv_inv (ci := 10) rfl k1
    cases h1
    exact (List.getElem?_eq_some_iff.mp h2).1
  have z2 : 0 < hm.length := by
    obtain ⟨b0, As, fs, h1, h2⟩ := recv_inv (ci := 12) rfl k2
    cases h1
    exact (List.getElem?_eq_some_iff.mp h2).1
  refine lv_aload_n hx hb dL_law_966 rfl (lv_at hl 1 rfl) ?_
  refine lw_call (L1 := []) Cx0 G (fun q h => h) cmX10_changes (run_V (X := XLaw meth.name) rfl clX10 yoX10_changes rfl tw_979 tw_980 tw_981 ⟨Nat.le_of_ble_eq_true rfl, Nat.le_of_ble_eq_true rfl⟩ dL_law_967) [.ref 0] [] q1 rfl k1 (Nat.le_of_ble_eq_true rfl) hl.1 n1 ha1 hP hD hS (by show cells + 0 ≤ 601024; omega) (by show slots + 0 ≤ 7293034; omega) (fun ad3 H locs g1 g2 g3 ha3 hP hD hS => ?_)
  rw [hv1]
  show W p l e room_1 s m _ below meth c H locs _ _ _ (F0 m 970 ls [.int v])
  refine lv_aload_n hx hb dL_law_970 rfl (lv_at hl 2 rfl) ?_
  refine lw_call (L1 := wd cy ad3 (fIH oc hc).2) Cx0 G (fun q h => h) cmX12_changes (run_V (X := XLaw meth.name) rfl clX12 yoX12_changes rfl tw_1886 tw_1887 tw_1888 ⟨Nat.le_of_ble_eq_true rfl, Nat.le_of_ble_eq_true rfl⟩ dL_law_971) [.ref 0] [.int v] q2 rfl k2 (Nat.le_of_ble_eq_true rfl) hl.1 n2 ha2 hP hD hS (by show cells + 0 + 0 ≤ 601024; omega) (by show slots + 0 + 0 ≤ 7293034; omega) (fun ad4 H locs g4 g5 g6 ha4 hP hD hS => ?_)
  rw [hv2]
  show W p l e room_1 s m _ below meth c H locs _ _ _ (F0 m 974 ls [.int v, .int v])
  refine lv_icmp_eq (tgt := 1439) hx hb dL_law_974 (by decide) (fun _ => ?_) (fun hne => absurd rfl hne)
  obtain ⟨ad5, g7, g8, g9, hP, hD⟩ := va_ren (L1 := []) hR1 hP hD
  obtain ⟨ad6, g10, g11, g12, hP, hD⟩ := va_ren (L1 := wd cy ad5 hc2) hR2 hP hD
  have e1 : ad5 0 = ad1 0 := g8.trans (g3 0 (Or.inl z1))
  have e2 : ad6 0 = ad2 0 := g11.trans (g6 0 (Or.inl z2))
  rw [← e1, ← e2] at hl
  exact law_next C0 hN hI2 (fun n hn => (g9 n hn).trans (ha3 n hn)) (fun n hn => (g12 n hn).trans (ha4 n hn)) hP hD hS (by omega) (by omega) hl
set_option maxRecDepth 20000 in
set_option maxHeartbeats 4000000 in
theorem law_op_27 (hI0 : InvOK Inv) (C0 : lw_At p s m meth c b L xs) (hL : L ≤ 3072) (G : GS D cy (AL s) adS s s.heap) {i : Nat} (h6 : 6 * i + 6 ≤ L) (hN : HD Inv p l e s m below meth c b D cy adS (i + 1)) {hc hm : HP} {ad1 ad2 : Nat → Nat} {qo : Nat} {fo : Nat → Int64} {H : Heap} {locs : List Loc} {cells slots : Nat} {ls : Array Slot} (hI : Inv hc hm) (ha1 : ∀ n, 2000 ≤ n → ad1 n = adS n) (ha2 : ∀ n, 2000 ≤ n → ad2 n = adS n) (hP : va_P D vwCl (wd cy ad1 hc ++ (wd cy ad2 hm ++ wO cy qo fo)) H) (hD : va_D (AL s) (wd cy ad1 hc ++ (wd cy ad2 hm ++ wO cy qo fo))) (hS : va_S (AL s) s.heap H locs) (hcl : cells ≤ 1000 + 100 * i) (hsl : slots ≤ 100000 + 1000 * i) (hl : lv_has ls 7 [(0, .ref b), (1, .ref (ad1 0)), (2, .ref (ad2 0)), (3, .ref qo), (4, .int (nI (6 * i)))]) (St : Step Inv EX10_toMow fIH EX12_toMow fIH []) : W p l e room_1 s m #[Value.ref b] below meth c H locs cells slots (lw_Z below #[Value.ref b] s) (F0 m 979 ls []) := by
  have Cx0 := lw_Cx C0
  obtain ⟨hx, hb, hr, hml, hown, hts, hX, hbl, hlocks, hgv⟩ := id C0
  have hbA : ¬ (AL s) b := Nat.not_le.mpr hbl
  obtain ⟨oc, om, q1, q2, ⟨v, hv1, hv2⟩, hc2, hm2, hR1, hR2, hI2⟩ := St hc hm hI
  obtain ⟨k1, k2, n1, n2⟩ := hI0 hc hm hI
  have z1 : 0 < hc.length := by
    obtain ⟨b0, As, fs, h1, h2⟩ := recv_inv (ci := 10) rfl k1
    cases h1
    exact (List.getElem?_eq_some_iff.mp h2).1
  have z2 : 0 < hm.length := by
    obtain ⟨b0, As, fs, h1, h2⟩ := recv_inv (ci := 12) rfl k2
    cases h1
    exact (List.getElem?_eq_some_iff.mp h2).1
  refine lv_aload_n hx hb dL_law_979 rfl (lv_at hl 1 rfl) ?_
  refine lw_call (L1 := []) Cx0 G (fun q h => h) cmX10_toMow (run_V (X := XLaw meth.name) rfl clX10 yoX10_toMow rfl tw_984 tw_985 tw_986 ⟨Nat.le_of_ble_eq_true rfl, Nat.le_of_ble_eq_true rfl⟩ dL_law_980) [.ref 0] [] q1 rfl k1 (Nat.le_of_ble_eq_true rfl) hl.1 n1 ha1 hP hD hS (by show cells + 0 ≤ 601024; omega) (by show slots + 0 ≤ 7293034; omega) (fun ad3 H locs g1 g2 g3 ha3 hP hD hS => ?_)
  rw [hv1]
  show W p l e room_1 s m _ below meth c H locs _ _ _ (F0 m 983 ls [.int v])
  refine lv_aload_n hx hb dL_law_983 rfl (lv_at hl 2 rfl) ?_
  refine lw_call (L1 := wd cy ad3 (fIH oc hc).2) Cx0 G (fun q h => h) cmX12_toMow (run_V (X := XLaw meth.name) rfl clX12 yoX12_toMow rfl tw_1890 tw_1891 tw_1892 ⟨Nat.le_of_ble_eq_true rfl, Nat.le_of_ble_eq_true rfl⟩ dL_law_984) [.ref 0] [.int v] q2 rfl k2 (Nat.le_of_ble_eq_true rfl) hl.1 n2 ha2 hP hD hS (by show cells + 0 + 0 ≤ 601024; omega) (by show slots + 0 + 0 ≤ 7293034; omega) (fun ad4 H locs g4 g5 g6 ha4 hP hD hS => ?_)
  rw [hv2]
  show W p l e room_1 s m _ below meth c H locs _ _ _ (F0 m 987 ls [.int v, .int v])
  refine lv_icmp_eq (tgt := 1439) hx hb dL_law_987 (by decide) (fun _ => ?_) (fun hne => absurd rfl hne)
  obtain ⟨ad5, g7, g8, g9, hP, hD⟩ := va_ren (L1 := []) hR1 hP hD
  obtain ⟨ad6, g10, g11, g12, hP, hD⟩ := va_ren (L1 := wd cy ad5 hc2) hR2 hP hD
  have e1 : ad5 0 = ad1 0 := g8.trans (g3 0 (Or.inl z1))
  have e2 : ad6 0 = ad2 0 := g11.trans (g6 0 (Or.inl z2))
  rw [← e1, ← e2] at hl
  exact law_next C0 hN hI2 (fun n hn => (g9 n hn).trans (ha3 n hn)) (fun n hn => (g12 n hn).trans (ha4 n hn)) hP hD hS (by omega) (by omega) hl
set_option maxRecDepth 20000 in
set_option maxHeartbeats 4000000 in
theorem law_op_28 (hI0 : InvOK Inv) (C0 : lw_At p s m meth c b L xs) (hL : L ≤ 3072) (G : GS D cy (AL s) adS s s.heap) {i : Nat} (h6 : 6 * i + 6 ≤ L) (hN : HD Inv p l e s m below meth c b D cy adS (i + 1)) {hc hm : HP} {ad1 ad2 : Nat → Nat} {qo : Nat} {fo : Nat → Int64} {H : Heap} {locs : List Loc} {cells slots : Nat} {ls : Array Slot} (hI : Inv hc hm) (ha1 : ∀ n, 2000 ≤ n → ad1 n = adS n) (ha2 : ∀ n, 2000 ≤ n → ad2 n = adS n) (hP : va_P D vwCl (wd cy ad1 hc ++ (wd cy ad2 hm ++ wO cy qo fo)) H) (hD : va_D (AL s) (wd cy ad1 hc ++ (wd cy ad2 hm ++ wO cy qo fo))) (hS : va_S (AL s) s.heap H locs) (hcl : cells ≤ 1000 + 100 * i) (hsl : slots ≤ 100000 + 1000 * i) (hl : lv_has ls 7 [(0, .ref b), (1, .ref (ad1 0)), (2, .ref (ad2 0)), (3, .ref qo), (4, .int (nI (6 * i)))]) (St : Step Inv EX10_strokes fIH EX12_strokes fIH []) : W p l e room_1 s m #[Value.ref b] below meth c H locs cells slots (lw_Z below #[Value.ref b] s) (F0 m 992 ls []) := by
  have Cx0 := lw_Cx C0
  obtain ⟨hx, hb, hr, hml, hown, hts, hX, hbl, hlocks, hgv⟩ := id C0
  have hbA : ¬ (AL s) b := Nat.not_le.mpr hbl
  obtain ⟨oc, om, q1, q2, ⟨v, hv1, hv2⟩, hc2, hm2, hR1, hR2, hI2⟩ := St hc hm hI
  obtain ⟨k1, k2, n1, n2⟩ := hI0 hc hm hI
  have z1 : 0 < hc.length := by
    obtain ⟨b0, As, fs, h1, h2⟩ := recv_inv (ci := 10) rfl k1
    cases h1
    exact (List.getElem?_eq_some_iff.mp h2).1
  have z2 : 0 < hm.length := by
    obtain ⟨b0, As, fs, h1, h2⟩ := recv_inv (ci := 12) rfl k2
    cases h1
    exact (List.getElem?_eq_some_iff.mp h2).1
  refine lv_aload_n hx hb dL_law_992 rfl (lv_at hl 1 rfl) ?_
  refine lw_call (L1 := []) Cx0 G (fun q h => h) cmX10_strokes (run_V (X := XLaw meth.name) rfl clX10 yoX10_strokes rfl tw_992 tw_993 tw_994 ⟨Nat.le_of_ble_eq_true rfl, Nat.le_of_ble_eq_true rfl⟩ dL_law_993) [.ref 0] [] q1 rfl k1 (Nat.le_of_ble_eq_true rfl) hl.1 n1 ha1 hP hD hS (by show cells + 0 ≤ 601024; omega) (by show slots + 0 ≤ 7293034; omega) (fun ad3 H locs g1 g2 g3 ha3 hP hD hS => ?_)
  rw [hv1]
  show W p l e room_1 s m _ below meth c H locs _ _ _ (F0 m 996 ls [.int v])
  refine lv_aload_n hx hb dL_law_996 rfl (lv_at hl 2 rfl) ?_
  refine lw_call (L1 := wd cy ad3 (fIH oc hc).2) Cx0 G (fun q h => h) cmX12_strokes (run_V (X := XLaw meth.name) rfl clX12 yoX12_strokes rfl tw_1898 tw_1899 tw_1900 ⟨Nat.le_of_ble_eq_true rfl, Nat.le_of_ble_eq_true rfl⟩ dL_law_997) [.ref 0] [.int v] q2 rfl k2 (Nat.le_of_ble_eq_true rfl) hl.1 n2 ha2 hP hD hS (by show cells + 0 + 0 ≤ 601024; omega) (by show slots + 0 + 0 ≤ 7293034; omega) (fun ad4 H locs g4 g5 g6 ha4 hP hD hS => ?_)
  rw [hv2]
  show W p l e room_1 s m _ below meth c H locs _ _ _ (F0 m 1000 ls [.int v, .int v])
  refine lv_icmp_eq (tgt := 1439) hx hb dL_law_1000 (by decide) (fun _ => ?_) (fun hne => absurd rfl hne)
  obtain ⟨ad5, g7, g8, g9, hP, hD⟩ := va_ren (L1 := []) hR1 hP hD
  obtain ⟨ad6, g10, g11, g12, hP, hD⟩ := va_ren (L1 := wd cy ad5 hc2) hR2 hP hD
  have e1 : ad5 0 = ad1 0 := g8.trans (g3 0 (Or.inl z1))
  have e2 : ad6 0 = ad2 0 := g11.trans (g6 0 (Or.inl z2))
  rw [← e1, ← e2] at hl
  exact law_next C0 hN hI2 (fun n hn => (g9 n hn).trans (ha3 n hn)) (fun n hn => (g12 n hn).trans (ha4 n hn)) hP hD hS (by omega) (by omega) hl
set_option maxRecDepth 20000 in
set_option maxHeartbeats 4000000 in
theorem law_op_29 (hI0 : InvOK Inv) (C0 : lw_At p s m meth c b L xs) (hL : L ≤ 3072) (G : GS D cy (AL s) adS s s.heap) {i : Nat} (h6 : 6 * i + 6 ≤ L) (hN : HD Inv p l e s m below meth c b D cy adS (i + 1)) {hc hm : HP} {ad1 ad2 : Nat → Nat} {qo : Nat} {fo : Nat → Int64} {H : Heap} {locs : List Loc} {cells slots : Nat} {ls : Array Slot} (hI : Inv hc hm) (ha1 : ∀ n, 2000 ≤ n → ad1 n = adS n) (ha2 : ∀ n, 2000 ≤ n → ad2 n = adS n) (hP : va_P D vwCl (wd cy ad1 hc ++ (wd cy ad2 hm ++ wO cy qo fo)) H) (hD : va_D (AL s) (wd cy ad1 hc ++ (wd cy ad2 hm ++ wO cy qo fo))) (hS : va_S (AL s) s.heap H locs) (hcl : cells ≤ 1000 + 100 * i) (hsl : slots ≤ 100000 + 1000 * i) (hl : lv_has ls 7 [(0, .ref b), (1, .ref (ad1 0)), (2, .ref (ad2 0)), (3, .ref qo), (4, .int (nI (6 * i)))]) (St : Step Inv EX10_shut fIH EX12_shut fIH [.int (xs (nI (6 * i) + 1).toNatClampNeg), .int (xs (nI (6 * i) + 2).toNatClampNeg)]) : W p l e room_1 s m #[Value.ref b] below meth c H locs cells slots (lw_Z below #[Value.ref b] s) (F0 m 1005 ls []) := by
  have Cx0 := lw_Cx C0
  obtain ⟨hx, hb, hr, hml, hown, hts, hX, hbl, hlocks, hgv⟩ := id C0
  have hbA : ¬ (AL s) b := Nat.not_le.mpr hbl
  obtain ⟨oc, om, q1, q2, ⟨v, hv1, hv2⟩, hc2, hm2, hR1, hR2, hI2⟩ := St hc hm hI
  obtain ⟨k1, k2, n1, n2⟩ := hI0 hc hm hI
  have z1 : 0 < hc.length := by
    obtain ⟨b0, As, fs, h1, h2⟩ := recv_inv (ci := 10) rfl k1
    cases h1
    exact (List.getElem?_eq_some_iff.mp h2).1
  have z2 : 0 < hm.length := by
    obtain ⟨b0, As, fs, h1, h2⟩ := recv_inv (ci := 12) rfl k2
    cases h1
    exact (List.getElem?_eq_some_iff.mp h2).1
  refine lv_aload_n hx hb dL_law_1005 rfl (lv_at hl 1 rfl) ?_
  refine lv_aload_n hx hb dL_law_1006 rfl (lv_at hl 0 rfl) ?_
  refine lv_iload hx hb dL_law_1007 (lv_at hl 4 rfl) ?_
  refine lv_iconst (v := 1) hx hb dL_law_1009 (by decide) ?_
  refine lv_iadd hx hb dL_law_1010 ?_
  refine va_sld hx hb hX hbl hbA hS (law_in (k := 1) rfl h6 hL (by decide)) dL_law_1011 ?_
  refine lv_aload_n hx hb dL_law_1012 rfl (lv_at hl 0 rfl) ?_
  refine lv_iload hx hb dL_law_1013 (lv_at hl 4 rfl) ?_
  refine lv_iconst (v := 2) hx hb dL_law_1015 (by decide) ?_
  refine lv_iadd hx hb dL_law_1016 ?_
  refine va_sld hx hb hX hbl hbA hS (law_in (k := 2) rfl h6 hL (by decide)) dL_law_1017 ?_
  refine lw_call (L1 := []) Cx0 G (fun q h => h) cmX10_shut (run_V (X := XLaw meth.name) rfl clX10 yoX10_shut rfl tw_1014 tw_1015 tw_1016 ⟨Nat.le_of_ble_eq_true rfl, Nat.le_of_ble_eq_true rfl⟩ dL_law_1018) [.ref 0, .int (xs (nI (6 * i) + 1).toNatClampNeg), .int (xs (nI (6 * i) + 2).toNatClampNeg)] [] q1 rfl k1 (Nat.le_of_ble_eq_true rfl) hl.1 n1 ha1 hP hD hS (by show cells + 0 ≤ 601024; omega) (by show slots + 0 ≤ 7293034; omega) (fun ad3 H locs g1 g2 g3 ha3 hP hD hS => ?_)
  rw [hv1]
  show W p l e room_1 s m _ below meth c H locs _ _ _ (F0 m 1021 ls [.int v])
  refine lv_aload_n hx hb dL_law_1021 rfl (lv_at hl 2 rfl) ?_
  refine lv_aload_n hx hb dL_law_1022 rfl (lv_at hl 0 rfl) ?_
  refine lv_iload hx hb dL_law_1023 (lv_at hl 4 rfl) ?_
  refine lv_iconst (v := 1) hx hb dL_law_1025 (by decide) ?_
  refine lv_iadd hx hb dL_law_1026 ?_
  refine va_sld hx hb hX hbl hbA hS (law_in (k := 1) rfl h6 hL (by decide)) dL_law_1027 ?_
  refine lv_aload_n hx hb dL_law_1028 rfl (lv_at hl 0 rfl) ?_
  refine lv_iload hx hb dL_law_1029 (lv_at hl 4 rfl) ?_
  refine lv_iconst (v := 2) hx hb dL_law_1031 (by decide) ?_
  refine lv_iadd hx hb dL_law_1032 ?_
  refine va_sld hx hb hX hbl hbA hS (law_in (k := 2) rfl h6 hL (by decide)) dL_law_1033 ?_
  refine lw_call (L1 := wd cy ad3 (fIH oc hc).2) Cx0 G (fun q h => h) cmX12_shut (run_V (X := XLaw meth.name) rfl clX12 yoX12_shut rfl tw_1914 tw_1915 tw_1916 ⟨Nat.le_of_ble_eq_true rfl, Nat.le_of_ble_eq_true rfl⟩ dL_law_1034) [.ref 0, .int (xs (nI (6 * i) + 1).toNatClampNeg), .int (xs (nI (6 * i) + 2).toNatClampNeg)] [.int v] q2 rfl k2 (Nat.le_of_ble_eq_true rfl) hl.1 n2 ha2 hP hD hS (by show cells + 0 + 0 ≤ 601024; omega) (by show slots + 0 + 0 ≤ 7293034; omega) (fun ad4 H locs g4 g5 g6 ha4 hP hD hS => ?_)
  rw [hv2]
  show W p l e room_1 s m _ below meth c H locs _ _ _ (F0 m 1037 ls [.int v, .int v])
  refine lv_icmp_eq (tgt := 1439) hx hb dL_law_1037 (by decide) (fun _ => ?_) (fun hne => absurd rfl hne)
  obtain ⟨ad5, g7, g8, g9, hP, hD⟩ := va_ren (L1 := []) hR1 hP hD
  obtain ⟨ad6, g10, g11, g12, hP, hD⟩ := va_ren (L1 := wd cy ad5 hc2) hR2 hP hD
  have e1 : ad5 0 = ad1 0 := g8.trans (g3 0 (Or.inl z1))
  have e2 : ad6 0 = ad2 0 := g11.trans (g6 0 (Or.inl z2))
  rw [← e1, ← e2] at hl
  exact law_next C0 hN hI2 (fun n hn => (g9 n hn).trans (ha3 n hn)) (fun n hn => (g12 n hn).trans (ha4 n hn)) hP hD hS (by omega) (by omega) hl
set_option maxRecDepth 20000 in
set_option maxHeartbeats 4000000 in
theorem law_op_30 (hI0 : InvOK Inv) (C0 : lw_At p s m meth c b L xs) (hL : L ≤ 3072) (G : GS D cy (AL s) adS s s.heap) {i : Nat} (h6 : 6 * i + 6 ≤ L) (hN : HD Inv p l e s m below meth c b D cy adS (i + 1)) {hc hm : HP} {ad1 ad2 : Nat → Nat} {qo : Nat} {fo : Nat → Int64} {H : Heap} {locs : List Loc} {cells slots : Nat} {ls : Array Slot} (hI : Inv hc hm) (ha1 : ∀ n, 2000 ≤ n → ad1 n = adS n) (ha2 : ∀ n, 2000 ≤ n → ad2 n = adS n) (hP : va_P D vwCl (wd cy ad1 hc ++ (wd cy ad2 hm ++ wO cy qo fo)) H) (hD : va_D (AL s) (wd cy ad1 hc ++ (wd cy ad2 hm ++ wO cy qo fo))) (hS : va_S (AL s) s.heap H locs) (hcl : cells ≤ 1000 + 100 * i) (hsl : slots ≤ 100000 + 1000 * i) (hl : lv_has ls 7 [(0, .ref b), (1, .ref (ad1 0)), (2, .ref (ad2 0)), (3, .ref qo), (4, .int (nI (6 * i)))]) (St : Step Inv EX10_shutWays fIH EX12_shutWays fIH []) : W p l e room_1 s m #[Value.ref b] below meth c H locs cells slots (lw_Z below #[Value.ref b] s) (F0 m 1042 ls []) := by
  have Cx0 := lw_Cx C0
  obtain ⟨hx, hb, hr, hml, hown, hts, hX, hbl, hlocks, hgv⟩ := id C0
  have hbA : ¬ (AL s) b := Nat.not_le.mpr hbl
  obtain ⟨oc, om, q1, q2, ⟨v, hv1, hv2⟩, hc2, hm2, hR1, hR2, hI2⟩ := St hc hm hI
  obtain ⟨k1, k2, n1, n2⟩ := hI0 hc hm hI
  have z1 : 0 < hc.length := by
    obtain ⟨b0, As, fs, h1, h2⟩ := recv_inv (ci := 10) rfl k1
    cases h1
    exact (List.getElem?_eq_some_iff.mp h2).1
  have z2 : 0 < hm.length := by
    obtain ⟨b0, As, fs, h1, h2⟩ := recv_inv (ci := 12) rfl k2
    cases h1
    exact (List.getElem?_eq_some_iff.mp h2).1
  refine lv_aload_n hx hb dL_law_1042 rfl (lv_at hl 1 rfl) ?_
  refine lw_call (L1 := []) Cx0 G (fun q h => h) cmX10_shutWays (run_V (X := XLaw meth.name) rfl clX10 yoX10_shutWays rfl tw_1027 tw_1028 tw_1029 ⟨Nat.le_of_ble_eq_true rfl, Nat.le_of_ble_eq_true rfl⟩ dL_law_1043) [.ref 0] [] q1 rfl k1 (Nat.le_of_ble_eq_true rfl) hl.1 n1 ha1 hP hD hS (by show cells + 0 ≤ 601024; omega) (by show slots + 0 ≤ 7293034; omega) (fun ad3 H locs g1 g2 g3 ha3 hP hD hS => ?_)
  rw [hv1]
  show W p l e room_1 s m _ below meth c H locs _ _ _ (F0 m 1046 ls [.int v])
  refine lv_aload_n hx hb dL_law_1046 rfl (lv_at hl 2 rfl) ?_
  refine lw_call (L1 := wd cy ad3 (fIH oc hc).2) Cx0 G (fun q h => h) cmX12_shutWays (run_V (X := XLaw meth.name) rfl clX12 yoX12_shutWays rfl tw_1922 tw_1923 tw_1924 ⟨Nat.le_of_ble_eq_true rfl, Nat.le_of_ble_eq_true rfl⟩ dL_law_1047) [.ref 0] [.int v] q2 rfl k2 (Nat.le_of_ble_eq_true rfl) hl.1 n2 ha2 hP hD hS (by show cells + 0 + 0 ≤ 601024; omega) (by show slots + 0 + 0 ≤ 7293034; omega) (fun ad4 H locs g4 g5 g6 ha4 hP hD hS => ?_)
  rw [hv2]
  show W p l e room_1 s m _ below meth c H locs _ _ _ (F0 m 1050 ls [.int v, .int v])
  refine lv_icmp_eq (tgt := 1439) hx hb dL_law_1050 (by decide) (fun _ => ?_) (fun hne => absurd rfl hne)
  obtain ⟨ad5, g7, g8, g9, hP, hD⟩ := va_ren (L1 := []) hR1 hP hD
  obtain ⟨ad6, g10, g11, g12, hP, hD⟩ := va_ren (L1 := wd cy ad5 hc2) hR2 hP hD
  have e1 : ad5 0 = ad1 0 := g8.trans (g3 0 (Or.inl z1))
  have e2 : ad6 0 = ad2 0 := g11.trans (g6 0 (Or.inl z2))
  rw [← e1, ← e2] at hl
  exact law_next C0 hN hI2 (fun n hn => (g9 n hn).trans (ha3 n hn)) (fun n hn => (g12 n hn).trans (ha4 n hn)) hP hD hS (by omega) (by omega) hl
set_option maxRecDepth 20000 in
set_option maxHeartbeats 4000000 in
theorem law_op_31 (hI0 : InvOK Inv) (C0 : lw_At p s m meth c b L xs) (hL : L ≤ 3072) (G : GS D cy (AL s) adS s s.heap) {i : Nat} (h6 : 6 * i + 6 ≤ L) (hN : HD Inv p l e s m below meth c b D cy adS (i + 1)) {hc hm : HP} {ad1 ad2 : Nat → Nat} {qo : Nat} {fo : Nat → Int64} {H : Heap} {locs : List Loc} {cells slots : Nat} {ls : Array Slot} (hI : Inv hc hm) (ha1 : ∀ n, 2000 ≤ n → ad1 n = adS n) (ha2 : ∀ n, 2000 ≤ n → ad2 n = adS n) (hP : va_P D vwCl (wd cy ad1 hc ++ (wd cy ad2 hm ++ wO cy qo fo)) H) (hD : va_D (AL s) (wd cy ad1 hc ++ (wd cy ad2 hm ++ wO cy qo fo))) (hS : va_S (AL s) s.heap H locs) (hcl : cells ≤ 1000 + 100 * i) (hsl : slots ≤ 100000 + 1000 * i) (hl : lv_has ls 7 [(0, .ref b), (1, .ref (ad1 0)), (2, .ref (ad2 0)), (3, .ref qo), (4, .int (nI (6 * i)))]) (St : Step Inv EX10_seen fIH EX12_seen fIH [.int (xs (nI (6 * i) + 1).toNatClampNeg), .int (xs (nI (6 * i) + 2).toNatClampNeg)]) : W p l e room_1 s m #[Value.ref b] below meth c H locs cells slots (lw_Z below #[Value.ref b] s) (F0 m 1055 ls []) := by
  have Cx0 := lw_Cx C0
  obtain ⟨hx, hb, hr, hml, hown, hts, hX, hbl, hlocks, hgv⟩ := id C0
  have hbA : ¬ (AL s) b := Nat.not_le.mpr hbl
  obtain ⟨oc, om, q1, q2, ⟨v, hv1, hv2⟩, hc2, hm2, hR1, hR2, hI2⟩ := St hc hm hI
  obtain ⟨k1, k2, n1, n2⟩ := hI0 hc hm hI
  have z1 : 0 < hc.length := by
    obtain ⟨b0, As, fs, h1, h2⟩ := recv_inv (ci := 10) rfl k1
    cases h1
    exact (List.getElem?_eq_some_iff.mp h2).1
  have z2 : 0 < hm.length := by
    obtain ⟨b0, As, fs, h1, h2⟩ := recv_inv (ci := 12) rfl k2
    cases h1
    exact (List.getElem?_eq_some_iff.mp h2).1
  refine lv_aload_n hx hb dL_law_1055 rfl (lv_at hl 1 rfl) ?_
  refine lv_aload_n hx hb dL_law_1056 rfl (lv_at hl 0 rfl) ?_
  refine lv_iload hx hb dL_law_1057 (lv_at hl 4 rfl) ?_
  refine lv_iconst (v := 1) hx hb dL_law_1059 (by decide) ?_
  refine lv_iadd hx hb dL_law_1060 ?_
  refine va_sld hx hb hX hbl hbA hS (law_in (k := 1) rfl h6 hL (by decide)) dL_law_1061 ?_
  refine lv_aload_n hx hb dL_law_1062 rfl (lv_at hl 0 rfl) ?_
  refine lv_iload hx hb dL_law_1063 (lv_at hl 4 rfl) ?_
  refine lv_iconst (v := 2) hx hb dL_law_1065 (by decide) ?_
  refine lv_iadd hx hb dL_law_1066 ?_
  refine va_sld hx hb hX hbl hbA hS (law_in (k := 2) rfl h6 hL (by decide)) dL_law_1067 ?_
  refine lw_call (L1 := []) Cx0 G (fun q h => h) cmX10_seen (run_V (X := XLaw meth.name) rfl clX10 yoX10_seen rfl tw_1036 tw_1037 tw_1038 ⟨Nat.le_of_ble_eq_true rfl, Nat.le_of_ble_eq_true rfl⟩ dL_law_1068) [.ref 0, .int (xs (nI (6 * i) + 1).toNatClampNeg), .int (xs (nI (6 * i) + 2).toNatClampNeg)] [] q1 rfl k1 (Nat.le_of_ble_eq_true rfl) hl.1 n1 ha1 hP hD hS (by show cells + 0 ≤ 601024; omega) (by show slots + 0 ≤ 7293034; omega) (fun ad3 H locs g1 g2 g3 ha3 hP hD hS => ?_)
  rw [hv1]
  show W p l e room_1 s m _ below meth c H locs _ _ _ (F0 m 1071 ls [.int v])
  refine lv_aload_n hx hb dL_law_1071 rfl (lv_at hl 2 rfl) ?_
  refine lv_aload_n hx hb dL_law_1072 rfl (lv_at hl 0 rfl) ?_
  refine lv_iload hx hb dL_law_1073 (lv_at hl 4 rfl) ?_
  refine lv_iconst (v := 1) hx hb dL_law_1075 (by decide) ?_
  refine lv_iadd hx hb dL_law_1076 ?_
  refine va_sld hx hb hX hbl hbA hS (law_in (k := 1) rfl h6 hL (by decide)) dL_law_1077 ?_
  refine lv_aload_n hx hb dL_law_1078 rfl (lv_at hl 0 rfl) ?_
  refine lv_iload hx hb dL_law_1079 (lv_at hl 4 rfl) ?_
  refine lv_iconst (v := 2) hx hb dL_law_1081 (by decide) ?_
  refine lv_iadd hx hb dL_law_1082 ?_
  refine va_sld hx hb hX hbl hbA hS (law_in (k := 2) rfl h6 hL (by decide)) dL_law_1083 ?_
  refine lw_call (L1 := wd cy ad3 (fIH oc hc).2) Cx0 G (fun q h => h) cmX12_seen (run_V (X := XLaw meth.name) rfl clX12 yoX12_seen rfl tw_1930 tw_1931 tw_1932 ⟨Nat.le_of_ble_eq_true rfl, Nat.le_of_ble_eq_true rfl⟩ dL_law_1084) [.ref 0, .int (xs (nI (6 * i) + 1).toNatClampNeg), .int (xs (nI (6 * i) + 2).toNatClampNeg)] [.int v] q2 rfl k2 (Nat.le_of_ble_eq_true rfl) hl.1 n2 ha2 hP hD hS (by show cells + 0 + 0 ≤ 601024; omega) (by show slots + 0 + 0 ≤ 7293034; omega) (fun ad4 H locs g4 g5 g6 ha4 hP hD hS => ?_)
  rw [hv2]
  show W p l e room_1 s m _ below meth c H locs _ _ _ (F0 m 1087 ls [.int v, .int v])
  refine lv_icmp_eq (tgt := 1439) hx hb dL_law_1087 (by decide) (fun _ => ?_) (fun hne => absurd rfl hne)
  obtain ⟨ad5, g7, g8, g9, hP, hD⟩ := va_ren (L1 := []) hR1 hP hD
  obtain ⟨ad6, g10, g11, g12, hP, hD⟩ := va_ren (L1 := wd cy ad5 hc2) hR2 hP hD
  have e1 : ad5 0 = ad1 0 := g8.trans (g3 0 (Or.inl z1))
  have e2 : ad6 0 = ad2 0 := g11.trans (g6 0 (Or.inl z2))
  rw [← e1, ← e2] at hl
  exact law_next C0 hN hI2 (fun n hn => (g9 n hn).trans (ha3 n hn)) (fun n hn => (g12 n hn).trans (ha4 n hn)) hP hD hS (by omega) (by omega) hl
set_option maxRecDepth 20000 in
set_option maxHeartbeats 4000000 in
theorem law_op_32 (hI0 : InvOK Inv) (C0 : lw_At p s m meth c b L xs) (hL : L ≤ 3072) (G : GS D cy (AL s) adS s s.heap) {i : Nat} (h6 : 6 * i + 6 ≤ L) (hN : HD Inv p l e s m below meth c b D cy adS (i + 1)) {hc hm : HP} {ad1 ad2 : Nat → Nat} {qo : Nat} {fo : Nat → Int64} {H : Heap} {locs : List Loc} {cells slots : Nat} {ls : Array Slot} (hI : Inv hc hm) (ha1 : ∀ n, 2000 ≤ n → ad1 n = adS n) (ha2 : ∀ n, 2000 ≤ n → ad2 n = adS n) (hP : va_P D vwCl (wd cy ad1 hc ++ (wd cy ad2 hm ++ wO cy qo fo)) H) (hD : va_D (AL s) (wd cy ad1 hc ++ (wd cy ad2 hm ++ wO cy qo fo))) (hS : va_S (AL s) s.heap H locs) (hcl : cells ≤ 1000 + 100 * i) (hsl : slots ≤ 100000 + 1000 * i) (hl : lv_has ls 7 [(0, .ref b), (1, .ref (ad1 0)), (2, .ref (ad2 0)), (3, .ref qo), (4, .int (nI (6 * i)))]) (St : Step Inv EX10_gatesSeen fIH EX12_gatesSeen fIH []) : W p l e room_1 s m #[Value.ref b] below meth c H locs cells slots (lw_Z below #[Value.ref b] s) (F0 m 1092 ls []) := by
  have Cx0 := lw_Cx C0
  obtain ⟨hx, hb, hr, hml, hown, hts, hX, hbl, hlocks, hgv⟩ := id C0
  have hbA : ¬ (AL s) b := Nat.not_le.mpr hbl
  obtain ⟨oc, om, q1, q2, ⟨v, hv1, hv2⟩, hc2, hm2, hR1, hR2, hI2⟩ := St hc hm hI
  obtain ⟨k1, k2, n1, n2⟩ := hI0 hc hm hI
  have z1 : 0 < hc.length := by
    obtain ⟨b0, As, fs, h1, h2⟩ := recv_inv (ci := 10) rfl k1
    cases h1
    exact (List.getElem?_eq_some_iff.mp h2).1
  have z2 : 0 < hm.length := by
    obtain ⟨b0, As, fs, h1, h2⟩ := recv_inv (ci := 12) rfl k2
    cases h1
    exact (List.getElem?_eq_some_iff.mp h2).1
  refine lv_aload_n hx hb dL_law_1092 rfl (lv_at hl 1 rfl) ?_
  refine lw_call (L1 := []) Cx0 G (fun q h => h) cmX10_gatesSeen (run_V (X := XLaw meth.name) rfl clX10 yoX10_gatesSeen rfl tw_1048 tw_1049 tw_1050 ⟨Nat.le_of_ble_eq_true rfl, Nat.le_of_ble_eq_true rfl⟩ dL_law_1093) [.ref 0] [] q1 rfl k1 (Nat.le_of_ble_eq_true rfl) hl.1 n1 ha1 hP hD hS (by show cells + 0 ≤ 601024; omega) (by show slots + 0 ≤ 7293034; omega) (fun ad3 H locs g1 g2 g3 ha3 hP hD hS => ?_)
  rw [hv1]
  show W p l e room_1 s m _ below meth c H locs _ _ _ (F0 m 1096 ls [.int v])
  refine lv_aload_n hx hb dL_law_1096 rfl (lv_at hl 2 rfl) ?_
  refine lw_call (L1 := wd cy ad3 (fIH oc hc).2) Cx0 G (fun q h => h) cmX12_gatesSeen (run_V (X := XLaw meth.name) rfl clX12 yoX12_gatesSeen rfl tw_1942 tw_1943 tw_1944 ⟨Nat.le_of_ble_eq_true rfl, Nat.le_of_ble_eq_true rfl⟩ dL_law_1097) [.ref 0] [.int v] q2 rfl k2 (Nat.le_of_ble_eq_true rfl) hl.1 n2 ha2 hP hD hS (by show cells + 0 + 0 ≤ 601024; omega) (by show slots + 0 + 0 ≤ 7293034; omega) (fun ad4 H locs g4 g5 g6 ha4 hP hD hS => ?_)
  rw [hv2]
  show W p l e room_1 s m _ below meth c H locs _ _ _ (F0 m 1100 ls [.int v, .int v])
  refine lv_icmp_eq (tgt := 1439) hx hb dL_law_1100 (by decide) (fun _ => ?_) (fun hne => absurd rfl hne)
  obtain ⟨ad5, g7, g8, g9, hP, hD⟩ := va_ren (L1 := []) hR1 hP hD
  obtain ⟨ad6, g10, g11, g12, hP, hD⟩ := va_ren (L1 := wd cy ad5 hc2) hR2 hP hD
  have e1 : ad5 0 = ad1 0 := g8.trans (g3 0 (Or.inl z1))
  have e2 : ad6 0 = ad2 0 := g11.trans (g6 0 (Or.inl z2))
  rw [← e1, ← e2] at hl
  exact law_next C0 hN hI2 (fun n hn => (g9 n hn).trans (ha3 n hn)) (fun n hn => (g12 n hn).trans (ha4 n hn)) hP hD hS (by omega) (by omega) hl
set_option maxRecDepth 20000 in
set_option maxHeartbeats 4000000 in
theorem law_op_33 (hI0 : InvOK Inv) (C0 : lw_At p s m meth c b L xs) (hL : L ≤ 3072) (G : GS D cy (AL s) adS s s.heap) {i : Nat} (h6 : 6 * i + 6 ≤ L) (hN : HD Inv p l e s m below meth c b D cy adS (i + 1)) {hc hm : HP} {ad1 ad2 : Nat → Nat} {qo : Nat} {fo : Nat → Int64} {H : Heap} {locs : List Loc} {cells slots : Nat} {ls : Array Slot} (hI : Inv hc hm) (ha1 : ∀ n, 2000 ≤ n → ad1 n = adS n) (ha2 : ∀ n, 2000 ≤ n → ad2 n = adS n) (hP : va_P D vwCl (wd cy ad1 hc ++ (wd cy ad2 hm ++ wO cy qo fo)) H) (hD : va_D (AL s) (wd cy ad1 hc ++ (wd cy ad2 hm ++ wO cy qo fo))) (hS : va_S (AL s) s.heap H locs) (hcl : cells ≤ 1000 + 100 * i) (hsl : slots ≤ 100000 + 1000 * i) (hl : lv_has ls 7 [(0, .ref b), (1, .ref (ad1 0)), (2, .ref (ad2 0)), (3, .ref qo), (4, .int (nI (6 * i)))]) (St : Step Inv EX10_places fIH EX12_places fIH []) : W p l e room_1 s m #[Value.ref b] below meth c H locs cells slots (lw_Z below #[Value.ref b] s) (F0 m 1105 ls []) := by
  have Cx0 := lw_Cx C0
  obtain ⟨hx, hb, hr, hml, hown, hts, hX, hbl, hlocks, hgv⟩ := id C0
  have hbA : ¬ (AL s) b := Nat.not_le.mpr hbl
  obtain ⟨oc, om, q1, q2, ⟨v, hv1, hv2⟩, hc2, hm2, hR1, hR2, hI2⟩ := St hc hm hI
  obtain ⟨k1, k2, n1, n2⟩ := hI0 hc hm hI
  have z1 : 0 < hc.length := by
    obtain ⟨b0, As, fs, h1, h2⟩ := recv_inv (ci := 10) rfl k1
    cases h1
    exact (List.getElem?_eq_some_iff.mp h2).1
  have z2 : 0 < hm.length := by
    obtain ⟨b0, As, fs, h1, h2⟩ := recv_inv (ci := 12) rfl k2
    cases h1
    exact (List.getElem?_eq_some_iff.mp h2).1
  refine lv_aload_n hx hb dL_law_1105 rfl (lv_at hl 1 rfl) ?_
  refine lw_call (L1 := []) Cx0 G (fun q h => h) cmX10_places (run_V (X := XLaw meth.name) rfl clX10 yoX10_places rfl tw_1060 tw_1061 tw_1062 ⟨Nat.le_of_ble_eq_true rfl, Nat.le_of_ble_eq_true rfl⟩ dL_law_1106) [.ref 0] [] q1 rfl k1 (Nat.le_of_ble_eq_true rfl) hl.1 n1 ha1 hP hD hS (by show cells + 0 ≤ 601024; omega) (by show slots + 0 ≤ 7293034; omega) (fun ad3 H locs g1 g2 g3 ha3 hP hD hS => ?_)
  rw [hv1]
  show W p l e room_1 s m _ below meth c H locs _ _ _ (F0 m 1109 ls [.int v])
  refine lv_aload_n hx hb dL_law_1109 rfl (lv_at hl 2 rfl) ?_
  refine lw_call (L1 := wd cy ad3 (fIH oc hc).2) Cx0 G (fun q h => h) cmX12_places (run_V (X := XLaw meth.name) rfl clX12 yoX12_places rfl tw_1946 tw_1947 tw_1948 ⟨Nat.le_of_ble_eq_true rfl, Nat.le_of_ble_eq_true rfl⟩ dL_law_1110) [.ref 0] [.int v] q2 rfl k2 (Nat.le_of_ble_eq_true rfl) hl.1 n2 ha2 hP hD hS (by show cells + 0 + 0 ≤ 601024; omega) (by show slots + 0 + 0 ≤ 7293034; omega) (fun ad4 H locs g4 g5 g6 ha4 hP hD hS => ?_)
  rw [hv2]
  show W p l e room_1 s m _ below meth c H locs _ _ _ (F0 m 1113 ls [.int v, .int v])
  refine lv_icmp_eq (tgt := 1439) hx hb dL_law_1113 (by decide) (fun _ => ?_) (fun hne => absurd rfl hne)
  obtain ⟨ad5, g7, g8, g9, hP, hD⟩ := va_ren (L1 := []) hR1 hP hD
  obtain ⟨ad6, g10, g11, g12, hP, hD⟩ := va_ren (L1 := wd cy ad5 hc2) hR2 hP hD
  have e1 : ad5 0 = ad1 0 := g8.trans (g3 0 (Or.inl z1))
  have e2 : ad6 0 = ad2 0 := g11.trans (g6 0 (Or.inl z2))
  rw [← e1, ← e2] at hl
  exact law_next C0 hN hI2 (fun n hn => (g9 n hn).trans (ha3 n hn)) (fun n hn => (g12 n hn).trans (ha4 n hn)) hP hD hS (by omega) (by omega) hl
set_option maxRecDepth 20000 in
set_option maxHeartbeats 4000000 in
theorem law_op_34 (hI0 : InvOK Inv) (C0 : lw_At p s m meth c b L xs) (hL : L ≤ 3072) (G : GS D cy (AL s) adS s s.heap) {i : Nat} (h6 : 6 * i + 6 ≤ L) (hN : HD Inv p l e s m below meth c b D cy adS (i + 1)) {hc hm : HP} {ad1 ad2 : Nat → Nat} {qo : Nat} {fo : Nat → Int64} {H : Heap} {locs : List Loc} {cells slots : Nat} {ls : Array Slot} (hI : Inv hc hm) (ha1 : ∀ n, 2000 ≤ n → ad1 n = adS n) (ha2 : ∀ n, 2000 ≤ n → ad2 n = adS n) (hP : va_P D vwCl (wd cy ad1 hc ++ (wd cy ad2 hm ++ wO cy qo fo)) H) (hD : va_D (AL s) (wd cy ad1 hc ++ (wd cy ad2 hm ++ wO cy qo fo))) (hS : va_S (AL s) s.heap H locs) (hcl : cells ≤ 1000 + 100 * i) (hsl : slots ≤ 100000 + 1000 * i) (hl : lv_has ls 7 [(0, .ref b), (1, .ref (ad1 0)), (2, .ref (ad2 0)), (3, .ref qo), (4, .int (nI (6 * i)))]) (St : Step Inv EX10_place fIH EX12_place fIH [.int (xs (nI (6 * i) + 1).toNatClampNeg)]) : W p l e room_1 s m #[Value.ref b] below meth c H locs cells slots (lw_Z below #[Value.ref b] s) (F0 m 1118 ls []) := by
  have Cx0 := lw_Cx C0
  obtain ⟨hx, hb, hr, hml, hown, hts, hX, hbl, hlocks, hgv⟩ := id C0
  have hbA : ¬ (AL s) b := Nat.not_le.mpr hbl
  obtain ⟨oc, om, q1, q2, ⟨v, hv1, hv2⟩, hc2, hm2, hR1, hR2, hI2⟩ := St hc hm hI
  obtain ⟨k1, k2, n1, n2⟩ := hI0 hc hm hI
  have z1 : 0 < hc.length := by
    obtain ⟨b0, As, fs, h1, h2⟩ := recv_inv (ci := 10) rfl k1
    cases h1
    exact (List.getElem?_eq_some_iff.mp h2).1
  have z2 : 0 < hm.length := by
    obtain ⟨b0, As, fs, h1, h2⟩ := recv_inv (ci := 12) rfl k2
    cases h1
    exact (List.getElem?_eq_some_iff.mp h2).1
  refine lv_aload_n hx hb dL_law_1118 rfl (lv_at hl 1 rfl) ?_
  refine lv_aload_n hx hb dL_law_1119 rfl (lv_at hl 0 rfl) ?_
  refine lv_iload hx hb dL_law_1120 (lv_at hl 4 rfl) ?_
  refine lv_iconst (v := 1) hx hb dL_law_1122 (by decide) ?_
  refine lv_iadd hx hb dL_law_1123 ?_
  refine va_sld hx hb hX hbl hbA hS (law_in (k := 1) rfl h6 hL (by decide)) dL_law_1124 ?_
  refine lw_call (L1 := []) Cx0 G (fun q h => h) cmX10_place (run_V (X := XLaw meth.name) rfl clX10 yoX10_place rfl tw_1080 tw_1081 tw_1082 ⟨Nat.le_of_ble_eq_true rfl, Nat.le_of_ble_eq_true rfl⟩ dL_law_1125) [.ref 0, .int (xs (nI (6 * i) + 1).toNatClampNeg)] [] q1 rfl k1 (Nat.le_of_ble_eq_true rfl) hl.1 n1 ha1 hP hD hS (by show cells + 0 ≤ 601024; omega) (by show slots + 0 ≤ 7293034; omega) (fun ad3 H locs g1 g2 g3 ha3 hP hD hS => ?_)
  rw [hv1]
  show W p l e room_1 s m _ below meth c H locs _ _ _ (F0 m 1128 ls [.int v])
  refine lv_aload_n hx hb dL_law_1128 rfl (lv_at hl 2 rfl) ?_
  refine lv_aload_n hx hb dL_law_1129 rfl (lv_at hl 0 rfl) ?_
  refine lv_iload hx hb dL_law_1130 (lv_at hl 4 rfl) ?_
  refine lv_iconst (v := 1) hx hb dL_law_1132 (by decide) ?_
  refine lv_iadd hx hb dL_law_1133 ?_
  refine va_sld hx hb hX hbl hbA hS (law_in (k := 1) rfl h6 hL (by decide)) dL_law_1134 ?_
  refine lw_call (L1 := wd cy ad3 (fIH oc hc).2) Cx0 G (fun q h => h) cmX12_place (run_V (X := XLaw meth.name) rfl clX12 yoX12_place rfl tw_1954 tw_1955 tw_1956 ⟨Nat.le_of_ble_eq_true rfl, Nat.le_of_ble_eq_true rfl⟩ dL_law_1135) [.ref 0, .int (xs (nI (6 * i) + 1).toNatClampNeg)] [.int v] q2 rfl k2 (Nat.le_of_ble_eq_true rfl) hl.1 n2 ha2 hP hD hS (by show cells + 0 + 0 ≤ 601024; omega) (by show slots + 0 + 0 ≤ 7293034; omega) (fun ad4 H locs g4 g5 g6 ha4 hP hD hS => ?_)
  rw [hv2]
  show W p l e room_1 s m _ below meth c H locs _ _ _ (F0 m 1138 ls [.int v, .int v])
  refine lv_icmp_eq (tgt := 1439) hx hb dL_law_1138 (by decide) (fun _ => ?_) (fun hne => absurd rfl hne)
  obtain ⟨ad5, g7, g8, g9, hP, hD⟩ := va_ren (L1 := []) hR1 hP hD
  obtain ⟨ad6, g10, g11, g12, hP, hD⟩ := va_ren (L1 := wd cy ad5 hc2) hR2 hP hD
  have e1 : ad5 0 = ad1 0 := g8.trans (g3 0 (Or.inl z1))
  have e2 : ad6 0 = ad2 0 := g11.trans (g6 0 (Or.inl z2))
  rw [← e1, ← e2] at hl
  exact law_next C0 hN hI2 (fun n hn => (g9 n hn).trans (ha3 n hn)) (fun n hn => (g12 n hn).trans (ha4 n hn)) hP hD hS (by omega) (by omega) hl
set_option maxRecDepth 20000 in
set_option maxHeartbeats 4000000 in
theorem law_op_35 (hI0 : InvOK Inv) (C0 : lw_At p s m meth c b L xs) (hL : L ≤ 3072) (G : GS D cy (AL s) adS s s.heap) {i : Nat} (h6 : 6 * i + 6 ≤ L) (hN : HD Inv p l e s m below meth c b D cy adS (i + 1)) {hc hm : HP} {ad1 ad2 : Nat → Nat} {qo : Nat} {fo : Nat → Int64} {H : Heap} {locs : List Loc} {cells slots : Nat} {ls : Array Slot} (hI : Inv hc hm) (ha1 : ∀ n, 2000 ≤ n → ad1 n = adS n) (ha2 : ∀ n, 2000 ≤ n → ad2 n = adS n) (hP : va_P D vwCl (wd cy ad1 hc ++ (wd cy ad2 hm ++ wO cy qo fo)) H) (hD : va_D (AL s) (wd cy ad1 hc ++ (wd cy ad2 hm ++ wO cy qo fo))) (hS : va_S (AL s) s.heap H locs) (hcl : cells ≤ 1000 + 100 * i) (hsl : slots ≤ 100000 + 1000 * i) (hl : lv_has ls 7 [(0, .ref b), (1, .ref (ad1 0)), (2, .ref (ad2 0)), (3, .ref qo), (4, .int (nI (6 * i)))]) (St : Step Inv EX10_best fIH EX12_best fIH []) : W p l e room_1 s m #[Value.ref b] below meth c H locs cells slots (lw_Z below #[Value.ref b] s) (F0 m 1143 ls []) := by
  have Cx0 := lw_Cx C0
  obtain ⟨hx, hb, hr, hml, hown, hts, hX, hbl, hlocks, hgv⟩ := id C0
  have hbA : ¬ (AL s) b := Nat.not_le.mpr hbl
  obtain ⟨oc, om, q1, q2, ⟨v, hv1, hv2⟩, hc2, hm2, hR1, hR2, hI2⟩ := St hc hm hI
  obtain ⟨k1, k2, n1, n2⟩ := hI0 hc hm hI
  have z1 : 0 < hc.length := by
    obtain ⟨b0, As, fs, h1, h2⟩ := recv_inv (ci := 10) rfl k1
    cases h1
    exact (List.getElem?_eq_some_iff.mp h2).1
  have z2 : 0 < hm.length := by
    obtain ⟨b0, As, fs, h1, h2⟩ := recv_inv (ci := 12) rfl k2
    cases h1
    exact (List.getElem?_eq_some_iff.mp h2).1
  refine lv_aload_n hx hb dL_law_1143 rfl (lv_at hl 1 rfl) ?_
  refine lw_call (L1 := []) Cx0 G (fun q h => h) cmX10_best (run_V (X := XLaw meth.name) rfl clX10 yoX10_best rfl tw_1084 tw_1085 tw_1086 ⟨Nat.le_of_ble_eq_true rfl, Nat.le_of_ble_eq_true rfl⟩ dL_law_1144) [.ref 0] [] q1 rfl k1 (Nat.le_of_ble_eq_true rfl) hl.1 n1 ha1 hP hD hS (by show cells + 0 ≤ 601024; omega) (by show slots + 0 ≤ 7293034; omega) (fun ad3 H locs g1 g2 g3 ha3 hP hD hS => ?_)
  rw [hv1]
  show W p l e room_1 s m _ below meth c H locs _ _ _ (F0 m 1147 ls [.int v])
  refine lv_aload_n hx hb dL_law_1147 rfl (lv_at hl 2 rfl) ?_
  refine lw_call (L1 := wd cy ad3 (fIH oc hc).2) Cx0 G (fun q h => h) cmX12_best (run_V (X := XLaw meth.name) rfl clX12 yoX12_best rfl tw_1958 tw_1959 tw_1960 ⟨Nat.le_of_ble_eq_true rfl, Nat.le_of_ble_eq_true rfl⟩ dL_law_1148) [.ref 0] [.int v] q2 rfl k2 (Nat.le_of_ble_eq_true rfl) hl.1 n2 ha2 hP hD hS (by show cells + 0 + 0 ≤ 601024; omega) (by show slots + 0 + 0 ≤ 7293034; omega) (fun ad4 H locs g4 g5 g6 ha4 hP hD hS => ?_)
  rw [hv2]
  show W p l e room_1 s m _ below meth c H locs _ _ _ (F0 m 1151 ls [.int v, .int v])
  refine lv_icmp_eq (tgt := 1439) hx hb dL_law_1151 (by decide) (fun _ => ?_) (fun hne => absurd rfl hne)
  obtain ⟨ad5, g7, g8, g9, hP, hD⟩ := va_ren (L1 := []) hR1 hP hD
  obtain ⟨ad6, g10, g11, g12, hP, hD⟩ := va_ren (L1 := wd cy ad5 hc2) hR2 hP hD
  have e1 : ad5 0 = ad1 0 := g8.trans (g3 0 (Or.inl z1))
  have e2 : ad6 0 = ad2 0 := g11.trans (g6 0 (Or.inl z2))
  rw [← e1, ← e2] at hl
  exact law_next C0 hN hI2 (fun n hn => (g9 n hn).trans (ha3 n hn)) (fun n hn => (g12 n hn).trans (ha4 n hn)) hP hD hS (by omega) (by omega) hl
set_option maxRecDepth 20000 in
set_option maxHeartbeats 4000000 in
theorem law_op_36 (hI0 : InvOK Inv) (C0 : lw_At p s m meth c b L xs) (hL : L ≤ 3072) (G : GS D cy (AL s) adS s s.heap) {i : Nat} (h6 : 6 * i + 6 ≤ L) (hN : HD Inv p l e s m below meth c b D cy adS (i + 1)) {hc hm : HP} {ad1 ad2 : Nat → Nat} {qo : Nat} {fo : Nat → Int64} {H : Heap} {locs : List Loc} {cells slots : Nat} {ls : Array Slot} (hI : Inv hc hm) (ha1 : ∀ n, 2000 ≤ n → ad1 n = adS n) (ha2 : ∀ n, 2000 ≤ n → ad2 n = adS n) (hP : va_P D vwCl (wd cy ad1 hc ++ (wd cy ad2 hm ++ wO cy qo fo)) H) (hD : va_D (AL s) (wd cy ad1 hc ++ (wd cy ad2 hm ++ wO cy qo fo))) (hS : va_S (AL s) s.heap H locs) (hcl : cells ≤ 1000 + 100 * i) (hsl : slots ≤ 100000 + 1000 * i) (hl : lv_has ls 7 [(0, .ref b), (1, .ref (ad1 0)), (2, .ref (ad2 0)), (3, .ref qo), (4, .int (nI (6 * i)))]) (St : Step Inv EX10_bestPaid fIH EX12_bestPaid fIH []) : W p l e room_1 s m #[Value.ref b] below meth c H locs cells slots (lw_Z below #[Value.ref b] s) (F0 m 1156 ls []) := by
  have Cx0 := lw_Cx C0
  obtain ⟨hx, hb, hr, hml, hown, hts, hX, hbl, hlocks, hgv⟩ := id C0
  have hbA : ¬ (AL s) b := Nat.not_le.mpr hbl
  obtain ⟨oc, om, q1, q2, ⟨v, hv1, hv2⟩, hc2, hm2, hR1, hR2, hI2⟩ := St hc hm hI
  obtain ⟨k1, k2, n1, n2⟩ := hI0 hc hm hI
  have z1 : 0 < hc.length := by
    obtain ⟨b0, As, fs, h1, h2⟩ := recv_inv (ci := 10) rfl k1
    cases h1
    exact (List.getElem?_eq_some_iff.mp h2).1
  have z2 : 0 < hm.length := by
    obtain ⟨b0, As, fs, h1, h2⟩ := recv_inv (ci := 12) rfl k2
    cases h1
    exact (List.getElem?_eq_some_iff.mp h2).1
  refine lv_aload_n hx hb dL_law_1156 rfl (lv_at hl 1 rfl) ?_
  refine lw_call (L1 := []) Cx0 G (fun q h => h) cmX10_bestPaid (run_V (X := XLaw meth.name) rfl clX10 yoX10_bestPaid rfl tw_1096 tw_1097 tw_1098 ⟨Nat.le_of_ble_eq_true rfl, Nat.le_of_ble_eq_true rfl⟩ dL_law_1157) [.ref 0] [] q1 rfl k1 (Nat.le_of_ble_eq_true rfl) hl.1 n1 ha1 hP hD hS (by show cells + 0 ≤ 601024; omega) (by show slots + 0 ≤ 7293034; omega) (fun ad3 H locs g1 g2 g3 ha3 hP hD hS => ?_)
  rw [hv1]
  show W p l e room_1 s m _ below meth c H locs _ _ _ (F0 m 1160 ls [.int v])
  refine lv_aload_n hx hb dL_law_1160 rfl (lv_at hl 2 rfl) ?_
  refine lw_call (L1 := wd cy ad3 (fIH oc hc).2) Cx0 G (fun q h => h) cmX12_bestPaid (run_V (X := XLaw meth.name) rfl clX12 yoX12_bestPaid rfl tw_1970 tw_1971 tw_1972 ⟨Nat.le_of_ble_eq_true rfl, Nat.le_of_ble_eq_true rfl⟩ dL_law_1161) [.ref 0] [.int v] q2 rfl k2 (Nat.le_of_ble_eq_true rfl) hl.1 n2 ha2 hP hD hS (by show cells + 0 + 0 ≤ 601024; omega) (by show slots + 0 + 0 ≤ 7293034; omega) (fun ad4 H locs g4 g5 g6 ha4 hP hD hS => ?_)
  rw [hv2]
  show W p l e room_1 s m _ below meth c H locs _ _ _ (F0 m 1164 ls [.int v, .int v])
  refine lv_icmp_eq (tgt := 1439) hx hb dL_law_1164 (by decide) (fun _ => ?_) (fun hne => absurd rfl hne)
  obtain ⟨ad5, g7, g8, g9, hP, hD⟩ := va_ren (L1 := []) hR1 hP hD
  obtain ⟨ad6, g10, g11, g12, hP, hD⟩ := va_ren (L1 := wd cy ad5 hc2) hR2 hP hD
  have e1 : ad5 0 = ad1 0 := g8.trans (g3 0 (Or.inl z1))
  have e2 : ad6 0 = ad2 0 := g11.trans (g6 0 (Or.inl z2))
  rw [← e1, ← e2] at hl
  exact law_next C0 hN hI2 (fun n hn => (g9 n hn).trans (ha3 n hn)) (fun n hn => (g12 n hn).trans (ha4 n hn)) hP hD hS (by omega) (by omega) hl
set_option maxRecDepth 20000 in
set_option maxHeartbeats 4000000 in
theorem law_op_37 (hI0 : InvOK Inv) (C0 : lw_At p s m meth c b L xs) (hL : L ≤ 3072) (G : GS D cy (AL s) adS s s.heap) {i : Nat} (h6 : 6 * i + 6 ≤ L) (hN : HD Inv p l e s m below meth c b D cy adS (i + 1)) {hc hm : HP} {ad1 ad2 : Nat → Nat} {qo : Nat} {fo : Nat → Int64} {H : Heap} {locs : List Loc} {cells slots : Nat} {ls : Array Slot} (hI : Inv hc hm) (ha1 : ∀ n, 2000 ≤ n → ad1 n = adS n) (ha2 : ∀ n, 2000 ≤ n → ad2 n = adS n) (hP : va_P D vwCl (wd cy ad1 hc ++ (wd cy ad2 hm ++ wO cy qo fo)) H) (hD : va_D (AL s) (wd cy ad1 hc ++ (wd cy ad2 hm ++ wO cy qo fo))) (hS : va_S (AL s) s.heap H locs) (hcl : cells ≤ 1000 + 100 * i) (hsl : slots ≤ 100000 + 1000 * i) (hl : lv_has ls 7 [(0, .ref b), (1, .ref (ad1 0)), (2, .ref (ad2 0)), (3, .ref qo), (4, .int (nI (6 * i)))]) (St : Step Inv EX10_mow fZH EX12_mow fZH [.int (xs (nI (6 * i) + 1).toNatClampNeg), .int (xs (nI (6 * i) + 2).toNatClampNeg)]) : W p l e room_1 s m #[Value.ref b] below meth c H locs cells slots (lw_Z below #[Value.ref b] s) (F0 m 1169 ls []) := by
  have Cx0 := lw_Cx C0
  obtain ⟨hx, hb, hr, hml, hown, hts, hX, hbl, hlocks, hgv⟩ := id C0
  have hbA : ¬ (AL s) b := Nat.not_le.mpr hbl
  obtain ⟨oc, om, q1, q2, ⟨v, hv1, hv2⟩, hc2, hm2, hR1, hR2, hI2⟩ := St hc hm hI
  obtain ⟨k1, k2, n1, n2⟩ := hI0 hc hm hI
  have z1 : 0 < hc.length := by
    obtain ⟨b0, As, fs, h1, h2⟩ := recv_inv (ci := 10) rfl k1
    cases h1
    exact (List.getElem?_eq_some_iff.mp h2).1
  have z2 : 0 < hm.length := by
    obtain ⟨b0, As, fs, h1, h2⟩ := recv_inv (ci := 12) rfl k2
    cases h1
    exact (List.getElem?_eq_some_iff.mp h2).1
  refine lv_aload_n hx hb dL_law_1169 rfl (lv_at hl 1 rfl) ?_
  refine lv_aload_n hx hb dL_law_1170 rfl (lv_at hl 0 rfl) ?_
  refine lv_iload hx hb dL_law_1171 (lv_at hl 4 rfl) ?_
  refine lv_iconst (v := 1) hx hb dL_law_1173 (by decide) ?_
  refine lv_iadd hx hb dL_law_1174 ?_
  refine va_sld hx hb hX hbl hbA hS (law_in (k := 1) rfl h6 hL (by decide)) dL_law_1175 ?_
  refine lv_aload_n hx hb dL_law_1176 rfl (lv_at hl 0 rfl) ?_
  refine lv_iload hx hb dL_law_1177 (lv_at hl 4 rfl) ?_
  refine lv_iconst (v := 2) hx hb dL_law_1179 (by decide) ?_
  refine lv_iadd hx hb dL_law_1180 ?_
  refine va_sld hx hb hX hbl hbA hS (law_in (k := 2) rfl h6 hL (by decide)) dL_law_1181 ?_
  refine lw_call (L1 := []) Cx0 G (fun q h => h) cmX10_mow (run_V (X := XLaw meth.name) rfl clX10 yoX10_mow rfl tw_1100 tw_1101 tw_1102 ⟨Nat.le_of_ble_eq_true rfl, Nat.le_of_ble_eq_true rfl⟩ dL_law_1182) [.ref 0, .int (xs (nI (6 * i) + 1).toNatClampNeg), .int (xs (nI (6 * i) + 2).toNatClampNeg)] [] q1 rfl k1 (Nat.le_of_ble_eq_true rfl) hl.1 n1 ha1 hP hD hS (by show cells + 0 ≤ 601024; omega) (by show slots + 0 ≤ 7293034; omega) (fun ad3 H locs g1 g2 g3 ha3 hP hD hS => ?_)
  rw [hv1]
  show W p l e room_1 s m _ below meth c H locs _ _ _ (F0 m 1185 ls [.int v])
  refine lv_aload_n hx hb dL_law_1185 rfl (lv_at hl 2 rfl) ?_
  refine lv_aload_n hx hb dL_law_1186 rfl (lv_at hl 0 rfl) ?_
  refine lv_iload hx hb dL_law_1187 (lv_at hl 4 rfl) ?_
  refine lv_iconst (v := 1) hx hb dL_law_1189 (by decide) ?_
  refine lv_iadd hx hb dL_law_1190 ?_
  refine va_sld hx hb hX hbl hbA hS (law_in (k := 1) rfl h6 hL (by decide)) dL_law_1191 ?_
  refine lv_aload_n hx hb dL_law_1192 rfl (lv_at hl 0 rfl) ?_
  refine lv_iload hx hb dL_law_1193 (lv_at hl 4 rfl) ?_
  refine lv_iconst (v := 2) hx hb dL_law_1195 (by decide) ?_
  refine lv_iadd hx hb dL_law_1196 ?_
  refine va_sld hx hb hX hbl hbA hS (law_in (k := 2) rfl h6 hL (by decide)) dL_law_1197 ?_
  refine lw_call (L1 := wd cy ad3 (fZH oc hc).2) Cx0 G (fun q h => h) cmX12_mow (run_V (X := XLaw meth.name) rfl clX12 yoX12_mow rfl tw_1974 tw_1975 tw_1976 ⟨Nat.le_of_ble_eq_true rfl, Nat.le_of_ble_eq_true rfl⟩ dL_law_1198) [.ref 0, .int (xs (nI (6 * i) + 1).toNatClampNeg), .int (xs (nI (6 * i) + 2).toNatClampNeg)] [.int v] q2 rfl k2 (Nat.le_of_ble_eq_true rfl) hl.1 n2 ha2 hP hD hS (by show cells + 0 + 0 ≤ 601024; omega) (by show slots + 0 + 0 ≤ 7293034; omega) (fun ad4 H locs g4 g5 g6 ha4 hP hD hS => ?_)
  rw [hv2]
  show W p l e room_1 s m _ below meth c H locs _ _ _ (F0 m 1201 ls [.int v, .int v])
  refine lv_icmp_eq (tgt := 1439) hx hb dL_law_1201 (by decide) (fun _ => ?_) (fun hne => absurd rfl hne)
  obtain ⟨ad5, g7, g8, g9, hP, hD⟩ := va_ren (L1 := []) hR1 hP hD
  obtain ⟨ad6, g10, g11, g12, hP, hD⟩ := va_ren (L1 := wd cy ad5 hc2) hR2 hP hD
  have e1 : ad5 0 = ad1 0 := g8.trans (g3 0 (Or.inl z1))
  have e2 : ad6 0 = ad2 0 := g11.trans (g6 0 (Or.inl z2))
  rw [← e1, ← e2] at hl
  exact law_next C0 hN hI2 (fun n hn => (g9 n hn).trans (ha3 n hn)) (fun n hn => (g12 n hn).trans (ha4 n hn)) hP hD hS (by omega) (by omega) hl
set_option maxRecDepth 20000 in
set_option maxHeartbeats 4000000 in
theorem law_op_38 (hI0 : InvOK Inv) (C0 : lw_At p s m meth c b L xs) (hL : L ≤ 3072) (G : GS D cy (AL s) adS s s.heap) {i : Nat} (h6 : 6 * i + 6 ≤ L) (hN : HD Inv p l e s m below meth c b D cy adS (i + 1)) {hc hm : HP} {ad1 ad2 : Nat → Nat} {qo : Nat} {fo : Nat → Int64} {H : Heap} {locs : List Loc} {cells slots : Nat} {ls : Array Slot} (hI : Inv hc hm) (ha1 : ∀ n, 2000 ≤ n → ad1 n = adS n) (ha2 : ∀ n, 2000 ≤ n → ad2 n = adS n) (hP : va_P D vwCl (wd cy ad1 hc ++ (wd cy ad2 hm ++ wO cy qo fo)) H) (hD : va_D (AL s) (wd cy ad1 hc ++ (wd cy ad2 hm ++ wO cy qo fo))) (hS : va_S (AL s) s.heap H locs) (hcl : cells ≤ 1000 + 100 * i) (hsl : slots ≤ 100000 + 1000 * i) (hl : lv_has ls 7 [(0, .ref b), (1, .ref (ad1 0)), (2, .ref (ad2 0)), (3, .ref qo), (4, .int (nI (6 * i)))]) (St : Step Inv EX10_stand fZH EX12_stand fZH [.int (xs (nI (6 * i) + 1).toNatClampNeg), .int (xs (nI (6 * i) + 2).toNatClampNeg)]) : W p l e room_1 s m #[Value.ref b] below meth c H locs cells slots (lw_Z below #[Value.ref b] s) (F0 m 1206 ls []) := by
  have Cx0 := lw_Cx C0
  obtain ⟨hx, hb, hr, hml, hown, hts, hX, hbl, hlocks, hgv⟩ := id C0
  have hbA : ¬ (AL s) b := Nat.not_le.mpr hbl
  obtain ⟨oc, om, q1, q2, ⟨v, hv1, hv2⟩, hc2, hm2, hR1, hR2, hI2⟩ := St hc hm hI
  obtain ⟨k1, k2, n1, n2⟩ := hI0 hc hm hI
  have z1 : 0 < hc.length := by
    obtain ⟨b0, As, fs, h1, h2⟩ := recv_inv (ci := 10) rfl k1
    cases h1
    exact (List.getElem?_eq_some_iff.mp h2).1
  have z2 : 0 < hm.length := by
    obtain ⟨b0, As, fs, h1, h2⟩ := recv_inv (ci := 12) rfl k2
    cases h1
    exact (List.getElem?_eq_some_iff.mp h2).1
  refine lv_aload_n hx hb dL_law_1206 rfl (lv_at hl 1 rfl) ?_
  refine lv_aload_n hx hb dL_law_1207 rfl (lv_at hl 0 rfl) ?_
  refine lv_iload hx hb dL_law_1208 (lv_at hl 4 rfl) ?_
  refine lv_iconst (v := 1) hx hb dL_law_1210 (by decide) ?_
  refine lv_iadd hx hb dL_law_1211 ?_
  refine va_sld hx hb hX hbl hbA hS (law_in (k := 1) rfl h6 hL (by decide)) dL_law_1212 ?_
  refine lv_aload_n hx hb dL_law_1213 rfl (lv_at hl 0 rfl) ?_
  refine lv_iload hx hb dL_law_1214 (lv_at hl 4 rfl) ?_
  refine lv_iconst (v := 2) hx hb dL_law_1216 (by decide) ?_
  refine lv_iadd hx hb dL_law_1217 ?_
  refine va_sld hx hb hX hbl hbA hS (law_in (k := 2) rfl h6 hL (by decide)) dL_law_1218 ?_
  refine lw_call (L1 := []) Cx0 G (fun q h => h) cmX10_stand (run_V (X := XLaw meth.name) rfl clX10 yoX10_stand rfl tw_1123 tw_1124 tw_1125 ⟨Nat.le_of_ble_eq_true rfl, Nat.le_of_ble_eq_true rfl⟩ dL_law_1219) [.ref 0, .int (xs (nI (6 * i) + 1).toNatClampNeg), .int (xs (nI (6 * i) + 2).toNatClampNeg)] [] q1 rfl k1 (Nat.le_of_ble_eq_true rfl) hl.1 n1 ha1 hP hD hS (by show cells + 0 ≤ 601024; omega) (by show slots + 0 ≤ 7293034; omega) (fun ad3 H locs g1 g2 g3 ha3 hP hD hS => ?_)
  rw [hv1]
  show W p l e room_1 s m _ below meth c H locs _ _ _ (F0 m 1222 ls [.int v])
  refine lv_aload_n hx hb dL_law_1222 rfl (lv_at hl 2 rfl) ?_
  refine lv_aload_n hx hb dL_law_1223 rfl (lv_at hl 0 rfl) ?_
  refine lv_iload hx hb dL_law_1224 (lv_at hl 4 rfl) ?_
  refine lv_iconst (v := 1) hx hb dL_law_1226 (by decide) ?_
  refine lv_iadd hx hb dL_law_1227 ?_
  refine va_sld hx hb hX hbl hbA hS (law_in (k := 1) rfl h6 hL (by decide)) dL_law_1228 ?_
  refine lv_aload_n hx hb dL_law_1229 rfl (lv_at hl 0 rfl) ?_
  refine lv_iload hx hb dL_law_1230 (lv_at hl 4 rfl) ?_
  refine lv_iconst (v := 2) hx hb dL_law_1232 (by decide) ?_
  refine lv_iadd hx hb dL_law_1233 ?_
  refine va_sld hx hb hX hbl hbA hS (law_in (k := 2) rfl h6 hL (by decide)) dL_law_1234 ?_
  refine lw_call (L1 := wd cy ad3 (fZH oc hc).2) Cx0 G (fun q h => h) cmX12_stand (run_V (X := XLaw meth.name) rfl clX12 yoX12_stand rfl tw_1994 tw_1995 tw_1996 ⟨Nat.le_of_ble_eq_true rfl, Nat.le_of_ble_eq_true rfl⟩ dL_law_1235) [.ref 0, .int (xs (nI (6 * i) + 1).toNatClampNeg), .int (xs (nI (6 * i) + 2).toNatClampNeg)] [.int v] q2 rfl k2 (Nat.le_of_ble_eq_true rfl) hl.1 n2 ha2 hP hD hS (by show cells + 0 + 0 ≤ 601024; omega) (by show slots + 0 + 0 ≤ 7293034; omega) (fun ad4 H locs g4 g5 g6 ha4 hP hD hS => ?_)
  rw [hv2]
  show W p l e room_1 s m _ below meth c H locs _ _ _ (F0 m 1238 ls [.int v, .int v])
  refine lv_icmp_eq (tgt := 1439) hx hb dL_law_1238 (by decide) (fun _ => ?_) (fun hne => absurd rfl hne)
  obtain ⟨ad5, g7, g8, g9, hP, hD⟩ := va_ren (L1 := []) hR1 hP hD
  obtain ⟨ad6, g10, g11, g12, hP, hD⟩ := va_ren (L1 := wd cy ad5 hc2) hR2 hP hD
  have e1 : ad5 0 = ad1 0 := g8.trans (g3 0 (Or.inl z1))
  have e2 : ad6 0 = ad2 0 := g11.trans (g6 0 (Or.inl z2))
  rw [← e1, ← e2] at hl
  exact law_next C0 hN hI2 (fun n hn => (g9 n hn).trans (ha3 n hn)) (fun n hn => (g12 n hn).trans (ha4 n hn)) hP hD hS (by omega) (by omega) hl
set_option maxRecDepth 20000 in
set_option maxHeartbeats 4000000 in
theorem law_op_39 (hI0 : InvOK Inv) (C0 : lw_At p s m meth c b L xs) (hL : L ≤ 3072) (G : GS D cy (AL s) adS s s.heap) {i : Nat} (h6 : 6 * i + 6 ≤ L) (hN : HD Inv p l e s m below meth c b D cy adS (i + 1)) {hc hm : HP} {ad1 ad2 : Nat → Nat} {qo : Nat} {fo : Nat → Int64} {H : Heap} {locs : List Loc} {cells slots : Nat} {ls : Array Slot} (hI : Inv hc hm) (ha1 : ∀ n, 2000 ≤ n → ad1 n = adS n) (ha2 : ∀ n, 2000 ≤ n → ad2 n = adS n) (hP : va_P D vwCl (wd cy ad1 hc ++ (wd cy ad2 hm ++ wO cy qo fo)) H) (hD : va_D (AL s) (wd cy ad1 hc ++ (wd cy ad2 hm ++ wO cy qo fo))) (hS : va_S (AL s) s.heap H locs) (hcl : cells ≤ 1000 + 100 * i) (hsl : slots ≤ 100000 + 1000 * i) (hl : lv_has ls 7 [(0, .ref b), (1, .ref (ad1 0)), (2, .ref (ad2 0)), (3, .ref qo), (4, .int (nI (6 * i)))]) (St : Step Inv EX10_week fIH EX12_week fIH []) : W p l e room_1 s m #[Value.ref b] below meth c H locs cells slots (lw_Z below #[Value.ref b] s) (F0 m 1243 ls []) := by
  have Cx0 := lw_Cx C0
  obtain ⟨hx, hb, hr, hml, hown, hts, hX, hbl, hlocks, hgv⟩ := id C0
  have hbA : ¬ (AL s) b := Nat.not_le.mpr hbl
  obtain ⟨oc, om, q1, q2, ⟨v, hv1, hv2⟩, hc2, hm2, hR1, hR2, hI2⟩ := St hc hm hI
  obtain ⟨k1, k2, n1, n2⟩ := hI0 hc hm hI
  have z1 : 0 < hc.length := by
    obtain ⟨b0, As, fs, h1, h2⟩ := recv_inv (ci := 10) rfl k1
    cases h1
    exact (List.getElem?_eq_some_iff.mp h2).1
  have z2 : 0 < hm.length := by
    obtain ⟨b0, As, fs, h1, h2⟩ := recv_inv (ci := 12) rfl k2
    cases h1
    exact (List.getElem?_eq_some_iff.mp h2).1
  refine lv_aload_n hx hb dL_law_1243 rfl (lv_at hl 1 rfl) ?_
  refine lw_call (L1 := []) Cx0 G (fun q h => h) cmX10_week (run_V (X := XLaw meth.name) rfl clX10 yoX10_week rfl tw_1127 tw_1128 tw_1129 ⟨Nat.le_of_ble_eq_true rfl, Nat.le_of_ble_eq_true rfl⟩ dL_law_1244) [.ref 0] [] q1 rfl k1 (Nat.le_of_ble_eq_true rfl) hl.1 n1 ha1 hP hD hS (by show cells + 0 ≤ 601024; omega) (by show slots + 0 ≤ 7293034; omega) (fun ad3 H locs g1 g2 g3 ha3 hP hD hS => ?_)
  rw [hv1]
  show W p l e room_1 s m _ below meth c H locs _ _ _ (F0 m 1247 ls [.int v])
  refine lv_aload_n hx hb dL_law_1247 rfl (lv_at hl 2 rfl) ?_
  refine lw_call (L1 := wd cy ad3 (fIH oc hc).2) Cx0 G (fun q h => h) cmX12_week (run_V (X := XLaw meth.name) rfl clX12 yoX12_week rfl tw_1998 tw_1999 tw_2000 ⟨Nat.le_of_ble_eq_true rfl, Nat.le_of_ble_eq_true rfl⟩ dL_law_1248) [.ref 0] [.int v] q2 rfl k2 (Nat.le_of_ble_eq_true rfl) hl.1 n2 ha2 hP hD hS (by show cells + 0 + 0 ≤ 601024; omega) (by show slots + 0 + 0 ≤ 7293034; omega) (fun ad4 H locs g4 g5 g6 ha4 hP hD hS => ?_)
  rw [hv2]
  show W p l e room_1 s m _ below meth c H locs _ _ _ (F0 m 1251 ls [.int v, .int v])
  refine lv_icmp_eq (tgt := 1439) hx hb dL_law_1251 (by decide) (fun _ => ?_) (fun hne => absurd rfl hne)
  obtain ⟨ad5, g7, g8, g9, hP, hD⟩ := va_ren (L1 := []) hR1 hP hD
  obtain ⟨ad6, g10, g11, g12, hP, hD⟩ := va_ren (L1 := wd cy ad5 hc2) hR2 hP hD
  have e1 : ad5 0 = ad1 0 := g8.trans (g3 0 (Or.inl z1))
  have e2 : ad6 0 = ad2 0 := g11.trans (g6 0 (Or.inl z2))
  rw [← e1, ← e2] at hl
  exact law_next C0 hN hI2 (fun n hn => (g9 n hn).trans (ha3 n hn)) (fun n hn => (g12 n hn).trans (ha4 n hn)) hP hD hS (by omega) (by omega) hl
set_option maxRecDepth 20000 in
set_option maxHeartbeats 4000000 in
theorem law_op_40 (hI0 : InvOK Inv) (C0 : lw_At p s m meth c b L xs) (hL : L ≤ 3072) (G : GS D cy (AL s) adS s s.heap) {i : Nat} (h6 : 6 * i + 6 ≤ L) (hN : HD Inv p l e s m below meth c b D cy adS (i + 1)) {hc hm : HP} {ad1 ad2 : Nat → Nat} {qo : Nat} {fo : Nat → Int64} {H : Heap} {locs : List Loc} {cells slots : Nat} {ls : Array Slot} (hI : Inv hc hm) (ha1 : ∀ n, 2000 ≤ n → ad1 n = adS n) (ha2 : ∀ n, 2000 ≤ n → ad2 n = adS n) (hP : va_P D vwCl (wd cy ad1 hc ++ (wd cy ad2 hm ++ wO cy qo fo)) H) (hD : va_D (AL s) (wd cy ad1 hc ++ (wd cy ad2 hm ++ wO cy qo fo))) (hS : va_S (AL s) s.heap H locs) (hcl : cells ≤ 1000 + 100 * i) (hsl : slots ≤ 100000 + 1000 * i) (hl : lv_has ls 7 [(0, .ref b), (1, .ref (ad1 0)), (2, .ref (ad2 0)), (3, .ref qo), (4, .int (nI (6 * i)))]) (St : Step Inv EX10_thin fIH EX12_thin fIH []) : W p l e room_1 s m #[Value.ref b] below meth c H locs cells slots (lw_Z below #[Value.ref b] s) (F0 m 1256 ls []) := by
  have Cx0 := lw_Cx C0
  obtain ⟨hx, hb, hr, hml, hown, hts, hX, hbl, hlocks, hgv⟩ := id C0
  have hbA : ¬ (AL s) b := Nat.not_le.mpr hbl
  obtain ⟨oc, om, q1, q2, ⟨v, hv1, hv2⟩, hc2, hm2, hR1, hR2, hI2⟩ := St hc hm hI
  obtain ⟨k1, k2, n1, n2⟩ := hI0 hc hm hI
  have z1 : 0 < hc.length := by
    obtain ⟨b0, As, fs, h1, h2⟩ := recv_inv (ci := 10) rfl k1
    cases h1
    exact (List.getElem?_eq_some_iff.mp h2).1
  have z2 : 0 < hm.length := by
    obtain ⟨b0, As, fs, h1, h2⟩ := recv_inv (ci := 12) rfl k2
    cases h1
    exact (List.getElem?_eq_some_iff.mp h2).1
  refine lv_aload_n hx hb dL_law_1256 rfl (lv_at hl 1 rfl) ?_
  refine lw_call (L1 := []) Cx0 G (fun q h => h) cmX10_thin (run_V (X := XLaw meth.name) rfl clX10 yoX10_thin rfl tw_1131 tw_1132 tw_1133 ⟨Nat.le_of_ble_eq_true rfl, Nat.le_of_ble_eq_true rfl⟩ dL_law_1257) [.ref 0] [] q1 rfl k1 (Nat.le_of_ble_eq_true rfl) hl.1 n1 ha1 hP hD hS (by show cells + 0 ≤ 601024; omega) (by show slots + 0 ≤ 7293034; omega) (fun ad3 H locs g1 g2 g3 ha3 hP hD hS => ?_)
  rw [hv1]
  show W p l e room_1 s m _ below meth c H locs _ _ _ (F0 m 1260 ls [.int v])
  refine lv_aload_n hx hb dL_law_1260 rfl (lv_at hl 2 rfl) ?_
  refine lw_call (L1 := wd cy ad3 (fIH oc hc).2) Cx0 G (fun q h => h) cmX12_thin (run_V (X := XLaw meth.name) rfl clX12 yoX12_thin rfl tw_2002 tw_2003 tw_2004 ⟨Nat.le_of_ble_eq_true rfl, Nat.le_of_ble_eq_true rfl⟩ dL_law_1261) [.ref 0] [.int v] q2 rfl k2 (Nat.le_of_ble_eq_true rfl) hl.1 n2 ha2 hP hD hS (by show cells + 0 + 0 ≤ 601024; omega) (by show slots + 0 + 0 ≤ 7293034; omega) (fun ad4 H locs g4 g5 g6 ha4 hP hD hS => ?_)
  rw [hv2]
  show W p l e room_1 s m _ below meth c H locs _ _ _ (F0 m 1264 ls [.int v, .int v])
  refine lv_icmp_eq (tgt := 1439) hx hb dL_law_1264 (by decide) (fun _ => ?_) (fun hne => absurd rfl hne)
  obtain ⟨ad5, g7, g8, g9, hP, hD⟩ := va_ren (L1 := []) hR1 hP hD
  obtain ⟨ad6, g10, g11, g12, hP, hD⟩ := va_ren (L1 := wd cy ad5 hc2) hR2 hP hD
  have e1 : ad5 0 = ad1 0 := g8.trans (g3 0 (Or.inl z1))
  have e2 : ad6 0 = ad2 0 := g11.trans (g6 0 (Or.inl z2))
  rw [← e1, ← e2] at hl
  exact law_next C0 hN hI2 (fun n hn => (g9 n hn).trans (ha3 n hn)) (fun n hn => (g12 n hn).trans (ha4 n hn)) hP hD hS (by omega) (by omega) hl
set_option maxRecDepth 20000 in
set_option maxHeartbeats 4000000 in
theorem law_op_41 (hI0 : InvOK Inv) (C0 : lw_At p s m meth c b L xs) (hL : L ≤ 3072) (G : GS D cy (AL s) adS s s.heap) {i : Nat} (h6 : 6 * i + 6 ≤ L) (hN : HD Inv p l e s m below meth c b D cy adS (i + 1)) {hc hm : HP} {ad1 ad2 : Nat → Nat} {qo : Nat} {fo : Nat → Int64} {H : Heap} {locs : List Loc} {cells slots : Nat} {ls : Array Slot} (hI : Inv hc hm) (ha1 : ∀ n, 2000 ≤ n → ad1 n = adS n) (ha2 : ∀ n, 2000 ≤ n → ad2 n = adS n) (hP : va_P D vwCl (wd cy ad1 hc ++ (wd cy ad2 hm ++ wO cy qo fo)) H) (hD : va_D (AL s) (wd cy ad1 hc ++ (wd cy ad2 hm ++ wO cy qo fo))) (hS : va_S (AL s) s.heap H locs) (hcl : cells ≤ 1000 + 100 * i) (hsl : slots ≤ 100000 + 1000 * i) (hl : lv_has ls 7 [(0, .ref b), (1, .ref (ad1 0)), (2, .ref (ad2 0)), (3, .ref qo), (4, .int (nI (6 * i)))]) (St : Step Inv EX10_seed fZH EX12_seed fZH [.int (xs (nI (6 * i) + 1).toNatClampNeg)]) : W p l e room_1 s m #[Value.ref b] below meth c H locs cells slots (lw_Z below #[Value.ref b] s) (F0 m 1269 ls []) := by
  have Cx0 := lw_Cx C0
  obtain ⟨hx, hb, hr, hml, hown, hts, hX, hbl, hlocks, hgv⟩ := id C0
  have hbA : ¬ (AL s) b := Nat.not_le.mpr hbl
  obtain ⟨oc, om, q1, q2, ⟨v, hv1, hv2⟩, hc2, hm2, hR1, hR2, hI2⟩ := St hc hm hI
  obtain ⟨k1, k2, n1, n2⟩ := hI0 hc hm hI
  have z1 : 0 < hc.length := by
    obtain ⟨b0, As, fs, h1, h2⟩ := recv_inv (ci := 10) rfl k1
    cases h1
    exact (List.getElem?_eq_some_iff.mp h2).1
  have z2 : 0 < hm.length := by
    obtain ⟨b0, As, fs, h1, h2⟩ := recv_inv (ci := 12) rfl k2
    cases h1
    exact (List.getElem?_eq_some_iff.mp h2).1
  refine lv_aload_n hx hb dL_law_1269 rfl (lv_at hl 1 rfl) ?_
  refine lv_aload_n hx hb dL_law_1270 rfl (lv_at hl 0 rfl) ?_
  refine lv_iload hx hb dL_law_1271 (lv_at hl 4 rfl) ?_
  refine lv_iconst (v := 1) hx hb dL_law_1273 (by decide) ?_
  refine lv_iadd hx hb dL_law_1274 ?_
  refine va_sld hx hb hX hbl hbA hS (law_in (k := 1) rfl h6 hL (by decide)) dL_law_1275 ?_
  refine lw_call (L1 := []) Cx0 G (fun q h => h) cmX10_seed (run_V (X := XLaw meth.name) rfl clX10 yoX10_seed rfl tw_1140 tw_1141 tw_1142 ⟨Nat.le_of_ble_eq_true rfl, Nat.le_of_ble_eq_true rfl⟩ dL_law_1276) [.ref 0, .int (xs (nI (6 * i) + 1).toNatClampNeg)] [] q1 rfl k1 (Nat.le_of_ble_eq_true rfl) hl.1 n1 ha1 hP hD hS (by show cells + 0 ≤ 601024; omega) (by show slots + 0 ≤ 7293034; omega) (fun ad3 H locs g1 g2 g3 ha3 hP hD hS => ?_)
  rw [hv1]
  show W p l e room_1 s m _ below meth c H locs _ _ _ (F0 m 1279 ls [.int v])
  refine lv_aload_n hx hb dL_law_1279 rfl (lv_at hl 2 rfl) ?_
  refine lv_aload_n hx hb dL_law_1280 rfl (lv_at hl 0 rfl) ?_
  refine lv_iload hx hb dL_law_1281 (lv_at hl 4 rfl) ?_
  refine lv_iconst (v := 1) hx hb dL_law_1283 (by decide) ?_
  refine lv_iadd hx hb dL_law_1284 ?_
  refine va_sld hx hb hX hbl hbA hS (law_in (k := 1) rfl h6 hL (by decide)) dL_law_1285 ?_
  refine lw_call (L1 := wd cy ad3 (fZH oc hc).2) Cx0 G (fun q h => h) cmX12_seed (run_V (X := XLaw meth.name) rfl clX12 yoX12_seed rfl tw_2006 tw_2007 tw_2008 ⟨Nat.le_of_ble_eq_true rfl, Nat.le_of_ble_eq_true rfl⟩ dL_law_1286) [.ref 0, .int (xs (nI (6 * i) + 1).toNatClampNeg)] [.int v] q2 rfl k2 (Nat.le_of_ble_eq_true rfl) hl.1 n2 ha2 hP hD hS (by show cells + 0 + 0 ≤ 601024; omega) (by show slots + 0 + 0 ≤ 7293034; omega) (fun ad4 H locs g4 g5 g6 ha4 hP hD hS => ?_)
  rw [hv2]
  show W p l e room_1 s m _ below meth c H locs _ _ _ (F0 m 1289 ls [.int v, .int v])
  refine lv_icmp_eq (tgt := 1439) hx hb dL_law_1289 (by decide) (fun _ => ?_) (fun hne => absurd rfl hne)
  obtain ⟨ad5, g7, g8, g9, hP, hD⟩ := va_ren (L1 := []) hR1 hP hD
  obtain ⟨ad6, g10, g11, g12, hP, hD⟩ := va_ren (L1 := wd cy ad5 hc2) hR2 hP hD
  have e1 : ad5 0 = ad1 0 := g8.trans (g3 0 (Or.inl z1))
  have e2 : ad6 0 = ad2 0 := g11.trans (g6 0 (Or.inl z2))
  rw [← e1, ← e2] at hl
  exact law_next C0 hN hI2 (fun n hn => (g9 n hn).trans (ha3 n hn)) (fun n hn => (g12 n hn).trans (ha4 n hn)) hP hD hS (by omega) (by omega) hl
set_option maxRecDepth 20000 in
set_option maxHeartbeats 4000000 in
theorem law_op_42 (hI0 : InvOK Inv) (C0 : lw_At p s m meth c b L xs) (hL : L ≤ 3072) (G : GS D cy (AL s) adS s s.heap) {i : Nat} (h6 : 6 * i + 6 ≤ L) (hN : HD Inv p l e s m below meth c b D cy adS (i + 1)) {hc hm : HP} {ad1 ad2 : Nat → Nat} {qo : Nat} {fo : Nat → Int64} {H : Heap} {locs : List Loc} {cells slots : Nat} {ls : Array Slot} (hI : Inv hc hm) (ha1 : ∀ n, 2000 ≤ n → ad1 n = adS n) (ha2 : ∀ n, 2000 ≤ n → ad2 n = adS n) (hP : va_P D vwCl (wd cy ad1 hc ++ (wd cy ad2 hm ++ wO cy qo fo)) H) (hD : va_D (AL s) (wd cy ad1 hc ++ (wd cy ad2 hm ++ wO cy qo fo))) (hS : va_S (AL s) s.heap H locs) (hcl : cells ≤ 1000 + 100 * i) (hsl : slots ≤ 100000 + 1000 * i) (hl : lv_has ls 7 [(0, .ref b), (1, .ref (ad1 0)), (2, .ref (ad2 0)), (3, .ref qo), (4, .int (nI (6 * i)))]) (St : Step Inv EX10_undo fZH EX12_undo fZH []) : W p l e room_1 s m #[Value.ref b] below meth c H locs cells slots (lw_Z below #[Value.ref b] s) (F0 m 1294 ls []) := by
  have Cx0 := lw_Cx C0
  obtain ⟨hx, hb, hr, hml, hown, hts, hX, hbl, hlocks, hgv⟩ := id C0
  have hbA : ¬ (AL s) b := Nat.not_le.mpr hbl
  obtain ⟨oc, om, q1, q2, ⟨v, hv1, hv2⟩, hc2, hm2, hR1, hR2, hI2⟩ := St hc hm hI
  obtain ⟨k1, k2, n1, n2⟩ := hI0 hc hm hI
  have z1 : 0 < hc.length := by
    obtain ⟨b0, As, fs, h1, h2⟩ := recv_inv (ci := 10) rfl k1
    cases h1
    exact (List.getElem?_eq_some_iff.mp h2).1
  have z2 : 0 < hm.length := by
    obtain ⟨b0, As, fs, h1, h2⟩ := recv_inv (ci := 12) rfl k2
    cases h1
    exact (List.getElem?_eq_some_iff.mp h2).1
  refine lv_aload_n hx hb dL_law_1294 rfl (lv_at hl 1 rfl) ?_
  refine lw_call (L1 := []) Cx0 G (fun q h => h) cmX10_undo (run_V (X := XLaw meth.name) rfl clX10 yoX10_undo rfl tw_1144 tw_1145 tw_1146 ⟨Nat.le_of_ble_eq_true rfl, Nat.le_of_ble_eq_true rfl⟩ dL_law_1295) [.ref 0] [] q1 rfl k1 (Nat.le_of_ble_eq_true rfl) hl.1 n1 ha1 hP hD hS (by show cells + 0 ≤ 601024; omega) (by show slots + 0 ≤ 7293034; omega) (fun ad3 H locs g1 g2 g3 ha3 hP hD hS => ?_)
  rw [hv1]
  show W p l e room_1 s m _ below meth c H locs _ _ _ (F0 m 1298 ls [.int v])
  refine lv_aload_n hx hb dL_law_1298 rfl (lv_at hl 2 rfl) ?_
  refine lw_call (L1 := wd cy ad3 (fZH oc hc).2) Cx0 G (fun q h => h) cmX12_undo (run_V (X := XLaw meth.name) rfl clX12 yoX12_undo rfl tw_2011 tw_2012 tw_2013 ⟨Nat.le_of_ble_eq_true rfl, Nat.le_of_ble_eq_true rfl⟩ dL_law_1299) [.ref 0] [.int v] q2 rfl k2 (Nat.le_of_ble_eq_true rfl) hl.1 n2 ha2 hP hD hS (by show cells + 0 + 0 ≤ 601024; omega) (by show slots + 0 + 0 ≤ 7293034; omega) (fun ad4 H locs g4 g5 g6 ha4 hP hD hS => ?_)
  rw [hv2]
  show W p l e room_1 s m _ below meth c H locs _ _ _ (F0 m 1302 ls [.int v, .int v])
  refine lv_icmp_eq (tgt := 1439) hx hb dL_law_1302 (by decide) (fun _ => ?_) (fun hne => absurd rfl hne)
  obtain ⟨ad5, g7, g8, g9, hP, hD⟩ := va_ren (L1 := []) hR1 hP hD
  obtain ⟨ad6, g10, g11, g12, hP, hD⟩ := va_ren (L1 := wd cy ad5 hc2) hR2 hP hD
  have e1 : ad5 0 = ad1 0 := g8.trans (g3 0 (Or.inl z1))
  have e2 : ad6 0 = ad2 0 := g11.trans (g6 0 (Or.inl z2))
  rw [← e1, ← e2] at hl
  exact law_next C0 hN hI2 (fun n hn => (g9 n hn).trans (ha3 n hn)) (fun n hn => (g12 n hn).trans (ha4 n hn)) hP hD hS (by omega) (by omega) hl
set_option maxRecDepth 20000 in
set_option maxHeartbeats 4000000 in
theorem law_op_43 (hI0 : InvOK Inv) (C0 : lw_At p s m meth c b L xs) (hL : L ≤ 3072) (G : GS D cy (AL s) adS s s.heap) {i : Nat} (h6 : 6 * i + 6 ≤ L) (hN : HD Inv p l e s m below meth c b D cy adS (i + 1)) {hc hm : HP} {ad1 ad2 : Nat → Nat} {qo : Nat} {fo : Nat → Int64} {H : Heap} {locs : List Loc} {cells slots : Nat} {ls : Array Slot} (hI : Inv hc hm) (ha1 : ∀ n, 2000 ≤ n → ad1 n = adS n) (ha2 : ∀ n, 2000 ≤ n → ad2 n = adS n) (hP : va_P D vwCl (wd cy ad1 hc ++ (wd cy ad2 hm ++ wO cy qo fo)) H) (hD : va_D (AL s) (wd cy ad1 hc ++ (wd cy ad2 hm ++ wO cy qo fo))) (hS : va_S (AL s) s.heap H locs) (hcl : cells ≤ 1000 + 100 * i) (hsl : slots ≤ 100000 + 1000 * i) (hl : lv_has ls 7 [(0, .ref b), (1, .ref (ad1 0)), (2, .ref (ad2 0)), (3, .ref qo), (4, .int (nI (6 * i)))]) (St : Step Inv EX10_mark fIH EX12_mark fIH []) : W p l e room_1 s m #[Value.ref b] below meth c H locs cells slots (lw_Z below #[Value.ref b] s) (F0 m 1307 ls []) := by
  have Cx0 := lw_Cx C0
  obtain ⟨hx, hb, hr, hml, hown, hts, hX, hbl, hlocks, hgv⟩ := id C0
  have hbA : ¬ (AL s) b := Nat.not_le.mpr hbl
  obtain ⟨oc, om, q1, q2, ⟨v, hv1, hv2⟩, hc2, hm2, hR1, hR2, hI2⟩ := St hc hm hI
  obtain ⟨k1, k2, n1, n2⟩ := hI0 hc hm hI
  have z1 : 0 < hc.length := by
    obtain ⟨b0, As, fs, h1, h2⟩ := recv_inv (ci := 10) rfl k1
    cases h1
    exact (List.getElem?_eq_some_iff.mp h2).1
  have z2 : 0 < hm.length := by
    obtain ⟨b0, As, fs, h1, h2⟩ := recv_inv (ci := 12) rfl k2
    cases h1
    exact (List.getElem?_eq_some_iff.mp h2).1
  refine lv_aload_n hx hb dL_law_1307 rfl (lv_at hl 1 rfl) ?_
  refine lw_call (L1 := []) Cx0 G (fun q h => h) cmX10_mark (run_V (X := XLaw meth.name) rfl clX10 yoX10_mark rfl tw_1164 tw_1165 tw_1166 ⟨Nat.le_of_ble_eq_true rfl, Nat.le_of_ble_eq_true rfl⟩ dL_law_1308) [.ref 0] [] q1 rfl k1 (Nat.le_of_ble_eq_true rfl) hl.1 n1 ha1 hP hD hS (by show cells + 0 ≤ 601024; omega) (by show slots + 0 ≤ 7293034; omega) (fun ad3 H locs g1 g2 g3 ha3 hP hD hS => ?_)
  rw [hv1]
  show W p l e room_1 s m _ below meth c H locs _ _ _ (F0 m 1311 ls [.int v])
  refine lv_aload_n hx hb dL_law_1311 rfl (lv_at hl 2 rfl) ?_
  refine lw_call (L1 := wd cy ad3 (fIH oc hc).2) Cx0 G (fun q h => h) cmX12_mark (run_V (X := XLaw meth.name) rfl clX12 yoX12_mark rfl tw_2015 tw_2016 tw_2017 ⟨Nat.le_of_ble_eq_true rfl, Nat.le_of_ble_eq_true rfl⟩ dL_law_1312) [.ref 0] [.int v] q2 rfl k2 (Nat.le_of_ble_eq_true rfl) hl.1 n2 ha2 hP hD hS (by show cells + 0 + 0 ≤ 601024; omega) (by show slots + 0 + 0 ≤ 7293034; omega) (fun ad4 H locs g4 g5 g6 ha4 hP hD hS => ?_)
  rw [hv2]
  show W p l e room_1 s m _ below meth c H locs _ _ _ (F0 m 1315 ls [.int v, .int v])
  refine lv_icmp_eq (tgt := 1439) hx hb dL_law_1315 (by decide) (fun _ => ?_) (fun hne => absurd rfl hne)
  obtain ⟨ad5, g7, g8, g9, hP, hD⟩ := va_ren (L1 := []) hR1 hP hD
  obtain ⟨ad6, g10, g11, g12, hP, hD⟩ := va_ren (L1 := wd cy ad5 hc2) hR2 hP hD
  have e1 : ad5 0 = ad1 0 := g8.trans (g3 0 (Or.inl z1))
  have e2 : ad6 0 = ad2 0 := g11.trans (g6 0 (Or.inl z2))
  rw [← e1, ← e2] at hl
  exact law_next C0 hN hI2 (fun n hn => (g9 n hn).trans (ha3 n hn)) (fun n hn => (g12 n hn).trans (ha4 n hn)) hP hD hS (by omega) (by omega) hl
set_option maxRecDepth 20000 in
set_option maxHeartbeats 4000000 in
theorem law_op_44 (hI0 : InvOK Inv) (C0 : lw_At p s m meth c b L xs) (hL : L ≤ 3072) (G : GS D cy (AL s) adS s s.heap) {i : Nat} (h6 : 6 * i + 6 ≤ L) (hN : HD Inv p l e s m below meth c b D cy adS (i + 1)) {hc hm : HP} {ad1 ad2 : Nat → Nat} {qo : Nat} {fo : Nat → Int64} {H : Heap} {locs : List Loc} {cells slots : Nat} {ls : Array Slot} (hI : Inv hc hm) (ha1 : ∀ n, 2000 ≤ n → ad1 n = adS n) (ha2 : ∀ n, 2000 ≤ n → ad2 n = adS n) (hP : va_P D vwCl (wd cy ad1 hc ++ (wd cy ad2 hm ++ wO cy qo fo)) H) (hD : va_D (AL s) (wd cy ad1 hc ++ (wd cy ad2 hm ++ wO cy qo fo))) (hS : va_S (AL s) s.heap H locs) (hcl : cells ≤ 1000 + 100 * i) (hsl : slots ≤ 100000 + 1000 * i) (hl : lv_has ls 7 [(0, .ref b), (1, .ref (ad1 0)), (2, .ref (ad2 0)), (3, .ref qo), (4, .int (nI (6 * i)))]) (St : Step Inv EX10_back fZH EX12_back fZH [.int (xs (nI (6 * i) + 1).toNatClampNeg)]) : W p l e room_1 s m #[Value.ref b] below meth c H locs cells slots (lw_Z below #[Value.ref b] s) (F0 m 1320 ls []) := by
  have Cx0 := lw_Cx C0
  obtain ⟨hx, hb, hr, hml, hown, hts, hX, hbl, hlocks, hgv⟩ := id C0
  have hbA : ¬ (AL s) b := Nat.not_le.mpr hbl
  obtain ⟨oc, om, q1, q2, ⟨v, hv1, hv2⟩, hc2, hm2, hR1, hR2, hI2⟩ := St hc hm hI
  obtain ⟨k1, k2, n1, n2⟩ := hI0 hc hm hI
  have z1 : 0 < hc.length := by
    obtain ⟨b0, As, fs, h1, h2⟩ := recv_inv (ci := 10) rfl k1
    cases h1
    exact (List.getElem?_eq_some_iff.mp h2).1
  have z2 : 0 < hm.length := by
    obtain ⟨b0, As, fs, h1, h2⟩ := recv_inv (ci := 12) rfl k2
    cases h1
    exact (List.getElem?_eq_some_iff.mp h2).1
  refine lv_aload_n hx hb dL_law_1320 rfl (lv_at hl 1 rfl) ?_
  refine lv_aload_n hx hb dL_law_1321 rfl (lv_at hl 0 rfl) ?_
  refine lv_iload hx hb dL_law_1322 (lv_at hl 4 rfl) ?_
  refine lv_iconst (v := 1) hx hb dL_law_1324 (by decide) ?_
  refine lv_iadd hx hb dL_law_1325 ?_
  refine va_sld hx hb hX hbl hbA hS (law_in (k := 1) rfl h6 hL (by decide)) dL_law_1326 ?_
  refine lw_call (L1 := []) Cx0 G (fun q h => h) cmX10_back (run_V (X := XLaw meth.name) rfl clX10 yoX10_back rfl tw_1172 tw_1173 tw_1174 ⟨Nat.le_of_ble_eq_true rfl, Nat.le_of_ble_eq_true rfl⟩ dL_law_1327) [.ref 0, .int (xs (nI (6 * i) + 1).toNatClampNeg)] [] q1 rfl k1 (Nat.le_of_ble_eq_true rfl) hl.1 n1 ha1 hP hD hS (by show cells + 0 ≤ 601024; omega) (by show slots + 0 ≤ 7293034; omega) (fun ad3 H locs g1 g2 g3 ha3 hP hD hS => ?_)
  rw [hv1]
  show W p l e room_1 s m _ below meth c H locs _ _ _ (F0 m 1330 ls [.int v])
  refine lv_aload_n hx hb dL_law_1330 rfl (lv_at hl 2 rfl) ?_
  refine lv_aload_n hx hb dL_law_1331 rfl (lv_at hl 0 rfl) ?_
  refine lv_iload hx hb dL_law_1332 (lv_at hl 4 rfl) ?_
  refine lv_iconst (v := 1) hx hb dL_law_1334 (by decide) ?_
  refine lv_iadd hx hb dL_law_1335 ?_
  refine va_sld hx hb hX hbl hbA hS (law_in (k := 1) rfl h6 hL (by decide)) dL_law_1336 ?_
  refine lw_call (L1 := wd cy ad3 (fZH oc hc).2) Cx0 G (fun q h => h) cmX12_back (run_V (X := XLaw meth.name) rfl clX12 yoX12_back rfl tw_2019 tw_2020 tw_2021 ⟨Nat.le_of_ble_eq_true rfl, Nat.le_of_ble_eq_true rfl⟩ dL_law_1337) [.ref 0, .int (xs (nI (6 * i) + 1).toNatClampNeg)] [.int v] q2 rfl k2 (Nat.le_of_ble_eq_true rfl) hl.1 n2 ha2 hP hD hS (by show cells + 0 + 0 ≤ 601024; omega) (by show slots + 0 + 0 ≤ 7293034; omega) (fun ad4 H locs g4 g5 g6 ha4 hP hD hS => ?_)
  rw [hv2]
  show W p l e room_1 s m _ below meth c H locs _ _ _ (F0 m 1340 ls [.int v, .int v])
  refine lv_icmp_eq (tgt := 1439) hx hb dL_law_1340 (by decide) (fun _ => ?_) (fun hne => absurd rfl hne)
  obtain ⟨ad5, g7, g8, g9, hP, hD⟩ := va_ren (L1 := []) hR1 hP hD
  obtain ⟨ad6, g10, g11, g12, hP, hD⟩ := va_ren (L1 := wd cy ad5 hc2) hR2 hP hD
  have e1 : ad5 0 = ad1 0 := g8.trans (g3 0 (Or.inl z1))
  have e2 : ad6 0 = ad2 0 := g11.trans (g6 0 (Or.inl z2))
  rw [← e1, ← e2] at hl
  exact law_next C0 hN hI2 (fun n hn => (g9 n hn).trans (ha3 n hn)) (fun n hn => (g12 n hn).trans (ha4 n hn)) hP hD hS (by omega) (by omega) hl
set_option maxRecDepth 20000 in
set_option maxHeartbeats 4000000 in
theorem law_op_46 (hI0 : InvOK Inv) (C0 : lw_At p s m meth c b L xs) (hL : L ≤ 3072) (G : GS D cy (AL s) adS s s.heap) {i : Nat} (h6 : 6 * i + 6 ≤ L) (hN : HD Inv p l e s m below meth c b D cy adS (i + 1)) {hc hm : HP} {ad1 ad2 : Nat → Nat} {qo : Nat} {fo : Nat → Int64} {H : Heap} {locs : List Loc} {cells slots : Nat} {ls : Array Slot} (hI : Inv hc hm) (ha1 : ∀ n, 2000 ≤ n → ad1 n = adS n) (ha2 : ∀ n, 2000 ≤ n → ad2 n = adS n) (hP : va_P D vwCl (wd cy ad1 hc ++ (wd cy ad2 hm ++ wO cy qo fo)) H) (hD : va_D (AL s) (wd cy ad1 hc ++ (wd cy ad2 hm ++ wO cy qo fo))) (hS : va_S (AL s) s.heap H locs) (hcl : cells ≤ 1000 + 100 * i) (hsl : slots ≤ 100000 + 1000 * i) (hl : lv_has ls 7 [(0, .ref b), (1, .ref (ad1 0)), (2, .ref (ad2 0)), (3, .ref qo), (4, .int (nI (6 * i)))]) (St : Step Inv EX10_size fI EX12_size fIH [.int (xs (nI (6 * i) + 1).toNatClampNeg)]) : W p l e room_1 s m #[Value.ref b] below meth c H locs cells slots (lw_Z below #[Value.ref b] s) (F0 m 1401 ls []) := by
  have Cx0 := lw_Cx C0
  obtain ⟨hx, hb, hr, hml, hown, hts, hX, hbl, hlocks, hgv⟩ := id C0
  have hbA : ¬ (AL s) b := Nat.not_le.mpr hbl
  obtain ⟨oc, om, q1, q2, ⟨v, hv1, hv2⟩, hc2, hm2, hR1, hR2, hI2⟩ := St hc hm hI
  obtain ⟨k1, k2, n1, n2⟩ := hI0 hc hm hI
  have z1 : 0 < hc.length := by
    obtain ⟨b0, As, fs, h1, h2⟩ := recv_inv (ci := 10) rfl k1
    cases h1
    exact (List.getElem?_eq_some_iff.mp h2).1
  have z2 : 0 < hm.length := by
    obtain ⟨b0, As, fs, h1, h2⟩ := recv_inv (ci := 12) rfl k2
    cases h1
    exact (List.getElem?_eq_some_iff.mp h2).1
  refine lv_aload_n hx hb dL_law_1401 rfl (lv_at hl 1 rfl) ?_
  refine lv_aload_n hx hb dL_law_1402 rfl (lv_at hl 0 rfl) ?_
  refine lv_iload hx hb dL_law_1403 (lv_at hl 4 rfl) ?_
  refine lv_iconst (v := 1) hx hb dL_law_1405 (by decide) ?_
  refine lv_iadd hx hb dL_law_1406 ?_
  refine va_sld hx hb hX hbl hbA hS (law_in (k := 1) rfl h6 hL (by decide)) dL_law_1407 ?_
  refine lw_call (L1 := []) Cx0 G (fun q h => h) cmX10_size (run_V (X := XLaw meth.name) rfl clX10 yoX10_size rfl tw_1192 tw_1193 tw_1194 ⟨Nat.le_of_ble_eq_true rfl, Nat.le_of_ble_eq_true rfl⟩ dL_law_1408) [.ref 0, .int (xs (nI (6 * i) + 1).toNatClampNeg)] [] q1 rfl k1 (Nat.le_of_ble_eq_true rfl) hl.1 n1 ha1 hP hD hS (by show cells + 0 ≤ 601024; omega) (by show slots + 0 ≤ 7293034; omega) (fun ad3 H locs g1 g2 g3 ha3 hP hD hS => ?_)
  rw [hv1]
  show W p l e room_1 s m _ below meth c H locs _ _ _ (F0 m 1411 ls [.int v])
  refine lv_aload_n hx hb dL_law_1411 rfl (lv_at hl 2 rfl) ?_
  refine lv_aload_n hx hb dL_law_1412 rfl (lv_at hl 0 rfl) ?_
  refine lv_iload hx hb dL_law_1413 (lv_at hl 4 rfl) ?_
  refine lv_iconst (v := 1) hx hb dL_law_1415 (by decide) ?_
  refine lv_iadd hx hb dL_law_1416 ?_
  refine va_sld hx hb hX hbl hbA hS (law_in (k := 1) rfl h6 hL (by decide)) dL_law_1417 ?_
  refine lw_call (L1 := wd cy ad3 (fI oc hc).2) Cx0 G (fun q h => h) cmX12_size (run_V (X := XLaw meth.name) rfl clX12 yoX12_size rfl tw_2027 tw_2028 tw_2029 ⟨Nat.le_of_ble_eq_true rfl, Nat.le_of_ble_eq_true rfl⟩ dL_law_1418) [.ref 0, .int (xs (nI (6 * i) + 1).toNatClampNeg)] [.int v] q2 rfl k2 (Nat.le_of_ble_eq_true rfl) hl.1 n2 ha2 hP hD hS (by show cells + 0 + 0 ≤ 601024; omega) (by show slots + 0 + 0 ≤ 7293034; omega) (fun ad4 H locs g4 g5 g6 ha4 hP hD hS => ?_)
  rw [hv2]
  show W p l e room_1 s m _ below meth c H locs _ _ _ (F0 m 1421 ls [.int v, .int v])
  refine lv_icmp_eq (tgt := 1439) hx hb dL_law_1421 (by decide) (fun _ => ?_) (fun hne => absurd rfl hne)
  obtain ⟨ad5, g7, g8, g9, hP, hD⟩ := va_ren (L1 := []) hR1 hP hD
  obtain ⟨ad6, g10, g11, g12, hP, hD⟩ := va_ren (L1 := wd cy ad5 hc2) hR2 hP hD
  have e1 : ad5 0 = ad1 0 := g8.trans (g3 0 (Or.inl z1))
  have e2 : ad6 0 = ad2 0 := g11.trans (g6 0 (Or.inl z2))
  rw [← e1, ← e2] at hl
  exact law_next C0 hN hI2 (fun n hn => (g9 n hn).trans (ha3 n hn)) (fun n hn => (g12 n hn).trans (ha4 n hn)) hP hD hS (by omega) (by omega) hl
set_option maxRecDepth 20000 in
set_option maxHeartbeats 4000000 in
theorem law_op_47 (hI0 : InvOK Inv) (C0 : lw_At p s m meth c b L xs) (hL : L ≤ 3072) (G : GS D cy (AL s) adS s s.heap) {i : Nat} (h6 : 6 * i + 6 ≤ L) (hN : HD Inv p l e s m below meth c b D cy adS (i + 1)) {hc hm : HP} {ad1 ad2 : Nat → Nat} {qo : Nat} {fo : Nat → Int64} {H : Heap} {locs : List Loc} {cells slots : Nat} {ls : Array Slot} (hI : Inv hc hm) (ha1 : ∀ n, 2000 ≤ n → ad1 n = adS n) (ha2 : ∀ n, 2000 ≤ n → ad2 n = adS n) (hP : va_P D vwCl (wd cy ad1 hc ++ (wd cy ad2 hm ++ wO cy qo fo)) H) (hD : va_D (AL s) (wd cy ad1 hc ++ (wd cy ad2 hm ++ wO cy qo fo))) (hS : va_S (AL s) s.heap H locs) (hcl : cells ≤ 1000 + 100 * i) (hsl : slots ≤ 100000 + 1000 * i) (hl : lv_has ls 7 [(0, .ref b), (1, .ref (ad1 0)), (2, .ref (ad2 0)), (3, .ref qo), (4, .int (nI (6 * i)))]) (St : Step Inv EX10_trouble fI EX12_trouble fIH []) : W p l e room_1 s m #[Value.ref b] below meth c H locs cells slots (lw_Z below #[Value.ref b] s) (F0 m 1426 ls []) := by
  have Cx0 := lw_Cx C0
  obtain ⟨hx, hb, hr, hml, hown, hts, hX, hbl, hlocks, hgv⟩ := id C0
  have hbA : ¬ (AL s) b := Nat.not_le.mpr hbl
  obtain ⟨oc, om, q1, q2, ⟨v, hv1, hv2⟩, hc2, hm2, hR1, hR2, hI2⟩ := St hc hm hI
  obtain ⟨k1, k2, n1, n2⟩ := hI0 hc hm hI
  have z1 : 0 < hc.length := by
    obtain ⟨b0, As, fs, h1, h2⟩ := recv_inv (ci := 10) rfl k1
    cases h1
    exact (List.getElem?_eq_some_iff.mp h2).1
  have z2 : 0 < hm.length := by
    obtain ⟨b0, As, fs, h1, h2⟩ := recv_inv (ci := 12) rfl k2
    cases h1
    exact (List.getElem?_eq_some_iff.mp h2).1
  refine lv_aload_n hx hb dL_law_1426 rfl (lv_at hl 1 rfl) ?_
  refine lw_call (L1 := []) Cx0 G (fun q h => h) cmX10_trouble (run_V (X := XLaw meth.name) rfl clX10 yoX10_trouble rfl tw_1204 tw_1205 tw_1206 ⟨Nat.le_of_ble_eq_true rfl, Nat.le_of_ble_eq_true rfl⟩ dL_law_1427) [.ref 0] [] q1 rfl k1 (Nat.le_of_ble_eq_true rfl) hl.1 n1 ha1 hP hD hS (by show cells + 0 ≤ 601024; omega) (by show slots + 0 ≤ 7293034; omega) (fun ad3 H locs g1 g2 g3 ha3 hP hD hS => ?_)
  rw [hv1]
  show W p l e room_1 s m _ below meth c H locs _ _ _ (F0 m 1430 ls [.int v])
  refine lv_aload_n hx hb dL_law_1430 rfl (lv_at hl 2 rfl) ?_
  refine lw_call (L1 := wd cy ad3 (fI oc hc).2) Cx0 G (fun q h => h) cmX12_trouble (run_V (X := XLaw meth.name) rfl clX12 yoX12_trouble rfl tw_2031 tw_2032 tw_2033 ⟨Nat.le_of_ble_eq_true rfl, Nat.le_of_ble_eq_true rfl⟩ dL_law_1431) [.ref 0] [.int v] q2 rfl k2 (Nat.le_of_ble_eq_true rfl) hl.1 n2 ha2 hP hD hS (by show cells + 0 + 0 ≤ 601024; omega) (by show slots + 0 + 0 ≤ 7293034; omega) (fun ad4 H locs g4 g5 g6 ha4 hP hD hS => ?_)
  rw [hv2]
  show W p l e room_1 s m _ below meth c H locs _ _ _ (F0 m 1434 ls [.int v, .int v])
  refine lv_icmp_eq (tgt := 1439) hx hb dL_law_1434 (by decide) (fun _ => ?_) (fun hne => absurd rfl hne)
  obtain ⟨ad5, g7, g8, g9, hP, hD⟩ := va_ren (L1 := []) hR1 hP hD
  obtain ⟨ad6, g10, g11, g12, hP, hD⟩ := va_ren (L1 := wd cy ad5 hc2) hR2 hP hD
  have e1 : ad5 0 = ad1 0 := g8.trans (g3 0 (Or.inl z1))
  have e2 : ad6 0 = ad2 0 := g11.trans (g6 0 (Or.inl z2))
  rw [← e1, ← e2] at hl
  exact law_next C0 hN hI2 (fun n hn => (g9 n hn).trans (ha3 n hn)) (fun n hn => (g12 n hn).trans (ha4 n hn)) hP hD hS (by omega) (by omega) hl
end
