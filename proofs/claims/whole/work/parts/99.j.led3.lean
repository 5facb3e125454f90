/-! The law's own led: it catches what the class throws. -/
abbrev XL_led : MX := (yL_led, cL_led, 4, (Option.some .int), Cond.codeWith yL_led cL_led 4 (Option.some .int) [(0, 9, 12, 13)] :: WS, { frames := 7, cells := 1, slots := 6, locals := 118 })
abbrev WL (cy ad : Nat → Nat) (hp : HP) (qo : Nat) (fo : Nat → Int64) : va_W := wd cy ad hp ++ wO cy qo fo
def LedR (r : Option Int32) (k : Int32) (f : Nat → Int64) : Prop := match r with
  | some v => k = 0 ∧ f 0 = v.toInt64
  | none => k = 1
abbrev PcL (D : va_G) (cy ad : Nat → Nat) (sz : Nat) (i : Int32) (hp : HP) (qo : Nat) (fo : Nat → Int64) : Array Value → State → Prop := va_Pc [.ref (ad 0), .int i, .ref qo] (fun U => U.heap.size = sz ∧ va_P D vwCl (WL cy ad hp qo fo) U.heap ∧ va_D (fun _ => True) (WL cy ad hp qo fo) ∧ GS D cy (va_A (WL cy ad hp qo fo) sz) ad U U.heap ∧ TH (va_A (WL cy ad hp qo fo) sz) U U.heap)
abbrev QcL (D : va_G) (cy ad : Nat → Nat) (sz : Nat) (hp : HP) (qo : Nat) (fo : Nat → Int64) (r : Option Int32) : Array Value → State → Outcome → State → Prop := fun _ st oc t => ∃ (ad1 : Nat → Nat) (fo1 : Nat → Int64) (k : Int32), (∀ n, (n < hp.length ∨ 2000 ≤ n) → ad1 n = ad n) ∧ oc = .returned (some (.int k)) ∧ LedR r k fo1 ∧ va_P D vwCl (WL cy ad1 hp qo fo1) t.heap ∧ va_D (va_A (WL cy ad hp qo fo) sz) (WL cy ad1 hp qo fo1) ∧ va_F (va_A (WL cy ad hp qo fo) sz) st t
set_option maxRecDepth 20000 in
set_option maxHeartbeats 4000000 in
theorem led_law {l : Launch} (hl : l.stackTraces = false) {D : va_G} {cy ad : Nat → Nat} {sz : Nat} {i : Int32} {hp : HP} {qo : Nat} {fo : Nat → Int64} {r : Option Int32} (h2000 : hp.length ≤ 2000) (hk0 : recvOK (some 10) [.ref 0] hp = true) (hR : (∃ v, EX10_led [.ref 0, .int i] hp = some v ∧ r = some v) ∨ (LedH hp i ∧ r = none)) : Met l yL_led XL_led.2.2.2.2.1 XL_led.2.2.2.2.2 (PcL D cy ad sz i hp qo fo) (QcL D cy ad sz hp qo fo r) 1 6 (va_A (WL cy ad hp qo fo) sz) := by
  refine va_MetW (cc := cL_led) (maxL := 4) (ret := some .int) (hh := [(0, 9, 12, 13)]) (by decide) rfl ?_
  intro p e s m args below meth c s₁ B hml hv
  obtain ⟨rfl, hsz, hP, hD0, G, T⟩ := hv
  subst hsz
  have hts := atoms_spec (ws := XL_led.2.2.2.2.1) B.pre
  have htab := vx_table (x := yL_led) B (hts _ List.mem_cons_self)
  have hown : s.vm.findClass "MownMazeLaw" = some m.cls := findClass_of_methodNamed B.named
  have hws : ∀ w ∈ WS, w.before (#[.ref (ad 0), .int i, .ref qo]) s = true := fun w hm => hts w (List.mem_cons_of_mem _ hm)
  have hx := B.exec
  have hb : c.code = cL_led := B.bytes
  have hl0 := lv_entry ([.ref (ad 0), .int i, .ref qo]) (n := 4) (Nat.le_of_ble_eq_true rfl)
  rw [lg_entry_eq]
  generalize (lg_sl ([.ref (ad 0), .int i, .ref qo]) ++ List.replicate (4 - (lg_sl ([.ref (ad 0), .int i, .ref qo])).length) Slot.unset).toArray = ls at hl0 ⊢
  have hl0 : lv_has ls 4 [(0, .ref (ad 0)), (1, .int i), (2, .ref qo)] := hl0
  have hA0 : ∀ q, va_A (wd cy ad hp) s.heap.size q → va_A (WL cy ad hp qo fo) s.heap.size q := by
    intro q hq
    rcases hq with ⟨k, x, hx⟩ | hq
    · exact Or.inl ⟨k, x, by rw [List.getElem?_append_left (List.getElem?_eq_some_iff.mp hx).1]; exact hx⟩
    · exact Or.inr hq
  have hD : va_D (va_A (WL cy ad hp qo fo) s.heap.size) (WL cy ad hp qo fo) := hD0.self
  have hPp : va_P D vwCl (wd cy ad hp) s.heap := vaP_part (L1 := []) (L2 := wO cy qo fo) hP
  have hDp : va_D (fun _ => True) (wd cy ad hp) := vaD_part (L1 := []) (L2 := wO cy qo fo) hD0
  have hS0 : va_S (va_A (WL cy ad hp qo fo) s.heap.size) s.heap s.heap [] := va_S.rf
  obtain ⟨b0, As0, fs0, h10, he0⟩ := recv_inv (ci := 10) rfl hk0
  cases h10
  have hrec := va_recv G.1 hPp clX10.1 (wd_at 0 he0)
  have hafter : ∀ (ad1 : Nat → Nat) (H1 : Heap) (L : List Loc), s.heap.size ≤ H1.size → (∀ q : Nat, q < s.heap.size → ¬ va_A (wd cy ad hp) s.heap.size q → H1[q]? = s.heap[q]?) → va_P D vwCl (wd cy ad1 hp) H1 → va_D (va_A (wd cy ad hp) s.heap.size) (wd cy ad1 hp) → (∀ q ∈ L, va_A (wd cy ad hp) s.heap.size q.base) → va_P D vwCl (WL cy ad1 hp qo fo) H1 ∧ va_D (va_A (WL cy ad hp qo fo) s.heap.size) (WL cy ad1 hp qo fo) ∧ va_S (va_A (WL cy ad hp qo fo) s.heap.size) s.heap H1 L := by
    intro ad1 H1 L hz hk hP1 hD1 hL
    obtain ⟨a1, a2⟩ := va_mid (L1 := []) (M1 := wd cy ad hp) (M2 := wd cy ad1 hp) (L2 := wO cy qo fo) hP hD hk hA0 hP1 hD1
    exact ⟨a1, a2, hz, fun q h1 h2 => hk q h1 (fun z => h2 (hA0 q z)), fun q hq => hA0 _ (hL q hq)⟩
  refine lv_aload_n hx hb dL_led_0 rfl (lv_at hl0 2 rfl) ?_
  refine lv_iconst (v := 0) hx hb dL_led_1 (by decide) ?_
  refine lv_aload_n hx hb dL_led_2 rfl (lv_at hl0 0 rfl) ?_
  refine lv_iload_n hx hb dL_led_3 rfl (lv_at hl0 1 rfl) ?_
  rcases hR with ⟨v, hf, rfl⟩ | ⟨hH, rfl⟩
  · obtain ⟨y1, y2, y3, y4, y5, y6⟩ := yoX10_led
    have hB := callB_of (R := XL_led.2.2.2.2.2) (own := "MownMazeLaw") (index := 7) (rm := XX10_led.2.2.2.2.2) 1 hws (by rw [y2]; exact ws_good0 y1) y2 y5 y6 (hws _ y3) (hws _ tw_1212) y4 (by decide)
    have hM := cmX10_led l D cy ad s.heap.size [.ref 0, .int i] hp v hf
    have hrun := va_runV (b := ad 0) (As := [.int i]) (rest := [.int 0, .ref qo]) (H := s.heap) (locs := []) (cells := 0) (slots := 0) (meth := meth) (below := below) (e := e) (Ts := WS) ⟨hx, hb, hml, hown, hws⟩ hM ⟨hB, hws _ tw_1213, hws _ tw_1214⟩
      ⟨fun a U g mk q => by
        obtain ⟨q0, q1, q2, q3, q4, q5⟩ := q
        exact ⟨q0, q1, q2, q3, q4, q5.blind⟩, hrec, fun U hU hW => ⟨rfl, by rw [hU], h2000, by rw [hU]; exact hPp, hDp, G.call hS0 hA0 (fun _ _ => rfl) hU hW⟩⟩ (g := F0 m 4 ls [.int i, .ref (ad 0), .int 0, .ref qo]) rfl rfl hl0.1 rfl (lv_room (Nat.le_of_ble_eq_true rfl)) dL_led_4 ⟨by decide, by decide⟩
    intro T0 hT X0
    obtain ⟨w, st₀, t, T', L, h0, X', hL, e1, e2, ⟨ad1, g1, g2, g3, hw, hP1, hD1, hF⟩, stp⟩ := hrun T0 hT X0
    have hw2 : w = some (.int v) := by cases hw; rfl
    subst hw2
    have hz : s.heap.size ≤ T'.heap.size := by rw [e1, ← h0]; exact hF.1
    obtain ⟨hP2, hD2, hS2⟩ := hafter ad1 T'.heap L hz (fun q h1 h2 => by rw [e1, hF.2 q (by rw [h0]; exact h1) h2, h0]) (by rw [e1]; exact hP1) hD1 hL
    have g3 : ∀ n, (n < hp.length ∨ 2000 ≤ n) → ad1 n = ad n := fun n hn => g3 n (by show n < hp.length ∨ hp.length ≤ n; omega)
    have kk : W p l e XL_led.2.2.2.2.2 s m #[.ref (ad 0), .int i, .ref qo] below meth c T'.heap L 0 0 (MQ below (QcL D cy ad s.heap.size hp qo fo (some v)) #[.ref (ad 0), .int i, .ref qo] s 1 6 (va_A (WL cy ad hp qo fo) s.heap.size)) (F0 m 7 ls [.int v, .int 0, .ref qo]) := by
      refine lv_i2l hx hb dL_led_7 rfl ?_
      have hat : (WL cy ad1 hp qo fo)[hp.length]? = some (qo, .inl (cy 2, 1, .inr (.inl fo))) := by
        rw [List.getElem?_append_right (by rw [wd_len]; omega), wd_len, Nat.sub_self]
        rfl
      refine va_last hx hb G.1 hP2 hD2 hS2 hp.length 2 hat rfl (i := 0) (by intro h; rcases h with h | h; exact absurd h (by decide); exact absurd h (by decide)) dL_led_8 (fun H3 locs3 hP3 hD3 hS3 => ?_)
      have hset : (WL cy ad1 hp qo fo).set hp.length (qo, .inl (cy 2, 1, .inr (.inl (vp_updL fo (0 : Int32).toNatClampNeg v.toInt64)))) = WL cy ad1 hp qo (vp_updL fo 0 v.toInt64) := by
        rw [List.set_append_right _ _ (by rw [wd_len]; omega), wd_len, Nat.sub_self]
        rfl
      rw [hset] at hP3 hD3
      refine lv_goto (tgt := 15) hx hb dL_led_9 (by decide) ?_
      refine lv_iconst (v := 0) hx hb dL_led_15 (by decide) ?_
      refine W.widen (k := 1) (n := 6) (by decide) (by decide) ?_
      exact W.iret hx hb B.returns (fun t ht _ => ⟨ad1, vp_updL fo 0 v.toInt64, 0, g3, rfl, ⟨rfl, rfl⟩, by rw [ht]; exact hP3, hD3, hS3.F ht⟩) hS3.2.2 dL_led_16 B.notSynchronized
    obtain ⟨t2, q1, q2⟩ := kk T' rfl X'
    exact ⟨t2, stp t2 q1, q2⟩
  · have hB := callB_of (R := XL_led.2.2.2.2.2) (own := "MownMazeLaw") (index := 7) (rm := XXT_led.2.2.2.2.2) (ws := XXT_led.2.2.2.2.1) (y := yX10_led) (bytes := cX10_led) (maxL := 4) (ret := some .int) 1 hws (ws_good0 tw_1215) rfl rfl rfl (hws _ tw_1) (hws _ tw_1212) (by decide +kernel) (by decide)
    have hM := led_thr hl (D := D) (cy := cy) (ad := ad) (sz := s.heap.size) (i := i) (hp := hp) hH
    have hrun := vx_runV (b := ad 0) (As := [.int i]) (rest := [.int 0, .ref qo]) (H := s.heap) (locs := []) (cells := 0) (slots := 0) (meth := meth) (below := below) (e := e) (Ts := WS) ⟨hx, hb, hml, hown, hws⟩ hM ⟨hB, hws _ tw_1213, hws _ tw_1214⟩
      ⟨fun a U g mk q => by
        obtain ⟨q0, q1, q3, q4, q5, q6⟩ := q
        exact ⟨q0, q1, q3, q4, q5.blind, q6.blind⟩, hrec, fun U hU hW => ⟨rfl, by rw [hU], by rw [hU]; exact hPp, hDp, G.call hS0 hA0 (fun _ _ => rfl) hU hW, T.call hS0 hA0 hU hW⟩⟩ (g := F0 m 4 ls [.int i, .ref (ad 0), .int 0, .ref qo]) rfl rfl hl0.1 rfl (lv_room (Nat.le_of_ble_eq_true rfl)) dL_led_4 ⟨by decide, by decide⟩
    intro T0 hT X0
    rcases hrun T0 hT X0 with ⟨w, st₀, t, T', L, h0, X', hL, e1, e2, hq, stp⟩ | ⟨q, st₀, t, T', L, E, ce, h0, X', hL, e1, e2, ⟨rfl, ad1, g3, hP1, hD1, hF⟩, hce, hcv, hcl, stp⟩
    · exact hq.elim
    · have hz : s.heap.size ≤ T'.heap.size := by rw [e1, ← h0]; exact hF.1
      obtain ⟨hP2, hD2, hS2⟩ := hafter ad1 T'.heap L hz (fun q h1 h2 => by rw [e1, hF.2 q (by rw [h0]; exact h1) h2, h0]) (by rw [e1]; exact hP1) hD1 hL
      have kk : vx_W p l e XL_led.2.2.2.2.2 s m #[.ref (ad 0), .int i, .ref qo] below meth c T'.heap L 1 6 (MQ below (QcL D cy ad s.heap.size hp qo fo none) #[.ref (ad 0), .int i, .ref qo] s 1 6 (va_A (WL cy ad hp qo fo) s.heap.size)) (F0 m 4 ls [.int 0, .ref qo]) q := by
        refine vx_catch (own := "MownMazeLaw") (name := vyNS) (E := vyNS) (ce := ce) hown ⟨0, 9, 12, 13⟩ [] htab (by decide) (by decide) (hws _ tw_1211) (va_Nw.use rfl T.1.2.2.2) (by rw [e1]; exact hce) hcv hcl ?_
        refine lv_astore_n (lv' := [(3, .ref q), (0, .ref (ad 0)), (1, .int i), (2, .ref qo)]) hx hb dL_led_12 rfl hl0 (by decide) rfl (fun ls2 hl2 => ?_)
        refine lv_iconst (v := 1) hx hb dL_led_13 (by decide) ?_
        exact W.iret hx hb B.returns (fun t ht _ => ⟨ad1, fo, 1, g3, rfl, rfl, by rw [ht]; exact hP2, hD2, hS2.F ht⟩) hS2.2.2 dL_led_14 B.notSynchronized
      obtain ⟨t2, q1, q2⟩ := kk T' rfl X'
      exact ⟨t2, stp.trans q1, q2⟩
