/-! led of the class where it throws. -/
def vyD : List Cond := [.declares (Bundle.initS vyRT), .declares (Bundle.initS "java/lang/Exception"), .declares (Bundle.initS Bundle.tN), .castable vyNS vyNS]
def TH (A : Nat → Prop) (U : State) (H : Heap) : Prop := (va_Nw (.declares (Bundle.initS vyRT)) U ∧ va_Nw (.declares (Bundle.initS "java/lang/Exception")) U ∧ va_Nw (.declares (Bundle.initS Bundle.tN)) U ∧ va_Nw (.castable vyNS vyNS) U) ∧ vx_Zq Bundle.tN "UNASSIGNED_STACK" Bundle.steD A U H ∧ vx_Zq Bundle.tN "SUPPRESSED_SENTINEL" Bundle.listD A U H
theorem TH.call {A A1 : Nat → Prop} {s U : State} {H : Heap} {locs : List Loc} (h : TH A s s.heap) (hS : va_S A s.heap H locs) (hA : ∀ q, A1 q → A q) (hU : U.heap = H) (hW : s.WarmedH U.vm) : TH A1 U U.heap := by
  obtain ⟨⟨a1, a2, a3, a4⟩, b1, b2⟩ := h
  refine ⟨⟨va_Nw.warmD hW a1, va_Nw.warmD hW a2, va_Nw.warmD hW a3, va_Nw.warmC hW a4⟩, ?_, ?_⟩
  · rw [hU]; exact vx_Zq.narrow (vx_Zq.moved hW.alike (b1.kept hS.2.1)) hA
  · rw [hU]; exact vx_Zq.narrow (vx_Zq.moved hW.alike (b2.kept hS.2.1)) hA
theorem TH.blind {A : Nat → Prop} {U : State} {g : JFrame} {mk : MethodId} {a : Array Value} (h : TH A U U.heap) : TH A (U.calling g mk a) (U.calling g mk a).heap := by
  have hal : U.vm.Alike (U.calling g mk a).vm := Vm.Alike.refl U.vm
  obtain ⟨⟨a1, a2, a3, a4⟩, b1, b2⟩ := h
  exact ⟨⟨va_Nw.same rfl (rfl : U.vm = (U.calling g mk a).vm) a1, va_Nw.same rfl (rfl : U.vm = (U.calling g mk a).vm) a2, va_Nw.same rfl (rfl : U.vm = (U.calling g mk a).vm) a3, va_Nw.same rfl (rfl : U.vm = (U.calling g mk a).vm) a4⟩, vx_Zq.moved hal b1, vx_Zq.moved hal b2⟩
theorem vy_tb : ∀ w ∈ ((vyA "MownMaze" 337).filter vx_no).filter goodWord, w ∈ tables_1 := by decide +kernel
theorem vy_gd : ∀ w ∈ Cond.classLink "MownMaze" 333 vyNS :: Cond.initialized vyNS :: (vyA "MownMaze" 337).filter vx_no, vx_ot w = true := by decide +kernel
theorem vy_ng : ∀ w ∈ ((vyA "MownMaze" 337).filter vx_no).filter (fun w => !goodWord w), w ∈ vyD := by decide +kernel
theorem vy_at {args : Array Value} {s : State} {A : Nat → Prop} (hws : ∀ w ∈ WS, w.before args s = true) (T : TH A s s.heap) : ∀ w ∈ (vyA "MownMaze" 337).filter vx_no, w.before args s = true := by
  refine vx_hat (fun w hw => hws w (ws_t (vy_tb w hw) (List.mem_filter.mp hw).2)) vy_ng (fun w hw => ?_)
  obtain ⟨⟨a1, a2, a3, a4⟩, _, _⟩ := T
  rcases List.mem_cons.mp hw with rfl | hw
  · exact va_Nw.use rfl a1
  · rcases List.mem_cons.mp hw with rfl | hw
    · exact va_Nw.use rfl a2
    · rcases List.mem_cons.mp hw with rfl | hw
      · exact va_Nw.use rfl a3
      · rcases List.mem_cons.mp hw with rfl | hw
        · exact va_Nw.use rfl a4
        · cases hw
theorem vaP_grow {D : va_G} {cl : List vw_C} {ws : va_W} {H H1 : Heap} (hP : va_P D cl ws H) (h : ∀ q : Nat, q < H.size → H1[q]? = H[q]?) : va_P D cl ws H1 :=
  vaP_iff.mpr (fun q hq => (vaP_iff.mp hP q hq).kept (h _ (vaP_iff.mp hP q hq).lt))
abbrev XXT_led : MX := (yX10_led, cX10_led, 4, (Option.some .int), Cond.code yX10_led cX10_led 4 (Option.some .int) :: WS, { frames := 6, cells := 1, slots := 6, locals := 95 })
abbrev PcT (D : va_G) (cy ad : Nat → Nat) (sz : Nat) (i : Int32) (hp : HP) : Array Value → State → Prop := va_Pc [.ref (ad 0), .int i] (fun U => U.heap.size = sz ∧ va_P D vwCl (wd cy ad hp) U.heap ∧ va_D (fun _ => True) (wd cy ad hp) ∧ GS D cy (va_A (wd cy ad hp) sz) ad U U.heap ∧ TH (va_A (wd cy ad hp) sz) U U.heap)
abbrev XcT (D : va_G) (cy ad : Nat → Nat) (sz : Nat) (hp : HP) : String → State → State → Prop := fun E st t => E = vyNS ∧ ∃ ad1 : Nat → Nat, (∀ n, (n < hp.length ∨ 2000 ≤ n) → ad1 n = ad n) ∧ va_P D vwCl (wd cy ad1 hp) t.heap ∧ va_D (va_A (wd cy ad hp) sz) (wd cy ad1 hp) ∧ va_F (va_A (wd cy ad hp) sz) st t
set_option maxRecDepth 20000 in
set_option maxHeartbeats 4000000 in
theorem led_thr {l : Launch} (hl : l.stackTraces = false) {D : va_G} {cy ad : Nat → Nat} {sz : Nat} {i : Int32} {hp : HP} (hH : LedH hp i) : vx_Met l yX10_led XXT_led.2.2.2.2.1 XXT_led.2.2.2.2.2 (PcT D cy ad sz i hp) (fun _ _ _ _ => False) (XcT D cy ad sz hp) 1 6 (va_A (wd cy ad hp) sz) := by
  obtain ⟨h2000, fs, he0, hcase⟩ := hH
  refine vx_ofW (cc := cX10_led) (maxL := 4) (ret := some .int) (by decide) rfl ?_
  intro p e s m args below meth c s₁ B hml ht hv
  obtain ⟨rfl, hsz, hP, hD0, G, T⟩ := hv
  subst hsz
  have hts := atoms_spec (ws := XXT_led.2.2.2.2.1) B.pre
  have hown : s.vm.findClass "MownMaze" = some m.cls := findClass_of_methodNamed B.named
  have hws : ∀ w ∈ WS, w.before (#[.ref (ad 0), .int i]) s = true := fun w hm => hts w (List.mem_cons_of_mem _ hm)
  have C : Cx XXT_led p s m #[.ref (ad 0), .int i] meth c := ⟨B.exec, B.bytes, B.returns, hml, hown, hws, B.notSynchronized, (name_of_methodNamed B.named B.method).1⟩
  have hx := B.exec
  have hb : c.code = cX10_led := B.bytes
  have hl0 := lv_entry ([.ref (ad 0), .int i]) (n := 4) (Nat.le_of_ble_eq_true rfl)
  rw [lg_entry_eq]
  generalize (lg_sl ([.ref (ad 0), .int i]) ++ List.replicate (4 - (lg_sl ([.ref (ad 0), .int i])).length) Slot.unset).toArray = ls at hl0 ⊢
  have hl0 : lv_has ls 4 [(0, .ref (ad 0)), (1, .int i)] := hl0
  have hAf : ∀ q : Nat, s.heap.size ≤ q → va_A (wd cy ad hp) s.heap.size q := fun _ h => Or.inr h
  have z0 : 0 < hp.length := (List.getElem?_eq_some_iff.mp he0).1
  have thr : ∀ (ad1 : Nat → Nat) (H : Heap) (locs : List Loc) (ls : Array Slot), ls.size = 4 → (∀ n, (n < hp.length ∨ 2000 ≤ n) → ad1 n = ad n) → va_P D vwCl (wd cy ad1 hp) H → va_D (va_A (wd cy ad hp) s.heap.size) (wd cy ad1 hp) → va_S (va_A (wd cy ad hp) s.heap.size) s.heap H locs → W p l e XXT_led.2.2.2.2.2 s m #[.ref (ad 0), .int i] below meth c H locs 0 0 (vx_MQ below (fun _ _ _ _ => False) (XcT D cy ad s.heap.size hp) #[.ref (ad 0), .int i] s 1 6 (va_A (wd cy ad hp) s.heap.size)) (F0 m 46 ls []) := by
    intro ad1 H locs ls hsz had1 hP hD hS
    refine vy_throw (ik := 333) (is := 335) (ic := 337) (text := "there is no such gate") hx hb hl hown (hws _ tw_1216) (hws _ tw_24) (G.2.2.2.2.1 _ sr_MownMaze_335) (vy_at hws T) vy_gd T.2.1 T.2.2 hS (hsz.trans hml.symm) dX10_led_46 dX10_led_49 dX10_led_50 dX10_led_53 dX10_led_56 (fun x hx => (ht x hx).elim) (by decide) (by decide) (by decide) (by decide) B.notSynchronized (fun t hal h1 h2 => ⟨rfl, ad1, had1, vaP_grow hP h2, hD, ⟨Nat.le_trans hS.1 h1, fun q hq hn => ?_⟩⟩) hS.2.2 (by decide) (by decide)
    rw [h2 q (Nat.lt_of_lt_of_le hq hS.1)]
    exact hS.2.1 q hq hn
  have loop : ∀ (gc : Nat) (sn : Nat → Bool) (gs : List Value), fs[9]? = some (.int 1) → fs[7]? = some (.ref 14) → hp[14]? = some (.inr (3, gs)) → gs[11]? = some (.int (nI gc)) → gc ≤ 4 → (∀ g, g < gc → EX10_isGateSeen [.ref 0, .int (nI g)] hp = some (sn g)) → ∀ (d g : Nat) (n : Int32), g + d = gc → ledA sn i d g n = none → ∀ (ad1 : Nat → Nat) (H : Heap) (locs : List Loc) (ls : Array Slot), lv_has ls 4 [(0, .ref (ad1 0)), (1, .int i), (2, .int n), (3, .int (nI g))] → (∀ n, (n < hp.length ∨ 2000 ≤ n) → ad1 n = ad n) → va_P D vwCl (wd cy ad1 hp) H → va_D (va_A (wd cy ad hp) s.heap.size) (wd cy ad1 hp) → va_S (va_A (wd cy ad hp) s.heap.size) s.heap H locs → W p l e XXT_led.2.2.2.2.2 s m #[.ref (ad 0), .int i] below meth c H locs 0 0 (vx_MQ below (fun _ _ _ _ => False) (XcT D cy ad s.heap.size hp) #[.ref (ad 0), .int i] s 1 6 (va_A (wd cy ad hp) s.heap.size)) (F0 m 4 ls []) := by
    intro gc sn gs f9 f7 he14 g11 hgc hsn d
    induction d with
    | zero =>
      intro g n hg hA ad1 H locs ls hl1 hads hP hD hS
      refine lv_aload_n hx hb dX10_led_4 rfl (lv_at hl1 0 rfl) ?_
      refine va_get hx hb hws clX10.2.1 hown G.1 hP 0 (wd_at 0 he0) clX10.1 9 (by decide) (hws _ tw_358) (fun _ h9 => h9) (v := .int 1) (by rw [List.getElem?_map, f9]; rfl) dX10_led_5 ?_
      refine lv_if_eq (tgt := 46) hx hb dX10_led_8 (by decide) (fun h => absurd h (by decide)) (fun _ => ?_)
      refine lv_iload_n hx hb dX10_led_11 rfl (lv_at hl1 3 rfl) ?_
      refine lv_aload_n hx hb dX10_led_12 rfl (lv_at hl1 0 rfl) ?_
      refine va_get hx hb hws clX10.2.1 hown G.1 hP 0 (wd_at 0 he0) clX10.1 7 (by decide) (hws _ tw_356) (fun _ h9 => h9) (v := .ref (ad1 14)) (by rw [List.getElem?_map, f7]; rfl) dX10_led_13 ?_
      refine va_getN hx hb hws clX3.2.1 hown G.1 hP 14 (wd_at 14 he14) clX3.1 11 (by decide) (va_Nw.use rfl (G.2.1 _ nw_34)) (fun _ h9 => h9) (v := .int (nI gc)) (by rw [List.getElem?_map, g11]; rfl) dX10_led_16 ?_
      exact lv_icmp_ge (tgt := 46) hx hb dX10_led_19 (by decide) (fun _ => thr ad1 H locs ls hl1.1 hads hP hD hS) (fun h => absurd (nI_le (by omega) (by omega)) h)
    | succ d ih =>
      intro g n hg hA ad1 H locs ls hl1 hads hP hD hS
      refine lv_aload_n hx hb dX10_led_4 rfl (lv_at hl1 0 rfl) ?_
      refine va_get hx hb hws clX10.2.1 hown G.1 hP 0 (wd_at 0 he0) clX10.1 9 (by decide) (hws _ tw_358) (fun _ h9 => h9) (v := .int 1) (by rw [List.getElem?_map, f9]; rfl) dX10_led_5 ?_
      refine lv_if_eq (tgt := 46) hx hb dX10_led_8 (by decide) (fun h => absurd h (by decide)) (fun _ => ?_)
      refine lv_iload_n hx hb dX10_led_11 rfl (lv_at hl1 3 rfl) ?_
      refine lv_aload_n hx hb dX10_led_12 rfl (lv_at hl1 0 rfl) ?_
      refine va_get hx hb hws clX10.2.1 hown G.1 hP 0 (wd_at 0 he0) clX10.1 7 (by decide) (hws _ tw_356) (fun _ h9 => h9) (v := .ref (ad1 14)) (by rw [List.getElem?_map, f7]; rfl) dX10_led_13 ?_
      refine va_getN hx hb hws clX3.2.1 hown G.1 hP 14 (wd_at 14 he14) clX3.1 11 (by decide) (va_Nw.use rfl (G.2.1 _ nw_34)) (fun _ h9 => h9) (v := .int (nI gc)) (by rw [List.getElem?_map, g11]; rfl) dX10_led_16 ?_
      refine lv_icmp_ge (tgt := 46) hx hb dX10_led_19 (by decide) (fun h => absurd ((nI_leI (by omega) (by omega)).mp h) (by omega)) (fun _ => ?_)
      refine lv_aload_n hx hb dX10_led_22 rfl (lv_at hl1 0 rfl) ?_
      refine lv_iload_n hx hb dX10_led_23 rfl (lv_at hl1 3 rfl) ?_
      have hrc : recvOK (some 10) [.ref 0, .int (nI g)] hp = true := by
        simp [recvOK, he0]
      refine lw_call (L1 := []) (L2 := []) (ad := ad1) C G hAf cmX10_isGateSeen (run_V (X := XXT_led) rfl clX10 yoX10_isGateSeen rfl tw_1052 tw_1054 tw_p41 (by decide) dX10_led_24) [.ref 0, .int (nI g)] [] (hsn g (by omega)) rfl hrc (by decide) hl1.1 h2000 (fun n hn => hads n (Or.inr hn)) (by rw [List.nil_append, List.append_nil]; exact hP) (by rw [List.nil_append, List.append_nil]; exact hD) hS (by decide) (by decide) (fun ad2 H2 locs2 q1 q2 q3 q4 hP2 hD2 hS2 => ?_)
      rw [List.nil_append, List.append_nil] at hP2 hD2
      have hP2 : va_P D vwCl (wd cy ad2 hp) H2 := hP2
      have hD2 : va_D (va_A (wd cy ad hp) s.heap.size) (wd cy ad2 hp) := hD2
      have q3 : ∀ n, (n < hp.length ∨ 2000 ≤ n) → ad2 n = ad1 n := q3
      have hads2 : ∀ n, (n < hp.length ∨ 2000 ≤ n) → ad2 n = ad n := fun n hn => (q3 n hn).trans (hads n hn)
      have e0 : ad1 0 = ad2 0 := (q3 0 (Or.inl z0)).symm
      rw [e0] at hl1
      show W p l e XXT_led.2.2.2.2.2 s m _ below meth c H2 locs2 0 0 _ (F0 m 27 ls [.int (b2i (sn g))])
      unfold ledA at hA
      refine lv_if_ne (tgt := 40) hx hb dX10_led_27 (by decide) (fun h => ?_) (fun h => ?_)
      · have hs : sn g = true := by
          cases hq : sn g with
          | true => rfl
          | false => rw [hq] at h; exact absurd rfl h
        rw [if_pos hs] at hA
        refine lv_iinc (v := nI (g + 1)) (lv' := [(3, .int (nI (g + 1))), (0, .ref (ad2 0)), (1, .int i), (2, .int n)]) hx hb dX10_led_40 hl1 (k := 3) rfl (nI_1 g) (by decide) rfl (fun ls2 hl2 => ?_)
        exact lv_goto (tgt := 4) hx hb dX10_led_43 (by decide) (ih (g + 1) n (by omega) hA ad2 H2 locs2 ls2 (lv_sub hl2 [1, 2, 3, 0] rfl) hads2 hP2 hD2 hS2)
      · have hs : ¬ sn g = true := fun hq => by rw [hq] at h; exact absurd h (by decide)
        rw [if_neg hs] at hA
        refine lv_iload_n hx hb dX10_led_30 rfl (lv_at hl1 2 rfl) ?_
        refine lv_iload_n hx hb dX10_led_31 rfl (lv_at hl1 1 rfl) ?_
        refine lv_icmp_ne (tgt := 37) hx hb dX10_led_32 (by decide) (fun hne => ?_) (fun heq => by rw [if_pos heq] at hA; cases hA)
        rw [if_neg hne] at hA
        refine lv_iinc (v := n + 1) (lv' := [(2, .int (n + 1)), (0, .ref (ad2 0)), (1, .int i), (3, .int (nI g))]) hx hb dX10_led_37 hl1 (k := 2) rfl rfl (by decide) rfl (fun ls2 hl2 => ?_)
        refine lv_iinc (v := nI (g + 1)) (lv' := [(3, .int (nI (g + 1))), (2, .int (n + 1)), (0, .ref (ad2 0)), (1, .int i)]) hx hb dX10_led_40 hl2 (k := 3) rfl (nI_1 g) (by decide) rfl (fun ls3 hl3 => ?_)
        exact lv_goto (tgt := 4) hx hb dX10_led_43 (by decide) (ih (g + 1) (n + 1) (by omega) hA ad2 H2 locs2 ls3 (lv_sub hl3 [2, 3, 1, 0] rfl) hads2 hP2 hD2 hS2)
  refine lv_iconst (v := 0) hx hb dX10_led_0 (by decide) ?_
  refine lv_istore_n (lv' := [(2, .int 0), (0, .ref (ad 0)), (1, .int i)]) hx hb dX10_led_1 rfl hl0 (by decide) rfl (fun ls1 hl1 => ?_)
  refine lv_iconst (v := 0) hx hb dX10_led_2 (by decide) ?_
  refine lv_istore_n (lv' := [(3, .int 0), (2, .int 0), (0, .ref (ad 0)), (1, .int i)]) hx hb dX10_led_3 rfl hl1 (by decide) rfl (fun ls2 hl2 => ?_)
  have hS0 : va_S (va_A (wd cy ad hp) s.heap.size) s.heap s.heap [] := va_S.rf
  rcases hcase with f9 | ⟨gc, sn, gs, f9, f7, he14, g11, hgc, hsn, hA⟩
  · refine lv_aload_n hx hb dX10_led_4 rfl (lv_at hl2 2 rfl) ?_
    refine va_get hx hb hws clX10.2.1 hown G.1 hP 0 (wd_at 0 he0) clX10.1 9 (by decide) (hws _ tw_358) (fun _ h9 => h9) (v := .int 0) (by rw [List.getElem?_map, f9]; rfl) dX10_led_5 ?_
    exact lv_if_eq (tgt := 46) hx hb dX10_led_8 (by decide) (fun _ => thr ad s.heap [] ls2 hl2.1 (fun _ _ => rfl) hP hD0.self hS0) (fun h => absurd rfl h)
  · exact loop gc sn gs f9 f7 he14 g11 hgc hsn gc 0 0 (by omega) hA ad s.heap [] ls2 (lv_sub hl2 [2, 3, 1, 0] rfl) (fun _ _ => rfl) hP hD0.self hS0
