/-! led in the law's walk. -/
theorem tw_cw : (Cond.codeWith yL_led cL_led 4 (Option.some .int) [(0, 9, 12, 13)] : Cond) ∈ WS := ws_t (tb_6 (List.mem_of_getElem? (i := 10) rfl)) rfl
theorem tb_ns : (Cond.castable vyNS vyNS : Cond) ∈ tables_1 := tb_6 (List.mem_of_getElem? (i := 18) rfl)
theorem tb_d1 : (Cond.declares (Bundle.initS vyRT) : Cond) ∈ tables_1 := tb_6 (List.mem_of_getElem? (i := 20) rfl)
theorem tb_d2 : (Cond.declares (Bundle.initS "java/lang/Exception") : Cond) ∈ tables_1 := tb_6 (List.mem_of_getElem? (i := 22) rfl)
theorem tb_d3 : (Cond.declares (Bundle.initS Bundle.tN) : Cond) ∈ tables_1 := tb_6 (List.mem_of_getElem? (i := 24) rfl)
theorem tb_lU : (Cond.laysStatic Bundle.tN "UNASSIGNED_STACK" Bundle.steD : Cond) ∈ tables_1 := tb_6 (List.mem_of_getElem? (i := 43) rfl)
theorem tb_lN : (Cond.laysStatic Bundle.tN "SUPPRESSED_SENTINEL" Bundle.listD : Cond) ∈ tables_1 := tb_6 (List.mem_of_getElem? (i := 45) rfl)
set_option maxRecDepth 20000 in
theorem nf_U : Cond.isRef (.static Bundle.tN "UNASSIGNED_STACK" Bundle.steD) ∈ NF := by decide +kernel
set_option maxRecDepth 20000 in
theorem nf_N : Cond.isRef (.static Bundle.tN "SUPPRESSED_SENTINEL" Bundle.listD) ∈ NF := by decide +kernel
theorem TH_start {args : Array Value} {s : State} (hts : ∀ w ∈ lw_tbl, w.before args s = true) (hgv : (Jvm.Cond.and given_1 narrow_1).before args s = true) : TH (fun q => s.heap.size ≤ q) s s.heap := by
  have htb : ∀ w ∈ tables_1, w.before args s = true := fun w h => hts w (List.mem_append_right _ h)
  have hws : ∀ w ∈ WS, w.before args s = true := fun w h => hts w (WS_tb h)
  have hn : ∀ c ∈ NF, c.before args s = true := flat_of_before _ hgv
  have hA : ∀ a : Nat, a < s.heap.size → ¬ (fun q : Nat => s.heap.size ≤ q) a := fun a h => Nat.not_le.mpr h
  exact ⟨⟨va_Nw.of rfl (htb _ tb_d1), va_Nw.of rfl (htb _ tb_d2), va_Nw.of rfl (htb _ tb_d3), va_Nw.of rfl (htb _ tb_ns)⟩, vx_Zqof (htb _ tb_lU) (hws _ tw_21) (hn _ nf_U) hA, vx_Zqof (htb _ tb_lN) (hws _ tw_21) (hn _ nf_N) hA⟩
theorem vaP_perm {D : va_G} {cl : List vw_C} {w1 w2 : va_W} {H : Heap} (h : w1.Perm w2) (hP : va_P D cl w1 H) : va_P D cl w2 H := vaP_iff.mpr (fun q hq => vaP_iff.mp hP q (h.mem_iff.mpr hq))
theorem vaD_perm {A : Nat → Prop} {w1 w2 : va_W} (h : w1.Perm w2) (hD : va_D A w1) : va_D A w2 := by
  rw [vaD_iff] at hD ⊢
  exact ⟨(h.pairwise_iff (fun {a b} hab => fun e => hab e.symm)).mp hD.1, fun q hq => hD.2 q (h.mem_iff.mpr hq)⟩
theorem perm3 {α : Type} (a b c : List α) : (a ++ (b ++ c)).Perm (a ++ c ++ b) := by
  rw [List.append_assoc]
  exact List.Perm.append_left a List.perm_append_comm
theorem led_good : GoodIn WS (va_wsS "MownMazeLaw" 207 yL_led XL_led.2.2.2.2.1) := by
  intro w hw
  have h2 : w ∈ WS := by
    unfold va_wsS at hw
    rcases List.mem_append.mp hw with h | h
    · rcases List.mem_cons.mp h with rfl | h
      · exact tw_1208
      · rcases List.mem_cons.mp h with rfl | h
        · exact tw_1209
        · rcases List.mem_cons.mp h with rfl | h
          · exact tw_0
          · cases h
    · rcases List.mem_cons.mp h with rfl | h
      · exact tw_cw
      · exact h
  exact ⟨h2, good_of_word (List.mem_filter.mp h2).2⟩
/-- one answer for both ways -/
theorem led_one {hc hm : HP} (hI : Inv hc hm) (i : Int32) : ∃ (r : Option Int32) (v th : Int32) (om : HP), ((∃ v, EX10_led [.ref 0, .int i] hc = some v ∧ r = some v) ∨ (LedH hc i ∧ r = none)) ∧ EX12_led [.ref 0, .int i] hm = some (v, om) ∧ EX12_thrown [.ref 0] om = some th ∧ (th = 0 ∨ th = 1) ∧ (∀ k f, LedR r k f → k = th ∧ (k = 0 → f 0 = v.toInt64)) ∧ om.length = hm.length ∧ recvOK (some 12) [.ref 0] om = true ∧ Inv hc om := by
  rcases led_two hI i with ⟨r, om, e1, e2, e3, e4, e5, e6⟩ | ⟨om, e1, e2, e3, e4, e5, e6⟩
  · exact ⟨some r, r, 0, om, Or.inl ⟨r, e1, rfl⟩, e2, e3, Or.inl rfl, fun k f h => ⟨h.1, fun _ => h.2⟩, e4, e5, e6⟩
  · exact ⟨none, 0, 1, om, Or.inr ⟨e1, rfl⟩, e2, e3, Or.inr rfl, fun k f h => ⟨h, fun h0 => absurd ((show k = 1 from h).symm.trans h0) (by decide)⟩, e4, e5, e6⟩
set_option maxRecDepth 20000 in
set_option maxHeartbeats 4000000 in
theorem led_w {p : Program} {l : Launch} {e : Env} {s : State} {m : MethodId} {below : List Frame} {meth : Method} {c : Code} {b L : Nat} {xs : Nat → Int32} {D : va_G} {cy adS : Nat → Nat} (htr : l.stackTraces = false) (hL : L ≤ 3072) (C0 : lw_At p s m meth c b L xs) (G : GS D cy (AL s) adS s s.heap) : LedW Inv3 p l e s m below meth c b L xs D cy adS := by
  intro i h6 hN hc hm ad1 ad2 qo fo H locs cells slots ls hI ha1 ha2 hP hD hS hcl hsl hl
  have Cx0 := lw_Cx C0
  obtain ⟨hx, hb, hr, hml, hown, hts, hX, hbl, hlocks, hgv⟩ := id C0
  have hws : ∀ w ∈ WS, w.before #[Value.ref b] s = true := fun w h => hts w (WS_tb h)
  have T : TH (AL s) s s.heap := TH_start hts hgv
  have hbA : ¬ (AL s) b := Nat.not_le.mpr hbl
  obtain ⟨k1, k2, n1, n2⟩ := Inv3_ok hc hm hI
  have z1 : 0 < hc.length := by
    obtain ⟨b0, As, fs, h1, h2⟩ := recv_inv (ci := 10) rfl k1
    cases h1
    exact (List.getElem?_eq_some_iff.mp h2).1
  have z2 : 0 < hm.length := by
    obtain ⟨b0, As, fs, h1, h2⟩ := recv_inv (ci := 12) rfl k2
    cases h1
    exact (List.getElem?_eq_some_iff.mp h2).1
  obtain ⟨r, v, th, om, hR, q2, q3, hth, hrel, hlen, hrc2, hI2⟩ := led_one hI.1 (xs (nI (6 * i) + 1).toNatClampNeg)
  refine lv_aload_n hx hb dL_law_1345 rfl (lv_at hl 1 rfl) ?_
  refine lv_aload_n hx hb dL_law_1346 rfl (lv_at hl 0 rfl) ?_
  refine lv_iload hx hb dL_law_1347 (lv_at hl 4 rfl) ?_
  refine lv_iconst (v := 1) hx hb dL_law_1349 (by decide) ?_
  refine lv_iadd hx hb dL_law_1350 ?_
  refine va_sld hx hb hX hbl hbA hS (law_in (k := 1) rfl h6 hL (by decide)) dL_law_1351 ?_
  refine lv_aload_n hx hb dL_law_1352 rfl (lv_at hl 3 rfl) ?_
  have hP0 : va_P D vwCl (WL cy ad1 hc qo fo ++ wd cy ad2 hm) H := vaP_perm (perm3 _ _ _) hP
  have hD0 : va_D (AL s) (WL cy ad1 hc qo fo ++ wd cy ad2 hm) := vaD_perm (perm3 _ _ _) hD
  have hPp : va_P D vwCl (WL cy ad1 hc qo fo) H := vaP_part (L1 := []) (L2 := wd cy ad2 hm) hP0
  have hDp : va_D (AL s) (WL cy ad1 hc qo fo) := vaD_part (L1 := []) (L2 := wd cy ad2 hm) hD0
  have hA1 : ∀ q, va_A (WL cy ad1 hc qo fo) H.size q → AL s q := by
    intro q hq
    rcases hq with ⟨k, x, hx⟩ | hq
    · exact hDp.2 k (q, x) hx
    · exact Nat.le_trans hS.1 hq
  have hM := led_law htr (D := D) (cy := cy) (ad := ad1) (sz := H.size) (i := xs (nI (6 * i) + 1).toNatClampNeg) (hp := hc) (qo := qo) (fo := fo) (r := r) n1 k1 hR
  have hrun := vx_runSW (R := room_1) (H := H) (locs := locs) (cells := cells) (slots := slots) (meth := meth) (below := below) (e := e) (own := "MownMazeLaw") (index := 207) (n := 3) (Ts := WS) (As := [.ref (ad1 0), .int (xs (nI (6 * i) + 1).toNatClampNeg), .ref qo]) (rest := []) ⟨hx, hb, hml, hown, hws⟩ hM (vx_cwSW 3 hws led_good rfl rfl rfl (by decide +kernel) ⟨by decide, by decide⟩)
    ⟨fun a U g mk q => by
      obtain ⟨q0, q1, q2, q3, q4, q5⟩ := q
      exact ⟨q0, q1, q2, q3, q4.blind, q5.blind⟩, fun U hU hW => ⟨rfl, by rw [hU], by rw [hU]; exact hPp, hDp.weaken (fun _ _ _ _ => trivial), G.call hS hA1 ha1 hU hW, T.call hS hA1 hU hW⟩⟩ (g := F0 m 1353 ls [.ref qo, .int (xs (nI (6 * i) + 1).toNatClampNeg), .ref (ad1 0)]) rfl rfl hl.1 rfl (lv_room (by decide)) dL_law_1353 ⟨by show cells + 1 ≤ 601024; omega, by show slots + 6 ≤ 7293034; omega⟩
  intro T0 hT X0
  obtain ⟨w, st₀, t, T', Lw, h0, X', hLw, e1, e2, ⟨ad3, fo1, k, g3, hw, hLR, hP1, hD1, hF⟩, stp⟩ := hrun T0 hT X0
  have hw2 : w = some (.int k) := by cases hw; rfl
  subst hw2
  obtain ⟨rfl, hk0⟩ := hrel k fo1 hLR
  have hz : H.size ≤ T'.heap.size := by rw [e1, ← h0]; exact hF.1
  have hkept : ∀ q : Nat, q < H.size → ¬ va_A (WL cy ad1 hc qo fo) H.size q → T'.heap[q]? = H[q]? := by
    intro q h1 h2
    rw [e1, hF.2 q (by rw [h0]; exact h1) h2, h0]
  obtain ⟨hP2, hD2⟩ := va_mid (L1 := []) (M1 := WL cy ad1 hc qo fo) (M2 := WL cy ad3 hc qo fo1) (L2 := wd cy ad2 hm) hP0 hD0 hkept hA1 (by rw [e1]; exact hP1) hD1
  have hS2 : va_S (AL s) s.heap T'.heap (locs ++ Lw) := by
    refine ⟨Nat.le_trans hS.1 hz, fun q h1 h2 => ?_, fun q hq => ?_⟩
    · rw [hkept q (Nat.lt_of_lt_of_le h1 hS.1) (fun z => h2 (hA1 q z))]
      exact hS.2.1 q h1 h2
    · rcases List.mem_append.mp hq with h | h
      · exact hS.2.2 q h
      · exact hA1 _ (hLw q h)
  have hP : va_P D vwCl (wd cy ad3 hc ++ (wd cy ad2 hm ++ wO cy qo fo1)) T'.heap := vaP_perm (perm3 _ _ _).symm hP2
  have hD : va_D (AL s) (wd cy ad3 hc ++ (wd cy ad2 hm ++ wO cy qo fo1)) := vaD_perm (perm3 _ _ _).symm hD2
  have hS := hS2
  have ha3 : ∀ n, 2000 ≤ n → ad3 n = adS n := fun n hn => (g3 n (Or.inr hn)).trans (ha1 n hn)
  have e0 : ad1 0 = ad3 0 := (g3 0 (Or.inl z1)).symm
  rw [e0] at hl
  have kk : W p l e room_1 s m #[Value.ref b] below meth c T'.heap (locs ++ Lw) (cells + 1) (slots + 6) (lw_Z below #[Value.ref b] s) (F0 m 1356 ls [.int k]) := by
    generalize T'.heap = H at hP hD hS ⊢
    generalize locs ++ Lw = locs at hS ⊢
    refine lv_istore (lv' := [(5, .int k), (0, .ref b), (1, .ref (ad3 0)), (2, .ref (ad2 0)), (3, .ref qo), (4, .int (nI (6 * i)))]) hx hb dL_law_1356 hl (by decide) rfl (fun ls hl => ?_)
    refine lv_aload_n hx hb dL_law_1358 rfl (lv_at hl 3 rfl) ?_
    refine lv_aload_n hx hb dL_law_1359 rfl (lv_at hl 1 rfl) ?_
    refine lv_iload hx hb dL_law_1360 (lv_at hl 5 rfl) ?_
    refine lv_iconst (v := 1) hx hb dL_law_1362 (by decide) ?_
    refine lv_iadd hx hb dL_law_1363 ?_
    refine va_sld hx hb hX hbl hbA hS (law_in (k := 1) rfl h6 hL (by decide)) dL_law_1364 ?_
    refine lw_call (L1 := wd cy ad3 hc) Cx0 G (fun q h => h) cmX12_led (run_V (X := XLaw meth.name) rfl clX12 yoX12_led rfl tw_2023 tw_2024 tw_2025 ⟨Nat.le_of_ble_eq_true rfl, Nat.le_of_ble_eq_true rfl⟩ dL_law_1365) [.ref 0, .int (xs (nI (6 * i) + 1).toNatClampNeg)] [] q2 rfl k2 (Nat.le_of_ble_eq_true rfl) hl.1 n2 ha2 hP hD hS (by show cells + 1 + 0 ≤ 601024; omega) (by show slots + 6 + 0 ≤ 7293034; omega) (fun ad4 H locs g4 g5 g6 ha4 hP hD hS => ?_)
    show W p l e room_1 s m _ below meth c H locs _ _ _ (F0 m 1368 ls [.int v])
    have hP : va_P D vwCl (wd cy ad3 hc ++ (wd cy ad4 om ++ wO cy qo fo1)) H := hP
    have hD : va_D (AL s) (wd cy ad3 hc ++ (wd cy ad4 om ++ wO cy qo fo1)) := hD
    have e4 : ad2 0 = ad4 0 := (g6 0 (Or.inl z2)).symm
    rw [e4] at hl
    refine lv_istore (lv' := [(6, .int v), (5, .int k), (0, .ref b), (1, .ref (ad3 0)), (2, .ref (ad4 0)), (3, .ref qo), (4, .int (nI (6 * i)))]) hx hb dL_law_1368 hl (by decide) rfl (fun ls hl => ?_)
    refine lv_aload_n hx hb dL_law_1370 rfl (lv_at hl 4 rfl) ?_
    refine lw_call (L1 := wd cy ad3 hc) Cx0 G (fun q h => h) cmX12_thrown (run_V (X := XLaw meth.name) rfl clX12 yoX12_thrown rfl tw_1418 tw_1419 tw_1420 ⟨Nat.le_of_ble_eq_true rfl, Nat.le_of_ble_eq_true rfl⟩ dL_law_1371) [.ref 0] [] q3 rfl hrc2 (Nat.le_of_ble_eq_true rfl) hl.1 (by rw [hlen]; exact n2) ha4 hP hD hS (by show cells + 1 + 0 + 0 ≤ 601024; omega) (by show slots + 6 + 0 + 0 ≤ 7293034; omega) (fun ad5 H locs g7 g8 g9 ha5 hP hD hS => ?_)
    show W p l e room_1 s m _ below meth c H locs _ _ _ (F0 m 1374 ls [.int k])
    have hP : va_P D vwCl (wd cy ad3 hc ++ (wd cy ad5 om ++ wO cy qo fo1)) H := hP
    have hD : va_D (AL s) (wd cy ad3 hc ++ (wd cy ad5 om ++ wO cy qo fo1)) := hD
    have e5 : ad4 0 = ad5 0 := (g9 0 (Or.inl (by rw [hlen]; exact z2))).symm
    rw [e5] at hl
    refine lv_iload hx hb dL_law_1374 (lv_at hl 1 rfl) ?_
    refine lv_icmp_eq (tgt := 1381) hx hb dL_law_1376 (by decide) (fun _ => ?_) (fun hne => absurd rfl hne)
    refine lv_iload hx hb dL_law_1381 (lv_at hl 1 rfl) ?_
    have fin : W p l e room_1 s m #[Value.ref b] below meth c H locs (cells + 1 + 0 + 0) (slots + 6 + 0 + 0) (lw_Z below #[Value.ref b] s) (F0 m 1398 ls []) := by
      refine lv_goto (tgt := 1439) hx hb dL_law_1398 (by decide) ?_
      obtain ⟨hm3, hR3, hI3⟩ := inv_norm hI2
      obtain ⟨ad6, g10, g11, g12, hP, hD⟩ := va_ren (L1 := wd cy ad3 hc) hR3 hP hD
      rw [← g11] at hl
      exact law_next C0 hN hI3 ha3 (fun n hn => (g12 n hn).trans (ha5 n hn)) hP hD hS (by omega) (by omega) (lv_sub hl [2, 3, 4, 5, 6] rfl)
    refine lv_if_ne (tgt := 1398) hx hb dL_law_1383 (by decide) (fun _ => fin) (fun hk => ?_)
    refine lv_aload_n hx hb dL_law_1386 rfl (lv_at hl 5 rfl) ?_
    refine lv_iconst (v := 0) hx hb dL_law_1387 (by decide) ?_
    have hat : (wd cy ad3 hc ++ (wd cy ad5 om ++ wO cy qo fo1))[hc.length + om.length]? = some (qo, .inl (cy 2, 1, .inr (.inl fo1))) := by
      rw [List.getElem?_append_right (by rw [wd_len]; omega), wd_len, List.getElem?_append_right (by rw [wd_len]; omega), wd_len, show hc.length + om.length - hc.length - om.length = 0 by omega]
      rfl
    refine va_lald hx hb G.1 hP (hc.length + om.length) 2 hat rfl (i := 0) (by intro h; rcases h with h | h; exact absurd h (by decide); exact absurd h (by decide)) dL_law_1388 ?_
    refine lv_iload hx hb dL_law_1389 (lv_at hl 0 rfl) ?_
    refine lv_i2l hx hb dL_law_1391 rfl ?_
    refine W.lcmp hx hb dL_law_1392 ?_
    rw [show fo1 (0 : Int32).toNatClampNeg = v.toInt64 from hk0 hk]
    refine lv_if_eq (tgt := 1398) hx hb dL_law_1393 (by decide) (fun _ => fin) (fun hne => absurd ((lgc0 _ _).mpr rfl) hne)
  obtain ⟨t2, w1, w2⟩ := kk T' rfl X'
  exact ⟨t2, stp t2 w1, w2⟩
