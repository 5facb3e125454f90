def hcN : HP := [.inr (10, [.null, .null, .null, .null, .null, .null, .null, .null, .null, .int 0, .long 0, .int 0, .int 0, .int 0, .int 0])]
def hmN : HP := [.inr (12, [.int 0, .int 0, .int 0, .null, .null, .null, .int 0, .int 0, .int 0, .int 0, .int 0, .int 0, .int 0, .int 0, .int 0, .int 0, .null, .long 0, .long 0, .long 0, .long 0, .int 0, .null, .null, .int 0, .int 0, .int 0, .null, .null, .null, .null, .int 0, .null, .int 0, .null, .null, .int 0, .null, .null, .null, .null, .int 0, .int 0])]
set_option maxRecDepth 20000 in
set_option maxHeartbeats 4000000 in
theorem whole_open {p : Program} {e : Env} {s : State} {m : MethodId} {below : List Frame} {meth : Method} {c : Code} (l : Launch) {b L : Nat} {xs : Nat → Int32} (hL : L ≤ 3072) (C0 : lw_At p s m meth c b L xs) {Inv : HP → HP → Prop} (hI0 : InvOK Inv) (hA : AllSteps Inv) (hled : ∀ D cy adS, GS D cy (AL s) adS s s.heap → LedW Inv p l e s m below meth c b L xs D cy adS) {hc0 hm0 hc2 hm2 : HP} (hi1 : EX10_init [.ref 0] hcN = some hc0) (hi2 : EX12_init [.ref 0] hmN = some hm0) (hR1 : Ren hc0 hc2) (hR2 : Ren hm0 hm2) (hI : Inv hc2 hm2) : W p l e room_1 s m #[Value.ref b] below meth c s.heap [] 0 0 (lw_Z below #[Value.ref b] s) (entryFrame m ([Value.ref b] : List Value).toArray 7) := by
  have Cx0 := lw_Cx C0
  obtain ⟨hx, hb, hr, hml, hown, hts, hX, hbl, hlocks, hgv⟩ := id C0
  have hws : ∀ w ∈ WS, w.before #[Value.ref b] s = true := fun w h => hts w (WS_tb h)
  obtain ⟨D, cy, adS, G⟩ := GS_start hts hgv
  have hAf : ∀ q : Nat, s.heap.size ≤ q → AL s q := fun _ h => h
  have hS : va_S (AL s) s.heap s.heap [] := va_S.rf
  have hP : va_P D vwCl [] s.heap := fun k q h => by simp at h
  have hD : va_D (AL s) [] := ⟨fun i j p q h => by simp at h, fun k q h => by simp at h⟩
  have hl := lv_entry ([.ref b]) (n := 7) (Nat.le_of_ble_eq_true rfl)
  rw [lg_entry_eq]
  generalize (lg_sl ([.ref b]) ++ List.replicate (7 - (lg_sl ([.ref b])).length) Slot.unset).toArray = ls at hl ⊢
  have hl : lv_has ls 7 [(0, .ref b)] := hl
  refine va_new (ci := 10) (fs := [.null, .null, .null, .null, .null, .null, .null, .null, .null, .int 0, .long 0, .int 0, .int 0, .int 0, .int 0]) hx hb hws inX10 tyX10 tyX10_ok hown (hws _ tw_25) (hws _ tw_26) (hws _ tw_1) G.1 hP hD hS hAf clX10.1 (by decide +kernel) (by decide) (by decide) dL_law_0 (fun q1 H hP hD hS => ?_)
  refine lv_dup hx hb dL_law_3 rfl ?_
  have hP : va_P D vwCl ([] ++ (wd cy (fun n => if n = 0 then q1 else adS n) hcN ++ [])) H := hP
  have hD : va_D (AL s) ([] ++ (wd cy (fun n => if n = 0 then q1 else adS n) hcN ++ [])) := hD
  refine lw_call (ad := fun n => if n = 0 then q1 else adS n) (L1 := []) Cx0 G hAf cmX10_init (run_I (X := XLaw meth.name) 10 rfl yoX10_init rfl rfl tw_27 tw_28 ⟨Nat.le_of_ble_eq_true rfl, Nat.le_of_ble_eq_true rfl⟩ dL_law_4) [.ref 0] [.ref 0] hi1 rfl rfl (Nat.le_of_ble_eq_true rfl) hl.1 (Nat.le_of_ble_eq_true rfl) (fun n hn => if_neg (by omega)) hP hD hS (by show 0 + 1 + 54 ≤ 601024; omega) (by show 0 + 15 + 10386 ≤ 7293034; omega) (fun ad3 H locs g1 g2 g3 ha3 hP hD hS => ?_)
  show W p l e room_1 s m _ below meth c H locs _ _ _ (F0 m 7 ls [.ref q1])
  have e1 : ad3 0 = q1 := (g3 0 (Or.inl (by decide))).trans (if_pos rfl)
  refine lv_astore_n (lv' := [(1, .ref q1), (0, .ref b)]) hx hb dL_law_7 rfl hl (by decide) rfl (fun ls hl => ?_)
  refine va_new (ci := 12) (fs := [.int 0, .int 0, .int 0, .null, .null, .null, .int 0, .int 0, .int 0, .int 0, .int 0, .int 0, .int 0, .int 0, .int 0, .int 0, .null, .long 0, .long 0, .long 0, .long 0, .int 0, .null, .null, .int 0, .int 0, .int 0, .null, .null, .null, .null, .int 0, .null, .int 0, .null, .null, .int 0, .null, .null, .null, .null, .int 0, .int 0]) hx hb hws inX12 tyX12 tyX12_ok hown (hws _ tw_1281) (hws _ tw_1282) (hws _ tw_12) G.1 hP hD hS hAf clX12.1 (by decide +kernel) (by show 0 + 1 + 54 + 1 ≤ 601024; omega) (by show 0 + 15 + 10386 + 43 ≤ 7293034; omega) dL_law_8 (fun q2 H hP hD hS => ?_)
  refine lv_dup hx hb dL_law_11 rfl ?_
  have hP : va_P D vwCl (wd cy ad3 hc0 ++ (wd cy (fun n => if n = 0 then q2 else adS n) hmN ++ [])) H := by
    rw [List.nil_append, List.append_nil] at hP
    exact hP
  have hD : va_D (AL s) (wd cy ad3 hc0 ++ (wd cy (fun n => if n = 0 then q2 else adS n) hmN ++ [])) := by
    rw [List.nil_append, List.append_nil] at hD
    exact hD
  refine lw_call (ad := fun n => if n = 0 then q2 else adS n) (L1 := wd cy ad3 hc0) Cx0 G hAf cmX12_init (run_I (X := XLaw meth.name) 12 rfl yoX12_init rfl rfl tw_1283 tw_1284 ⟨Nat.le_of_ble_eq_true rfl, Nat.le_of_ble_eq_true rfl⟩ dL_law_12) [.ref 0] [.ref 0] hi2 rfl rfl (Nat.le_of_ble_eq_true rfl) hl.1 (Nat.le_of_ble_eq_true rfl) (fun n hn => if_neg (by omega)) hP hD hS (by show 0 + 1 + 54 + 1 + 15 ≤ 601024; omega) (by show 0 + 15 + 10386 + 43 + 50904 ≤ 7293034; omega) (fun ad4 H locs g4 g5 g6 ha4 hP hD hS => ?_)
  show W p l e room_1 s m _ below meth c H locs _ _ _ (F0 m 15 ls [.ref q2])
  have e2 : ad4 0 = q2 := (g6 0 (Or.inl (by decide))).trans (if_pos rfl)
  refine lv_astore_n (lv' := [(2, .ref q2), (1, .ref q1), (0, .ref b)]) hx hb dL_law_15 rfl hl (by decide) rfl (fun ls hl => ?_)
  refine lv_iconst (v := 1) hx hb dL_law_16 (by decide) ?_
  refine va_newa (a0 := (1, .inr (.inl (fun _ => 0)))) hx hb (atype := .long) (hws _ tw_125) rfl G.1 hP hD hS hAf (fun _ => rfl) (by decide) rfl (by decide) (by show 0 + 1 + 54 + 1 + 15 + 1 ≤ 601024; omega) (by show 0 + 15 + 10386 + 43 + 50904 + 1 ≤ 7293034; omega) dL_law_17 (fun qo cA H hK1 hP hD hS => ?_)
  have hcA : cA = cy 2 := by
    have e1 : s.vm.findClass ("[" ++ FieldType.long.toString) = some cA := (hK1.2 4 (cA, _) rfl).2
    have e2 : s.vm.findClass ("[" ++ FieldType.long.toString) = some (cy 2) := (G.1.2 2 _ rfl).2
    exact Option.some.inj (e1.symm.trans e2)
  subst hcA
  refine lv_astore_n (lv' := [(3, .ref qo), (2, .ref q2), (1, .ref q1), (0, .ref b)]) hx hb dL_law_19 rfl hl (by decide) rfl (fun ls hl => ?_)
  refine lv_iconst (v := 0) hx hb dL_law_20 (by decide) ?_
  refine lv_istore (lv' := [(4, .int 0), (3, .ref qo), (2, .ref q2), (1, .ref q1), (0, .ref b)]) hx hb dL_law_21 hl (by decide) rfl (fun ls hl => ?_)
  have hP : va_P D vwCl ([] ++ (wd cy ad3 hc0 ++ (wd cy ad4 hm0 ++ wO cy qo (fun _ => 0)))) H := by
    rw [List.append_nil, List.append_assoc] at hP
    exact hP
  have hD : va_D (AL s) ([] ++ (wd cy ad3 hc0 ++ (wd cy ad4 hm0 ++ wO cy qo (fun _ => 0)))) := by
    rw [List.append_nil, List.append_assoc] at hD
    exact hD
  obtain ⟨ad5, g7, g8, g9, hP, hD⟩ := va_ren (L1 := []) hR1 hP hD
  obtain ⟨ad6, g10, g11, g12, hP, hD⟩ := va_ren (L1 := wd cy ad5 hc2) hR2 hP hD
  rw [← e1, ← e2, ← g8, ← g11] at hl
  exact law_all hI0 hA C0 hL G (hled D cy adS G) 600 0 (by omega) (by omega) hc2 hm2 ad5 ad6 qo _ H _ _ _ ls hI (fun n hn => (g9 n hn).trans (ha3 n hn)) (fun n hn => (g12 n hn).trans (ha4 n hn)) hP hD hS (by show 0 + 1 + 54 + 1 + 15 + 1 ≤ _; omega) (by show 0 + 15 + 10386 + 43 + 50904 + 1 ≤ _; omega) (lv_sub hl [4, 3, 2, 1, 0] rfl)
