/-! Two worlds side by side, and calls of either. -/
theorem vaP_iff {D : va_G} {cl : List vw_C} {ws : va_W} {H : Heap} : va_P D cl ws H ↔ ∀ q ∈ ws, va_at D cl q H :=
  ⟨fun h q hq => by
    obtain ⟨k, hk⟩ := List.mem_iff_getElem?.mp hq
    exact h k q hk, fun h k q hk => h q (List.mem_of_getElem? hk)⟩
theorem vaD_iff {A : Nat → Prop} {ws : va_W} : va_D A ws ↔ ws.Pairwise (fun p q => p.1 ≠ q.1) ∧ ∀ q ∈ ws, A q.1 := by
  constructor
  · intro h
    refine ⟨List.pairwise_iff_getElem.mpr (fun i j hi hj hij e => ?_), fun q hq => ?_⟩
    · have := h.1 i j _ _ (List.getElem?_eq_getElem hi) (List.getElem?_eq_getElem hj) e
      omega
    · obtain ⟨k, hk⟩ := List.mem_iff_getElem?.mp hq
      exact h.2 k q hk
  · intro h
    refine ⟨fun i j p q hi hj e => ?_, fun k q hk => h.2 q (List.mem_of_getElem? hk)⟩
    obtain ⟨hi1, hi2⟩ := List.getElem?_eq_some_iff.mp hi
    obtain ⟨hj1, hj2⟩ := List.getElem?_eq_some_iff.mp hj
    rcases Nat.lt_trichotomy i j with q1 | q1 | q1
    · exact absurd (by rw [hi2, hj2]; exact e) (List.pairwise_iff_getElem.mp h.1 i j hi1 hj1 q1)
    · exact q1
    · exact absurd (by rw [hi2, hj2]; exact e.symm) (List.pairwise_iff_getElem.mp h.1 j i hj1 hi1 q1)
/-- what is in the middle changes; what stands beside it stays -/
theorem va_mid {D : va_G} {cl : List vw_C} {A : Nat → Prop} {L1 M1 M2 L2 : va_W} {H H1 : Heap} (hP : va_P D cl (L1 ++ (M1 ++ L2)) H) (hD : va_D A (L1 ++ (M1 ++ L2))) (hk : ∀ q : Nat, q < H.size → ¬ va_A M1 H.size q → H1[q]? = H[q]?) (hA : ∀ q, va_A M1 H.size q → A q) (hP1 : va_P D cl M2 H1) (hD1 : va_D (va_A M1 H.size) M2) : va_P D cl (L1 ++ (M2 ++ L2)) H1 ∧ va_D A (L1 ++ (M2 ++ L2)) := by
  rw [vaP_iff] at hP hP1
  rw [vaD_iff] at hD hD1
  obtain ⟨hD, hDA⟩ := hD
  rw [List.pairwise_append, List.pairwise_append] at hD
  obtain ⟨d1, ⟨d2, d3, d4⟩, d5⟩ := hD
  have ap1 : ∀ x ∈ L1, x.1 < H.size ∧ ¬ va_A M1 H.size x.1 := by
    intro x hx
    have hat := hP x (List.mem_append_left _ hx)
    refine ⟨hat.lt, fun hh => ?_⟩
    rcases hh with ⟨i, y, hy⟩ | hh
    · exact d5 x hx (x.1, y) (List.mem_append_left _ (List.mem_of_getElem? hy)) rfl
    · have := hat.lt; omega
  have ap2 : ∀ x ∈ L2, x.1 < H.size ∧ ¬ va_A M1 H.size x.1 := by
    intro x hx
    have hat := hP x (List.mem_append_right _ (List.mem_append_right _ hx))
    refine ⟨hat.lt, fun hh => ?_⟩
    rcases hh with ⟨i, y, hy⟩ | hh
    · exact d4 (x.1, y) (List.mem_of_getElem? hy) x hx rfl
    · have := hat.lt; omega
  refine ⟨vaP_iff.mpr (fun x hx => ?_), vaD_iff.mpr ⟨?_, fun x hx => ?_⟩⟩
  · rcases List.mem_append.mp hx with h | h
    · exact (hP x (List.mem_append_left _ h)).kept (hk x.1 (ap1 x h).1 (ap1 x h).2)
    · rcases List.mem_append.mp h with h | h
      · exact hP1 x h
      · exact (hP x (List.mem_append_right _ (List.mem_append_right _ h))).kept (hk x.1 (ap2 x h).1 (ap2 x h).2)
  · rw [List.pairwise_append, List.pairwise_append]
    refine ⟨d1, ⟨hD1.1, d3, fun x hx y hy e => ?_⟩, fun x hx y hy e => ?_⟩
    · exact (ap2 y hy).2 (by rw [← e]; exact hD1.2 x hx)
    · rcases List.mem_append.mp hy with h | h
      · exact (ap1 x hx).2 (by rw [e]; exact hD1.2 y h)
      · exact d5 x hx y (List.mem_append_right _ h) e
  · rcases List.mem_append.mp hx with h | h
    · exact hDA x (List.mem_append_left _ h)
    · rcases List.mem_append.mp h with h | h
      · exact hA x.1 (hD1.2 x h)
      · exact hDA x (List.mem_append_right _ (List.mem_append_right _ h))
theorem vaD_part {A : Nat → Prop} {L1 M1 L2 : va_W} (hD : va_D A (L1 ++ (M1 ++ L2))) : va_D A M1 := by
  rw [vaD_iff] at hD ⊢
  obtain ⟨hD, hDA⟩ := hD
  rw [List.pairwise_append, List.pairwise_append] at hD
  exact ⟨hD.2.1.1, fun q hq => hDA q (List.mem_append_right _ (List.mem_append_left _ hq))⟩
theorem vaP_part {D : va_G} {cl : List vw_C} {L1 M1 L2 : va_W} {H : Heap} (hP : va_P D cl (L1 ++ (M1 ++ L2)) H) : va_P D cl M1 H := by
  rw [vaP_iff] at hP ⊢
  exact fun q hq => hP q (List.mem_append_right _ (List.mem_append_left _ hq))
/-- the same cells by other places -/
def Ren (hp hp2 : HP) : Prop := ∃ ρ : Nat → Nat, hp2.length ≤ 2000 ∧ ρ 0 = 0 ∧ (∀ n, 2000 ≤ n → ρ n = n) ∧ (∀ i j, i < hp2.length → j < hp2.length → ρ i = ρ j → i = j) ∧ ∀ (i : Nat) (x : AE), hp2[i]? = some x → ∃ y, hp[ρ i]? = some y ∧ ∀ (cy ad : Nat → Nat), re cy (fun n => ad (ρ n)) x = re cy ad y
theorem Ren.refl {hp : HP} (h : hp.length ≤ 2000) : Ren hp hp := ⟨id, h, rfl, fun _ _ => rfl, fun _ _ _ _ e => e, fun i x hx => ⟨x, hx, fun _ _ => rfl⟩⟩
theorem va_ren {D : va_G} {A : Nat → Prop} {L1 L2 : va_W} {H : Heap} {cy ad : Nat → Nat} {hp hp2 : HP} (hR : Ren hp hp2) (hP : va_P D vwCl (L1 ++ (wd cy ad hp ++ L2)) H) (hD : va_D A (L1 ++ (wd cy ad hp ++ L2))) : ∃ ad2 : Nat → Nat, hp2.length ≤ 2000 ∧ ad2 0 = ad 0 ∧ (∀ n, 2000 ≤ n → ad2 n = ad n) ∧ va_P D vwCl (L1 ++ (wd cy ad2 hp2 ++ L2)) H ∧ va_D A (L1 ++ (wd cy ad2 hp2 ++ L2)) := by
  obtain ⟨ρ, h1, h2, h3, h4, h5⟩ := hR
  have hmem : ∀ (i : Nat) (z : Nat × va_E), (wd cy (fun n => ad (ρ n)) hp2)[i]? = some z → i < hp2.length ∧ (wd cy ad hp)[ρ i]? = some z := by
    intro i z hz
    have hz2 := hz
    simp only [wd, List.getElem?_mapIdx] at hz
    cases hx : hp2[i]? with
    | none => rw [hx] at hz; cases hz
    | some x =>
      rw [hx] at hz
      obtain ⟨y, hy, hre⟩ := h5 i x hx
      refine ⟨(List.getElem?_eq_some_iff.mp hx).1, ?_⟩
      rw [wd_at (ρ i) hy]
      simp only [Option.map_some, Option.some.injEq] at hz
      rw [← hz, hre]
  rw [vaP_iff] at hP
  rw [vaD_iff] at hD
  obtain ⟨hD, hDA⟩ := hD
  rw [List.pairwise_append, List.pairwise_append] at hD
  obtain ⟨d1, ⟨d2, d3, d4⟩, d5⟩ := hD
  have hin : ∀ z ∈ wd cy (fun n => ad (ρ n)) hp2, z ∈ wd cy ad hp := by
    intro z hz
    obtain ⟨k, hk⟩ := List.mem_iff_getElem?.mp hz
    exact List.mem_of_getElem? (hmem k z hk).2
  refine ⟨fun n => ad (ρ n), h1, by show ad (ρ 0) = ad 0; rw [h2], fun n hn => by show ad (ρ n) = ad n; rw [h3 n hn], vaP_iff.mpr (fun x hx => ?_), vaD_iff.mpr ⟨?_, fun x hx => ?_⟩⟩
  · rcases List.mem_append.mp hx with h | h
    · exact hP x (List.mem_append_left _ h)
    · rcases List.mem_append.mp h with h | h
      · exact hP x (List.mem_append_right _ (List.mem_append_left _ (hin x h)))
      · exact hP x (List.mem_append_right _ (List.mem_append_right _ h))
  · rw [List.pairwise_append, List.pairwise_append]
    refine ⟨d1, ⟨?_, d3, fun x hx y hy => d4 x (hin x hx) y hy⟩, fun x hx y hy => ?_⟩
    · refine List.pairwise_iff_getElem.mpr (fun i j hi hj hij e => ?_)
      obtain ⟨hi2, hi3⟩ := hmem i _ (List.getElem?_eq_getElem hi)
      obtain ⟨hj2, hj3⟩ := hmem j _ (List.getElem?_eq_getElem hj)
      obtain ⟨hi4, hi5⟩ := List.getElem?_eq_some_iff.mp hi3
      obtain ⟨hj4, hj5⟩ := List.getElem?_eq_some_iff.mp hj3
      have hne : ρ i ≠ ρ j := fun e2 => by have := h4 i j hi2 hj2 e2; omega
      have hpw := List.pairwise_iff_getElem.mp d2
      rcases Nat.lt_or_gt_of_ne hne with q | q
      · exact hpw (ρ i) (ρ j) hi4 hj4 q (by rw [hi5, hj5]; exact e)
      · exact hpw (ρ j) (ρ i) hj4 hi4 q (by rw [hi5, hj5]; exact e.symm)
    · rcases List.mem_append.mp hy with h | h
      · exact d5 x hx y (List.mem_append_left _ (hin y h))
      · exact d5 x hx y (List.mem_append_right _ h)
  · rcases List.mem_append.mp hx with h | h
    · exact hDA x (List.mem_append_left _ h)
    · rcases List.mem_append.mp h with h | h
      · exact hDA x (List.mem_append_right _ (List.mem_append_left _ (hin x h)))
      · exact hDA x (List.mem_append_right _ (List.mem_append_right _ h))
/-- a call out of the law, on one of its worlds -/
theorem lw_call {γ : Type} {X Y : MX} {fc : γ → HP → Option Value × HP} {f : List Value → HP → Option γ} {mc1 ms1 n pc : Nat} {rc : Option Nat} {p : Program} {l : Launch} {e : Env} {s : State} {m : MethodId} {args : Array Value} {below : List Frame} {meth : Method} {c : Code} {D : va_G} {cy : Nat → Nat} {A : Nat → Prop} {adS ad : Nat → Nat} {H : Heap} {locs : List Loc} {cells slots : Nat} {Q : State → Prop} {lsA : Array Slot} {L1 L2 : va_W} {hp : HP} {o : γ}
    (Cc : Cx X p s m args meth c) (G : GS D cy A adS s s.heap) (hA : ∀ q, s.heap.size ≤ q → A q) (hM : CM Y f fc mc1 ms1) (hR : RunOK X pc n rc Y mc1 ms1) (av rest : List Value) (hf : f av hp = some o) (hn : av.length = n) (hrc : recvOK rc av hp = true) (hcs : catsum rest ≤ 8) (hls : lsA.size = X.2.2.1) (h2000 : hp.length ≤ 2000) (hads : ∀ n, 2000 ≤ n → ad n = adS n) (hP : va_P D vwCl (L1 ++ (wd cy ad hp ++ L2)) H) (hD : va_D A (L1 ++ (wd cy ad hp ++ L2))) (hS : va_S A s.heap H locs) (hm1 : cells + mc1 ≤ X.2.2.2.2.2.cells) (hm2 : slots + ms1 ≤ X.2.2.2.2.2.slots)
    (kk : ∀ (ad1 : Nat → Nat) (H1 : Heap) (locs1 : List Loc), (fc o hp).2.length ≤ 2000 → hp.length ≤ (fc o hp).2.length → (∀ n, (n < hp.length ∨ 2000 ≤ n) → ad1 n = ad n) → (∀ n, 2000 ≤ n → ad1 n = adS n) → va_P D vwCl (L1 ++ (wd cy ad1 (fc o hp).2 ++ L2)) H1 → va_D A (L1 ++ (wd cy ad1 (fc o hp).2 ++ L2)) → va_S A s.heap H1 locs1 → W p l e X.2.2.2.2.2 s m args below meth c H1 locs1 (cells + mc1) (slots + ms1) Q (F0 m (pc + 3) lsA (((fc o hp).1.map (rv ad1)).toList ++ rest.map (rv ad)))) :
    W p l e X.2.2.2.2.2 s m args below meth c H locs cells slots Q (F0 m pc lsA ((av.map (rv ad)).reverse ++ rest.map (rv ad))) := by
  have hDp := vaD_part hD
  have hPp := vaP_part hP
  have hA1 : ∀ q, va_A (wd cy ad hp) H.size q → A q := by
    intro q hq
    rcases hq with ⟨i, x, hx⟩ | hq
    · exact hDp.2 i (q, x) hx
    · exact hA q (Nat.le_trans hS.1 hq)
  have hrun := hR p l e s m args below meth c D cy A adS ad H locs cells slots lsA av rest hp _ _ _ Cc G hls hS hads hrc hPp hn
    (hM l D cy ad H.size av hp o hf)
    (fun a U g mk q => by
      obtain ⟨q0, q1, q2, q3, q4, q5⟩ := q
      exact ⟨q0, q1, q2, q3, q4, q5.blind⟩)
    (fun U hU hW => ⟨rfl, by rw [hU], h2000, by rw [hU]; exact hPp, hDp.weaken (fun _ _ _ _ => trivial), G.call hS hA1 hads hU hW⟩)
    hcs hm1 hm2
  intro T hT XT
  obtain ⟨v, st₀, t, T', L, h0, X', hL, e1, e2, ⟨ad1, g1, g2, g3, hv, hP1, hD1, hF⟩, stp⟩ := hrun T hT XT
  have hv2 : v = (fc o hp).1.map (rv ad1) := by cases hv; rfl
  have hz : H.size ≤ T'.heap.size := by rw [e1, ← h0]; exact hF.1
  have hkept : ∀ q : Nat, q < H.size → ¬ va_A (wd cy ad hp) H.size q → T'.heap[q]? = H[q]? := by
    intro q h1 h2
    rw [e1, hF.2 q (by rw [h0]; exact h1) h2, h0]
  have hS1 : va_S A s.heap T'.heap (locs ++ L) := by
    refine ⟨Nat.le_trans hS.1 hz, fun q h1 h2 => ?_, fun q hq => ?_⟩
    · rw [hkept q (Nat.lt_of_lt_of_le h1 hS.1) (fun z => h2 (hA1 q z))]
      exact hS.2.1 q h1 h2
    · rcases List.mem_append.mp hq with h | h
      · exact hS.2.2 q h
      · exact hA1 _ (hL q h)
  obtain ⟨hPn, hDn⟩ := va_mid hP hD hkept hA1 (by rw [e1]; exact hP1) hD1
  obtain ⟨t2, q1, q2⟩ := kk ad1 T'.heap (locs ++ L) g2 g1 (fun n hn => g3 n (by omega)) (fun n hn => by rw [g3 n (by omega)]; exact hads n hn) hPn hDn hS1 T' rfl X'
  refine ⟨t2, stp t2 ?_, q2⟩
  rw [hv2]
  exact q1
