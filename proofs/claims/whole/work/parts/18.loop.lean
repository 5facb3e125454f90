/-- what is left to show: both sides answer alike, call by call -/
def AllSteps (Inv : HP → HP → Prop) : Prop :=
  (∀ a1 a2 a3 a4 a5 : Int32, Step Inv EX10_feed fIH EX12_feed fIH [.int a1, .int a2, .int a3, .int a4, .int a5]) ∧
  (∀ a1 : Int32, Step Inv EX10_meadow fIH EX12_meadow fIH [.int a1]) ∧
  (Step Inv EX10_fault fI EX12_fault fIH []) ∧
  (Step Inv EX10_where fI EX12_where fIH []) ∧
  (∀ a1 a2 : Int32, Step Inv EX10_mown fIH EX12_mown fIH [.int a1, .int a2]) ∧
  (∀ a1 a2 : Int32, Step Inv EX10_beside fIH EX12_beside fIH [.int a1, .int a2]) ∧
  (Step Inv EX10_parts fIH EX12_parts fIH []) ∧
  (Step Inv EX10_rings fIH EX12_rings fIH []) ∧
  (Step Inv EX10_ends fIH EX12_ends fIH []) ∧
  (∀ a1 a2 : Int32, Step Inv EX10_steps fIH EX12_steps fIH [.int a1, .int a2]) ∧
  (Step Inv EX10_longest fIH EX12_longest fIH []) ∧
  (∀ a1 a2 : Int32, Step Inv EX10_splits fIH EX12_splits fIH [.int a1, .int a2]) ∧
  (∀ a1 a2 : Int32, Step Inv EX10_at fIH EX12_at fIH [.int a1, .int a2]) ∧
  (∀ a1 : Int32, Step Inv EX10_out fIH EX12_out fIH [.int a1]) ∧
  (∀ a1 : Int32, Step Inv EX10_ever fIH EX12_ever fIH [.int a1]) ∧
  (∀ a1 : Int32, Step Inv EX10_ring fIH EX12_ring fIH [.int a1]) ∧
  (∀ a1 a2 : Int32, Step Inv EX10_meets fIH EX12_meets fIH [.int a1, .int a2]) ∧
  (∀ a1 : Int32, Step Inv EX10_shouts fIH EX12_shouts fIH [.int a1]) ∧
  (∀ a1 : Int32, Step Inv EX10_visits fIH EX12_visits fIH [.int a1]) ∧
  (∀ a1 : Int32, Step Inv EX10_crowd fIH EX12_crowd fIH [.int a1]) ∧
  (Step Inv EX10_paid fIH EX12_paid fIH []) ∧
  (Step Inv EX10_stuck fIH EX12_stuck fIH []) ∧
  (∀ a1 a2 a3 : Int32, Step Inv EX10_caught fIH EX12_caught fIH [.int a1, .int a2, .int a3]) ∧
  (Step Inv EX10_unlike fIH EX12_unlike fIH [.int 0] ∧ Step Inv EX10_unlike fIH EX12_unlike fIH [.int 1]) ∧
  (Step Inv EX10_firstUnlike fIH EX12_firstUnlike fIH [.int 0] ∧ Step Inv EX10_firstUnlike fIH EX12_firstUnlike fIH [.int 1]) ∧
  (Step Inv EX10_clash fIH EX12_clash fIH []) ∧
  (Step Inv EX10_changes fIH EX12_changes fIH []) ∧
  (Step Inv EX10_toMow fIH EX12_toMow fIH []) ∧
  (Step Inv EX10_strokes fIH EX12_strokes fIH []) ∧
  (∀ a1 a2 : Int32, Step Inv EX10_shut fIH EX12_shut fIH [.int a1, .int a2]) ∧
  (Step Inv EX10_shutWays fIH EX12_shutWays fIH []) ∧
  (∀ a1 a2 : Int32, Step Inv EX10_seen fIH EX12_seen fIH [.int a1, .int a2]) ∧
  (Step Inv EX10_gatesSeen fIH EX12_gatesSeen fIH []) ∧
  (Step Inv EX10_places fIH EX12_places fIH []) ∧
  (∀ a1 : Int32, Step Inv EX10_place fIH EX12_place fIH [.int a1]) ∧
  (Step Inv EX10_best fIH EX12_best fIH []) ∧
  (Step Inv EX10_bestPaid fIH EX12_bestPaid fIH []) ∧
  (∀ a1 a2 : Int32, Step Inv EX10_mow fZH EX12_mow fZH [.int a1, .int a2]) ∧
  (∀ a1 a2 : Int32, Step Inv EX10_stand fZH EX12_stand fZH [.int a1, .int a2]) ∧
  (Step Inv EX10_week fIH EX12_week fIH []) ∧
  (Step Inv EX10_thin fIH EX12_thin fIH []) ∧
  (∀ a1 : Int32, Step Inv EX10_seed fZH EX12_seed fZH [.int a1]) ∧
  (Step Inv EX10_undo fZH EX12_undo fZH []) ∧
  (Step Inv EX10_mark fIH EX12_mark fIH []) ∧
  (∀ a1 : Int32, Step Inv EX10_back fZH EX12_back fZH [.int a1]) ∧
  (∀ a1 : Int32, Step Inv EX10_size fI EX12_size fIH [.int a1]) ∧
  (Step Inv EX10_trouble fI EX12_trouble fIH [])
section
variable {p : Program} {l : Launch} {e : Env} {s : State} {m : MethodId} {below : List Frame} {meth : Method} {c : Code} {b L : Nat} {xs : Nat → Int32} {D : va_G} {cy adS : Nat → Nat} {Inv : HP → HP → Prop}
def LedW (Inv : HP → HP → Prop) (p : Program) (l : Launch) (e : Env) (s : State) (m : MethodId) (below : List Frame) (meth : Method) (c : Code) (b L : Nat) (xs : Nat → Int32) (D : va_G) (cy adS : Nat → Nat) : Prop :=
  ∀ (i : Nat) (_ : 6 * i + 6 ≤ L) (_ : HD Inv p l e s m below meth c b D cy adS (i + 1)) (hc hm : HP) (ad1 ad2 : Nat → Nat) (qo : Nat) (fo : Nat → Int64) (H : Heap) (locs : List Loc) (cells slots : Nat) (ls : Array Slot) (_ : Inv hc hm) (_ : ∀ n, 2000 ≤ n → ad1 n = adS n) (_ : ∀ n, 2000 ≤ n → ad2 n = adS n) (_ : va_P D vwCl (wd cy ad1 hc ++ (wd cy ad2 hm ++ wO cy qo fo)) H) (_ : va_D (AL s) (wd cy ad1 hc ++ (wd cy ad2 hm ++ wO cy qo fo))) (_ : va_S (AL s) s.heap H locs) (_ : cells ≤ 1000 + 100 * i) (_ : slots ≤ 100000 + 1000 * i) (_ : lv_has ls 7 [(0, .ref b), (1, .ref (ad1 0)), (2, .ref (ad2 0)), (3, .ref qo), (4, .int (nI (6 * i)))]),
    W p l e room_1 s m #[Value.ref b] below meth c H locs cells slots (lw_Z below #[Value.ref b] s) (F0 m 1345 ls [])
theorem law_cmp {i L : Nat} (hL : L ≤ 3072) (hi : i ≤ 700) (h : ¬ (Int32.ofNat L - 6 < nI (6 * i))) : 6 * i + 6 ≤ L := by
  have h1 : (nI L - nI 6).toInt = (L : Int) - (6 : Nat) := pk_sub_toInt (by omega) (by omega)
  have h2 : (nI (6 * i)).toInt = ((6 * i : Nat) : Int) := nI_toInt (by omega)
  have h3 : ¬ (nI L - nI 6).toInt < (nI (6 * i)).toInt := fun h4 => h (Int32.lt_iff_toInt_lt.mpr h4)
  rw [h1, h2] at h3
  omega
set_option maxRecDepth 20000 in
set_option maxHeartbeats 4000000 in
theorem law_head (hI0 : InvOK Inv) (hA : AllSteps Inv) (C0 : lw_At p s m meth c b L xs) (hL : L ≤ 3072) (G : GS D cy (AL s) adS s s.heap) (hled : LedW Inv p l e s m below meth c b L xs D cy adS) {i : Nat} (hi : i ≤ 700) (hN : 6 * i + 6 ≤ L → HD Inv p l e s m below meth c b D cy adS (i + 1)) : HD Inv p l e s m below meth c b D cy adS i := by
  intro hc hm ad1 ad2 qo fo H locs cells slots ls hI ha1 ha2 hP hD hS hcl hsl hl
  obtain ⟨hx, hb, hr, hml, hown, hts, hX, hbl, hlocks, hgv⟩ := id C0
  have hbA : ¬ (AL s) b := Nat.not_le.mpr hbl
  refine lv_iload hx hb dL_law_23 (lv_at hl 4 rfl) ?_
  refine lv_aload_n hx hb dL_law_25 rfl (lv_at hl 0 rfl) ?_
  refine va_slen hx hb hX hbl hbA hS dL_law_26 ?_
  refine lv_bipush (v := 6) hx hb dL_law_27 (by decide) ?_
  refine lv_isub hx hb dL_law_29 ?_
  refine lv_icmp_gt (tgt := 1445) hx hb dL_law_30 (by decide) (fun _ => ?_) (fun hge => ?_)
  · refine lv_iconst (v := 1) hx hb dL_law_1445 (by decide) ?_
    refine va_forget (fun q hq => hS.2.2 q hq) ?_
    refine W.widen (k := 601024) (n := 7293034) (by omega) (by omega) ?_
    exact lw_ret hx hb hr hlocks dL_law_1446
  · have h6 := law_cmp hL hi hge
    have hN := hN h6
    refine lv_aload_n hx hb dL_law_33 rfl (lv_at hl 0 rfl) ?_
    refine lv_iload hx hb dL_law_34 (lv_at hl 4 rfl) ?_
    refine va_sld hx hb hX hbl hbA hS (vp_in_nI (by omega) (by omega)) dL_law_36 ?_
    refine lv_bipush (v := 63) hx hb dL_law_37 (by decide) ?_
    refine lv_iand hx hb dL_law_39 ?_
    obtain ⟨j, hj64, hj⟩ := pk_andE (xs (nI (6 * i)).toNatClampNeg) (m := 63) 6 (by decide)
    rw [hj]
    obtain ⟨S0, S1, S2, S3, S4, S5, S6, S7, S8, S9, S10, S11, S12, S13, S14, S15, S16, S17, S18, S19, S20, S21, S22, S23, S24, S25, S26, S27, S28, S29, S30, S31, S32, S33, S34, S35, S36, S37, S38, S39, S40, S41, S42, S43, S44, S46, S47⟩ := hA
    rcases (show j = 0 ∨ j = 1 ∨ j = 2 ∨ j = 3 ∨ j = 4 ∨ j = 5 ∨ j = 6 ∨ j = 7 ∨ j = 8 ∨ j = 9 ∨ j = 10 ∨ j = 11 ∨ j = 12 ∨ j = 13 ∨ j = 14 ∨ j = 15 ∨ j = 16 ∨ j = 17 ∨ j = 18 ∨ j = 19 ∨ j = 20 ∨ j = 21 ∨ j = 22 ∨ j = 23 ∨ j = 24 ∨ j = 25 ∨ j = 26 ∨ j = 27 ∨ j = 28 ∨ j = 29 ∨ j = 30 ∨ j = 31 ∨ j = 32 ∨ j = 33 ∨ j = 34 ∨ j = 35 ∨ j = 36 ∨ j = 37 ∨ j = 38 ∨ j = 39 ∨ j = 40 ∨ j = 41 ∨ j = 42 ∨ j = 43 ∨ j = 44 ∨ j = 45 ∨ j = 46 ∨ j = 47 ∨ 48 ≤ j by omega) with rfl | rfl | rfl | rfl | rfl | rfl | rfl | rfl | rfl | rfl | rfl | rfl | rfl | rfl | rfl | rfl | rfl | rfl | rfl | rfl | rfl | rfl | rfl | rfl | rfl | rfl | rfl | rfl | rfl | rfl | rfl | rfl | rfl | rfl | rfl | rfl | rfl | rfl | rfl | rfl | rfl | rfl | rfl | rfl | rfl | rfl | rfl | rfl | hj48
    · exact lv_tableIn (tgt := 248) hx hb dL_law_40 (by decide) (by decide) (off := 208) (by decide) (by decide) (law_op_0 hI0 C0 hL G h6 hN hI ha1 ha2 hP hD hS hcl hsl hl (S0 _ _ _ _ _))
    · exact lv_tableIn (tgt := 321) hx hb dL_law_40 (by decide) (by decide) (off := 281) (by decide) (by decide) (law_op_1 hI0 C0 hL G h6 hN hI ha1 ha2 hP hD hS hcl hsl hl (S1 _))
    · exact lv_tableIn (tgt := 346) hx hb dL_law_40 (by decide) (by decide) (off := 306) (by decide) (by decide) (law_op_2 hI0 C0 hL G h6 hN hI ha1 ha2 hP hD hS hcl hsl hl (S2))
    · exact lv_tableIn (tgt := 359) hx hb dL_law_40 (by decide) (by decide) (off := 319) (by decide) (by decide) (law_op_3 hI0 C0 hL G h6 hN hI ha1 ha2 hP hD hS hcl hsl hl (S3))
    · exact lv_tableIn (tgt := 372) hx hb dL_law_40 (by decide) (by decide) (off := 332) (by decide) (by decide) (law_op_4 hI0 C0 hL G h6 hN hI ha1 ha2 hP hD hS hcl hsl hl (S4 _ _))
    · exact lv_tableIn (tgt := 409) hx hb dL_law_40 (by decide) (by decide) (off := 369) (by decide) (by decide) (law_op_5 hI0 C0 hL G h6 hN hI ha1 ha2 hP hD hS hcl hsl hl (S5 _ _))
    · exact lv_tableIn (tgt := 446) hx hb dL_law_40 (by decide) (by decide) (off := 406) (by decide) (by decide) (law_op_6 hI0 C0 hL G h6 hN hI ha1 ha2 hP hD hS hcl hsl hl (S6))
    · exact lv_tableIn (tgt := 459) hx hb dL_law_40 (by decide) (by decide) (off := 419) (by decide) (by decide) (law_op_7 hI0 C0 hL G h6 hN hI ha1 ha2 hP hD hS hcl hsl hl (S7))
    · exact lv_tableIn (tgt := 472) hx hb dL_law_40 (by decide) (by decide) (off := 432) (by decide) (by decide) (law_op_8 hI0 C0 hL G h6 hN hI ha1 ha2 hP hD hS hcl hsl hl (S8))
    · exact lv_tableIn (tgt := 485) hx hb dL_law_40 (by decide) (by decide) (off := 445) (by decide) (by decide) (law_op_9 hI0 C0 hL G h6 hN hI ha1 ha2 hP hD hS hcl hsl hl (S9 _ _))
    · exact lv_tableIn (tgt := 522) hx hb dL_law_40 (by decide) (by decide) (off := 482) (by decide) (by decide) (law_op_10 hI0 C0 hL G h6 hN hI ha1 ha2 hP hD hS hcl hsl hl (S10))
    · exact lv_tableIn (tgt := 535) hx hb dL_law_40 (by decide) (by decide) (off := 495) (by decide) (by decide) (law_op_11 hI0 C0 hL G h6 hN hI ha1 ha2 hP hD hS hcl hsl hl (S11 _ _))
    · exact lv_tableIn (tgt := 572) hx hb dL_law_40 (by decide) (by decide) (off := 532) (by decide) (by decide) (law_op_12 hI0 C0 hL G h6 hN hI ha1 ha2 hP hD hS hcl hsl hl (S12 _ _))
    · exact lv_tableIn (tgt := 609) hx hb dL_law_40 (by decide) (by decide) (off := 569) (by decide) (by decide) (law_op_13 hI0 C0 hL G h6 hN hI ha1 ha2 hP hD hS hcl hsl hl (S13 _))
    · exact lv_tableIn (tgt := 634) hx hb dL_law_40 (by decide) (by decide) (off := 594) (by decide) (by decide) (law_op_14 hI0 C0 hL G h6 hN hI ha1 ha2 hP hD hS hcl hsl hl (S14 _))
    · exact lv_tableIn (tgt := 659) hx hb dL_law_40 (by decide) (by decide) (off := 619) (by decide) (by decide) (law_op_15 hI0 C0 hL G h6 hN hI ha1 ha2 hP hD hS hcl hsl hl (S15 _))
    · exact lv_tableIn (tgt := 684) hx hb dL_law_40 (by decide) (by decide) (off := 644) (by decide) (by decide) (law_op_16 hI0 C0 hL G h6 hN hI ha1 ha2 hP hD hS hcl hsl hl (S16 _ _))
    · exact lv_tableIn (tgt := 721) hx hb dL_law_40 (by decide) (by decide) (off := 681) (by decide) (by decide) (law_op_17 hI0 C0 hL G h6 hN hI ha1 ha2 hP hD hS hcl hsl hl (S17 _))
    · exact lv_tableIn (tgt := 746) hx hb dL_law_40 (by decide) (by decide) (off := 706) (by decide) (by decide) (law_op_18 hI0 C0 hL G h6 hN hI ha1 ha2 hP hD hS hcl hsl hl (S18 _))
    · exact lv_tableIn (tgt := 771) hx hb dL_law_40 (by decide) (by decide) (off := 731) (by decide) (by decide) (law_op_19 hI0 C0 hL G h6 hN hI ha1 ha2 hP hD hS hcl hsl hl (S19 _))
    · exact lv_tableIn (tgt := 796) hx hb dL_law_40 (by decide) (by decide) (off := 756) (by decide) (by decide) (law_op_20 hI0 C0 hL G h6 hN hI ha1 ha2 hP hD hS hcl hsl hl (S20))
    · exact lv_tableIn (tgt := 809) hx hb dL_law_40 (by decide) (by decide) (off := 769) (by decide) (by decide) (law_op_21 hI0 C0 hL G h6 hN hI ha1 ha2 hP hD hS hcl hsl hl (S21))
    · exact lv_tableIn (tgt := 822) hx hb dL_law_40 (by decide) (by decide) (off := 782) (by decide) (by decide) (law_op_22 hI0 C0 hL G h6 hN hI ha1 ha2 hP hD hS hcl hsl hl (S22 _ _ _))
    · exact lv_tableIn (tgt := 871) hx hb dL_law_40 (by decide) (by decide) (off := 831) (by decide) (by decide) (law_op_23 hI0 C0 hL G h6 hN hI ha1 ha2 hP hD hS hcl hsl hl S23.1 S23.2)
    · exact lv_tableIn (tgt := 912) hx hb dL_law_40 (by decide) (by decide) (off := 872) (by decide) (by decide) (law_op_24 hI0 C0 hL G h6 hN hI ha1 ha2 hP hD hS hcl hsl hl S24.1 S24.2)
    · exact lv_tableIn (tgt := 953) hx hb dL_law_40 (by decide) (by decide) (off := 913) (by decide) (by decide) (law_op_25 hI0 C0 hL G h6 hN hI ha1 ha2 hP hD hS hcl hsl hl (S25))
    · exact lv_tableIn (tgt := 966) hx hb dL_law_40 (by decide) (by decide) (off := 926) (by decide) (by decide) (law_op_26 hI0 C0 hL G h6 hN hI ha1 ha2 hP hD hS hcl hsl hl (S26))
    · exact lv_tableIn (tgt := 979) hx hb dL_law_40 (by decide) (by decide) (off := 939) (by decide) (by decide) (law_op_27 hI0 C0 hL G h6 hN hI ha1 ha2 hP hD hS hcl hsl hl (S27))
    · exact lv_tableIn (tgt := 992) hx hb dL_law_40 (by decide) (by decide) (off := 952) (by decide) (by decide) (law_op_28 hI0 C0 hL G h6 hN hI ha1 ha2 hP hD hS hcl hsl hl (S28))
    · exact lv_tableIn (tgt := 1005) hx hb dL_law_40 (by decide) (by decide) (off := 965) (by decide) (by decide) (law_op_29 hI0 C0 hL G h6 hN hI ha1 ha2 hP hD hS hcl hsl hl (S29 _ _))
    · exact lv_tableIn (tgt := 1042) hx hb dL_law_40 (by decide) (by decide) (off := 1002) (by decide) (by decide) (law_op_30 hI0 C0 hL G h6 hN hI ha1 ha2 hP hD hS hcl hsl hl (S30))
    · exact lv_tableIn (tgt := 1055) hx hb dL_law_40 (by decide) (by decide) (off := 1015) (by decide) (by decide) (law_op_31 hI0 C0 hL G h6 hN hI ha1 ha2 hP hD hS hcl hsl hl (S31 _ _))
    · exact lv_tableIn (tgt := 1092) hx hb dL_law_40 (by decide) (by decide) (off := 1052) (by decide) (by decide) (law_op_32 hI0 C0 hL G h6 hN hI ha1 ha2 hP hD hS hcl hsl hl (S32))
    · exact lv_tableIn (tgt := 1105) hx hb dL_law_40 (by decide) (by decide) (off := 1065) (by decide) (by decide) (law_op_33 hI0 C0 hL G h6 hN hI ha1 ha2 hP hD hS hcl hsl hl (S33))
    · exact lv_tableIn (tgt := 1118) hx hb dL_law_40 (by decide) (by decide) (off := 1078) (by decide) (by decide) (law_op_34 hI0 C0 hL G h6 hN hI ha1 ha2 hP hD hS hcl hsl hl (S34 _))
    · exact lv_tableIn (tgt := 1143) hx hb dL_law_40 (by decide) (by decide) (off := 1103) (by decide) (by decide) (law_op_35 hI0 C0 hL G h6 hN hI ha1 ha2 hP hD hS hcl hsl hl (S35))
    · exact lv_tableIn (tgt := 1156) hx hb dL_law_40 (by decide) (by decide) (off := 1116) (by decide) (by decide) (law_op_36 hI0 C0 hL G h6 hN hI ha1 ha2 hP hD hS hcl hsl hl (S36))
    · exact lv_tableIn (tgt := 1169) hx hb dL_law_40 (by decide) (by decide) (off := 1129) (by decide) (by decide) (law_op_37 hI0 C0 hL G h6 hN hI ha1 ha2 hP hD hS hcl hsl hl (S37 _ _))
    · exact lv_tableIn (tgt := 1206) hx hb dL_law_40 (by decide) (by decide) (off := 1166) (by decide) (by decide) (law_op_38 hI0 C0 hL G h6 hN hI ha1 ha2 hP hD hS hcl hsl hl (S38 _ _))
    · exact lv_tableIn (tgt := 1243) hx hb dL_law_40 (by decide) (by decide) (off := 1203) (by decide) (by decide) (law_op_39 hI0 C0 hL G h6 hN hI ha1 ha2 hP hD hS hcl hsl hl (S39))
    · exact lv_tableIn (tgt := 1256) hx hb dL_law_40 (by decide) (by decide) (off := 1216) (by decide) (by decide) (law_op_40 hI0 C0 hL G h6 hN hI ha1 ha2 hP hD hS hcl hsl hl (S40))
    · exact lv_tableIn (tgt := 1269) hx hb dL_law_40 (by decide) (by decide) (off := 1229) (by decide) (by decide) (law_op_41 hI0 C0 hL G h6 hN hI ha1 ha2 hP hD hS hcl hsl hl (S41 _))
    · exact lv_tableIn (tgt := 1294) hx hb dL_law_40 (by decide) (by decide) (off := 1254) (by decide) (by decide) (law_op_42 hI0 C0 hL G h6 hN hI ha1 ha2 hP hD hS hcl hsl hl (S42))
    · exact lv_tableIn (tgt := 1307) hx hb dL_law_40 (by decide) (by decide) (off := 1267) (by decide) (by decide) (law_op_43 hI0 C0 hL G h6 hN hI ha1 ha2 hP hD hS hcl hsl hl (S43))
    · exact lv_tableIn (tgt := 1320) hx hb dL_law_40 (by decide) (by decide) (off := 1280) (by decide) (by decide) (law_op_44 hI0 C0 hL G h6 hN hI ha1 ha2 hP hD hS hcl hsl hl (S44 _))
    · exact lv_tableIn (tgt := 1345) hx hb dL_law_40 (by decide) (by decide) (off := 1305) (by decide) (by decide) (hled i h6 hN hc hm ad1 ad2 qo fo H locs cells slots ls hI ha1 ha2 hP hD hS hcl hsl hl)
    · exact lv_tableIn (tgt := 1401) hx hb dL_law_40 (by decide) (by decide) (off := 1361) (by decide) (by decide) (law_op_46 hI0 C0 hL G h6 hN hI ha1 ha2 hP hD hS hcl hsl hl (S46 _))
    · exact lv_tableIn (tgt := 1426) hx hb dL_law_40 (by decide) (by decide) (off := 1386) (by decide) (by decide) (law_op_47 hI0 C0 hL G h6 hN hI ha1 ha2 hP hD hS hcl hsl hl (S47))
    · refine lv_tableOut (tgt := 1439) hx hb dL_law_40 (Or.inr ?_) (by decide) ?_
      · rw [nI_toInt (by omega)]; omega
      · exact law_next C0 hN hI ha1 ha2 hP hD hS (by omega) (by omega) hl
theorem law_all (hI0 : InvOK Inv) (hA : AllSteps Inv) (C0 : lw_At p s m meth c b L xs) (hL : L ≤ 3072) (G : GS D cy (AL s) adS s s.heap) (hled : LedW Inv p l e s m below meth c b L xs D cy adS) : ∀ n i : Nat, 600 ≤ i + n → i ≤ 600 → HD Inv p l e s m below meth c b D cy adS i := by
  intro n
  induction n with
  | zero => intro i h1 h2; exact law_head hI0 hA C0 hL G hled (by omega) (fun h => absurd h (by omega))
  | succ n ih =>
    intro i h1 h2
    refine law_head hI0 hA C0 hL G hled (by omega) (fun h => ?_)
    exact ih (i + 1) (by omega) (by omega)
end
