/-! Strings: lengths and letters. -/
theorem sj_ck3 (hp : HP) (j n : Int32) : EJ3_checkIndex_8e157 [.int j, .int n, .null] hp = (if j < 0 then none else if j < n then some j else none) := rfl
theorem sj_ck (hp : HP) {j n : Int32} (h1 : ¬ j < 0) (h2 : j < n) : EJ0_checkIndex_df160 [.int j, .int n] hp = some () := by
  have h := sj_ck3 hp j n
  rw [if_neg h1, if_pos h2] at h
  show oCal 3 none EJ3_checkIndex_8e157 fI (opop oUretP) [(0, .int j), (1, .int n)] [.null, .int n, .int j] hp = _
  rw [cal_eq h rfl rfl (chk_rf _ _ _)]
  rfl
def sx_0 (k : Nat) : Nat := ([109, 101, 97, 100, 111, 119, 32, 114, 111, 119, 32, 119, 97, 110, 116, 32, 109, 111, 111, 110, 32, 103, 97, 116, 101, 32, 110, 111, 105, 115, 101, 32, 104, 101, 97, 114, 100, 32, 119, 97, 108, 107, 101, 114] : List Nat).getD k 0
theorem sd_0 (hp : HP) : EJ0_coder_7d493 [.ref 2000] hp = some 0 := rfl
theorem sl_0 (hp : HP) : EJ0_length_8abf5 [.ref 2000] hp = some (nI 44) := by
  show oCal 1 (some 99) EJ0_coder_7d493 fI (oishr oIretP) [(0, .ref 2000)] [.ref 2000, .int (nI 44)] hp = _
  rw [cal_eq (sd_0 hp) rfl rfl (chk_rf _ _ _)]
  rfl
theorem si_0 (hp : HP) : EJ0_isLatin1_aae02 [.ref 2000] hp = some true := rfl
theorem sb_0_0 (hp : HP) : EJ1_charAt_3b067 [.ref 3000, .int (nI 0)] hp = some (nI 109) := by
  show oCal 2 none EJ0_checkIndex_df160 fU (oAld 0 (oIld 1 (oSat (oConst (.int 255) (oiand (oi2c (oCretP))))))) [(0, .ref 3000), (1, .int (nI 0))] [.int (nI 44), .int (nI 0)] hp = _
  rw [cal_eq (sj_ck hp (j := nI 0) (n := nI 44) (by decide) (by decide)) rfl rfl (chk_rf _ _ _)]
  rfl
theorem sc_0_0 (hp : HP) : EJ0_charAt_5068e [.ref 2000, .int (nI 0)] hp = some (nI 109) := by
  show oCal 1 (some 99) EJ0_isLatin1_aae02 fZ (oIfeq (kN) (oAld 0 (oSvl (oIld 1 (oCal 2 none EJ1_charAt_3b067 fI (oCretP)))))) [(0, .ref 2000), (1, .int (nI 0))] [.ref 2000] hp = _
  rw [cal_eq (si_0 hp) rfl rfl (chk_rf _ _ _)]
  show oCal 2 none EJ1_charAt_3b067 fI (oCretP) [(0, .ref 2000), (1, .int (nI 0))] [.int (nI 0), .ref 3000] hp = _
  rw [cal_eq (sb_0_0 hp) rfl rfl (chk_rf _ _ _)]
  rfl
theorem sb_0_1 (hp : HP) : EJ1_charAt_3b067 [.ref 3000, .int (nI 1)] hp = some (nI 101) := by
  show oCal 2 none EJ0_checkIndex_df160 fU (oAld 0 (oIld 1 (oSat (oConst (.int 255) (oiand (oi2c (oCretP))))))) [(0, .ref 3000), (1, .int (nI 1))] [.int (nI 44), .int (nI 1)] hp = _
  rw [cal_eq (sj_ck hp (j := nI 1) (n := nI 44) (by decide) (by decide)) rfl rfl (chk_rf _ _ _)]
  rfl
theorem sc_0_1 (hp : HP) : EJ0_charAt_5068e [.ref 2000, .int (nI 1)] hp = some (nI 101) := by
  show oCal 1 (some 99) EJ0_isLatin1_aae02 fZ (oIfeq (kN) (oAld 0 (oSvl (oIld 1 (oCal 2 none EJ1_charAt_3b067 fI (oCretP)))))) [(0, .ref 2000), (1, .int (nI 1))] [.ref 2000] hp = _
  rw [cal_eq (si_0 hp) rfl rfl (chk_rf _ _ _)]
  show oCal 2 none EJ1_charAt_3b067 fI (oCretP) [(0, .ref 2000), (1, .int (nI 1))] [.int (nI 1), .ref 3000] hp = _
  rw [cal_eq (sb_0_1 hp) rfl rfl (chk_rf _ _ _)]
  rfl
theorem sb_0_2 (hp : HP) : EJ1_charAt_3b067 [.ref 3000, .int (nI 2)] hp = some (nI 97) := by
  show oCal 2 none EJ0_checkIndex_df160 fU (oAld 0 (oIld 1 (oSat (oConst (.int 255) (oiand (oi2c (oCretP))))))) [(0, .ref 3000), (1, .int (nI 2))] [.int (nI 44), .int (nI 2)] hp = _
  rw [cal_eq (sj_ck hp (j := nI 2) (n := nI 44) (by decide) (by decide)) rfl rfl (chk_rf _ _ _)]
  rfl
theorem sc_0_2 (hp : HP) : EJ0_charAt_5068e [.ref 2000, .int (nI 2)] hp = some (nI 97) := by
  show oCal 1 (some 99) EJ0_isLatin1_aae02 fZ (oIfeq (kN) (oAld 0 (oSvl (oIld 1 (oCal 2 none EJ1_charAt_3b067 fI (oCretP)))))) [(0, .ref 2000), (1, .int (nI 2))] [.ref 2000] hp = _
  rw [cal_eq (si_0 hp) rfl rfl (chk_rf _ _ _)]
  show oCal 2 none EJ1_charAt_3b067 fI (oCretP) [(0, .ref 2000), (1, .int (nI 2))] [.int (nI 2), .ref 3000] hp = _
  rw [cal_eq (sb_0_2 hp) rfl rfl (chk_rf _ _ _)]
  rfl
theorem sb_0_3 (hp : HP) : EJ1_charAt_3b067 [.ref 3000, .int (nI 3)] hp = some (nI 100) := by
  show oCal 2 none EJ0_checkIndex_df160 fU (oAld 0 (oIld 1 (oSat (oConst (.int 255) (oiand (oi2c (oCretP))))))) [(0, .ref 3000), (1, .int (nI 3))] [.int (nI 44), .int (nI 3)] hp = _
  rw [cal_eq (sj_ck hp (j := nI 3) (n := nI 44) (by decide) (by decide)) rfl rfl (chk_rf _ _ _)]
  rfl
theorem sc_0_3 (hp : HP) : EJ0_charAt_5068e [.ref 2000, .int (nI 3)] hp = some (nI 100) := by
  show oCal 1 (some 99) EJ0_isLatin1_aae02 fZ (oIfeq (kN) (oAld 0 (oSvl (oIld 1 (oCal 2 none EJ1_charAt_3b067 fI (oCretP)))))) [(0, .ref 2000), (1, .int (nI 3))] [.ref 2000] hp = _
  rw [cal_eq (si_0 hp) rfl rfl (chk_rf _ _ _)]
  show oCal 2 none EJ1_charAt_3b067 fI (oCretP) [(0, .ref 2000), (1, .int (nI 3))] [.int (nI 3), .ref 3000] hp = _
  rw [cal_eq (sb_0_3 hp) rfl rfl (chk_rf _ _ _)]
  rfl
theorem sb_0_4 (hp : HP) : EJ1_charAt_3b067 [.ref 3000, .int (nI 4)] hp = some (nI 111) := by
  show oCal 2 none EJ0_checkIndex_df160 fU (oAld 0 (oIld 1 (oSat (oConst (.int 255) (oiand (oi2c (oCretP))))))) [(0, .ref 3000), (1, .int (nI 4))] [.int (nI 44), .int (nI 4)] hp = _
  rw [cal_eq (sj_ck hp (j := nI 4) (n := nI 44) (by decide) (by decide)) rfl rfl (chk_rf _ _ _)]
  rfl
theorem sc_0_4 (hp : HP) : EJ0_charAt_5068e [.ref 2000, .int (nI 4)] hp = some (nI 111) := by
  show oCal 1 (some 99) EJ0_isLatin1_aae02 fZ (oIfeq (kN) (oAld 0 (oSvl (oIld 1 (oCal 2 none EJ1_charAt_3b067 fI (oCretP)))))) [(0, .ref 2000), (1, .int (nI 4))] [.ref 2000] hp = _
  rw [cal_eq (si_0 hp) rfl rfl (chk_rf _ _ _)]
  show oCal 2 none EJ1_charAt_3b067 fI (oCretP) [(0, .ref 2000), (1, .int (nI 4))] [.int (nI 4), .ref 3000] hp = _
  rw [cal_eq (sb_0_4 hp) rfl rfl (chk_rf _ _ _)]
  rfl
theorem sb_0_5 (hp : HP) : EJ1_charAt_3b067 [.ref 3000, .int (nI 5)] hp = some (nI 119) := by
  show oCal 2 none EJ0_checkIndex_df160 fU (oAld 0 (oIld 1 (oSat (oConst (.int 255) (oiand (oi2c (oCretP))))))) [(0, .ref 3000), (1, .int (nI 5))] [.int (nI 44), .int (nI 5)] hp = _
  rw [cal_eq (sj_ck hp (j := nI 5) (n := nI 44) (by decide) (by decide)) rfl rfl (chk_rf _ _ _)]
  rfl
theorem sc_0_5 (hp : HP) : EJ0_charAt_5068e [.ref 2000, .int (nI 5)] hp = some (nI 119) := by
  show oCal 1 (some 99) EJ0_isLatin1_aae02 fZ (oIfeq (kN) (oAld 0 (oSvl (oIld 1 (oCal 2 none EJ1_charAt_3b067 fI (oCretP)))))) [(0, .ref 2000), (1, .int (nI 5))] [.ref 2000] hp = _
  rw [cal_eq (si_0 hp) rfl rfl (chk_rf _ _ _)]
  show oCal 2 none EJ1_charAt_3b067 fI (oCretP) [(0, .ref 2000), (1, .int (nI 5))] [.int (nI 5), .ref 3000] hp = _
  rw [cal_eq (sb_0_5 hp) rfl rfl (chk_rf _ _ _)]
  rfl
theorem sb_0_6 (hp : HP) : EJ1_charAt_3b067 [.ref 3000, .int (nI 6)] hp = some (nI 32) := by
  show oCal 2 none EJ0_checkIndex_df160 fU (oAld 0 (oIld 1 (oSat (oConst (.int 255) (oiand (oi2c (oCretP))))))) [(0, .ref 3000), (1, .int (nI 6))] [.int (nI 44), .int (nI 6)] hp = _
  rw [cal_eq (sj_ck hp (j := nI 6) (n := nI 44) (by decide) (by decide)) rfl rfl (chk_rf _ _ _)]
  rfl
theorem sc_0_6 (hp : HP) : EJ0_charAt_5068e [.ref 2000, .int (nI 6)] hp = some (nI 32) := by
  show oCal 1 (some 99) EJ0_isLatin1_aae02 fZ (oIfeq (kN) (oAld 0 (oSvl (oIld 1 (oCal 2 none EJ1_charAt_3b067 fI (oCretP)))))) [(0, .ref 2000), (1, .int (nI 6))] [.ref 2000] hp = _
  rw [cal_eq (si_0 hp) rfl rfl (chk_rf _ _ _)]
  show oCal 2 none EJ1_charAt_3b067 fI (oCretP) [(0, .ref 2000), (1, .int (nI 6))] [.int (nI 6), .ref 3000] hp = _
  rw [cal_eq (sb_0_6 hp) rfl rfl (chk_rf _ _ _)]
  rfl
theorem sb_0_7 (hp : HP) : EJ1_charAt_3b067 [.ref 3000, .int (nI 7)] hp = some (nI 114) := by
  show oCal 2 none EJ0_checkIndex_df160 fU (oAld 0 (oIld 1 (oSat (oConst (.int 255) (oiand (oi2c (oCretP))))))) [(0, .ref 3000), (1, .int (nI 7))] [.int (nI 44), .int (nI 7)] hp = _
  rw [cal_eq (sj_ck hp (j := nI 7) (n := nI 44) (by decide) (by decide)) rfl rfl (chk_rf _ _ _)]
  rfl
theorem sc_0_7 (hp : HP) : EJ0_charAt_5068e [.ref 2000, .int (nI 7)] hp = some (nI 114) := by
  show oCal 1 (some 99) EJ0_isLatin1_aae02 fZ (oIfeq (kN) (oAld 0 (oSvl (oIld 1 (oCal 2 none EJ1_charAt_3b067 fI (oCretP)))))) [(0, .ref 2000), (1, .int (nI 7))] [.ref 2000] hp = _
  rw [cal_eq (si_0 hp) rfl rfl (chk_rf _ _ _)]
  show oCal 2 none EJ1_charAt_3b067 fI (oCretP) [(0, .ref 2000), (1, .int (nI 7))] [.int (nI 7), .ref 3000] hp = _
  rw [cal_eq (sb_0_7 hp) rfl rfl (chk_rf _ _ _)]
  rfl
theorem sb_0_8 (hp : HP) : EJ1_charAt_3b067 [.ref 3000, .int (nI 8)] hp = some (nI 111) := by
  show oCal 2 none EJ0_checkIndex_df160 fU (oAld 0 (oIld 1 (oSat (oConst (.int 255) (oiand (oi2c (oCretP))))))) [(0, .ref 3000), (1, .int (nI 8))] [.int (nI 44), .int (nI 8)] hp = _
  rw [cal_eq (sj_ck hp (j := nI 8) (n := nI 44) (by decide) (by decide)) rfl rfl (chk_rf _ _ _)]
  rfl
theorem sc_0_8 (hp : HP) : EJ0_charAt_5068e [.ref 2000, .int (nI 8)] hp = some (nI 111) := by
  show oCal 1 (some 99) EJ0_isLatin1_aae02 fZ (oIfeq (kN) (oAld 0 (oSvl (oIld 1 (oCal 2 none EJ1_charAt_3b067 fI (oCretP)))))) [(0, .ref 2000), (1, .int (nI 8))] [.ref 2000] hp = _
  rw [cal_eq (si_0 hp) rfl rfl (chk_rf _ _ _)]
  show oCal 2 none EJ1_charAt_3b067 fI (oCretP) [(0, .ref 2000), (1, .int (nI 8))] [.int (nI 8), .ref 3000] hp = _
  rw [cal_eq (sb_0_8 hp) rfl rfl (chk_rf _ _ _)]
  rfl
theorem sb_0_9 (hp : HP) : EJ1_charAt_3b067 [.ref 3000, .int (nI 9)] hp = some (nI 119) := by
  show oCal 2 none EJ0_checkIndex_df160 fU (oAld 0 (oIld 1 (oSat (oConst (.int 255) (oiand (oi2c (oCretP))))))) [(0, .ref 3000), (1, .int (nI 9))] [.int (nI 44), .int (nI 9)] hp = _
  rw [cal_eq (sj_ck hp (j := nI 9) (n := nI 44) (by decide) (by decide)) rfl rfl (chk_rf _ _ _)]
  rfl
theorem sc_0_9 (hp : HP) : EJ0_charAt_5068e [.ref 2000, .int (nI 9)] hp = some (nI 119) := by
  show oCal 1 (some 99) EJ0_isLatin1_aae02 fZ (oIfeq (kN) (oAld 0 (oSvl (oIld 1 (oCal 2 none EJ1_charAt_3b067 fI (oCretP)))))) [(0, .ref 2000), (1, .int (nI 9))] [.ref 2000] hp = _
  rw [cal_eq (si_0 hp) rfl rfl (chk_rf _ _ _)]
  show oCal 2 none EJ1_charAt_3b067 fI (oCretP) [(0, .ref 2000), (1, .int (nI 9))] [.int (nI 9), .ref 3000] hp = _
  rw [cal_eq (sb_0_9 hp) rfl rfl (chk_rf _ _ _)]
  rfl
theorem sb_0_10 (hp : HP) : EJ1_charAt_3b067 [.ref 3000, .int (nI 10)] hp = some (nI 32) := by
  show oCal 2 none EJ0_checkIndex_df160 fU (oAld 0 (oIld 1 (oSat (oConst (.int 255) (oiand (oi2c (oCretP))))))) [(0, .ref 3000), (1, .int (nI 10))] [.int (nI 44), .int (nI 10)] hp = _
  rw [cal_eq (sj_ck hp (j := nI 10) (n := nI 44) (by decide) (by decide)) rfl rfl (chk_rf _ _ _)]
  rfl
theorem sc_0_10 (hp : HP) : EJ0_charAt_5068e [.ref 2000, .int (nI 10)] hp = some (nI 32) := by
  show oCal 1 (some 99) EJ0_isLatin1_aae02 fZ (oIfeq (kN) (oAld 0 (oSvl (oIld 1 (oCal 2 none EJ1_charAt_3b067 fI (oCretP)))))) [(0, .ref 2000), (1, .int (nI 10))] [.ref 2000] hp = _
  rw [cal_eq (si_0 hp) rfl rfl (chk_rf _ _ _)]
  show oCal 2 none EJ1_charAt_3b067 fI (oCretP) [(0, .ref 2000), (1, .int (nI 10))] [.int (nI 10), .ref 3000] hp = _
  rw [cal_eq (sb_0_10 hp) rfl rfl (chk_rf _ _ _)]
  rfl
theorem sb_0_11 (hp : HP) : EJ1_charAt_3b067 [.ref 3000, .int (nI 11)] hp = some (nI 119) := by
  show oCal 2 none EJ0_checkIndex_df160 fU (oAld 0 (oIld 1 (oSat (oConst (.int 255) (oiand (oi2c (oCretP))))))) [(0, .ref 3000), (1, .int (nI 11))] [.int (nI 44), .int (nI 11)] hp = _
  rw [cal_eq (sj_ck hp (j := nI 11) (n := nI 44) (by decide) (by decide)) rfl rfl (chk_rf _ _ _)]
  rfl
theorem sc_0_11 (hp : HP) : EJ0_charAt_5068e [.ref 2000, .int (nI 11)] hp = some (nI 119) := by
  show oCal 1 (some 99) EJ0_isLatin1_aae02 fZ (oIfeq (kN) (oAld 0 (oSvl (oIld 1 (oCal 2 none EJ1_charAt_3b067 fI (oCretP)))))) [(0, .ref 2000), (1, .int (nI 11))] [.ref 2000] hp = _
  rw [cal_eq (si_0 hp) rfl rfl (chk_rf _ _ _)]
  show oCal 2 none EJ1_charAt_3b067 fI (oCretP) [(0, .ref 2000), (1, .int (nI 11))] [.int (nI 11), .ref 3000] hp = _
  rw [cal_eq (sb_0_11 hp) rfl rfl (chk_rf _ _ _)]
  rfl
theorem sb_0_12 (hp : HP) : EJ1_charAt_3b067 [.ref 3000, .int (nI 12)] hp = some (nI 97) := by
  show oCal 2 none EJ0_checkIndex_df160 fU (oAld 0 (oIld 1 (oSat (oConst (.int 255) (oiand (oi2c (oCretP))))))) [(0, .ref 3000), (1, .int (nI 12))] [.int (nI 44), .int (nI 12)] hp = _
  rw [cal_eq (sj_ck hp (j := nI 12) (n := nI 44) (by decide) (by decide)) rfl rfl (chk_rf _ _ _)]
  rfl
theorem sc_0_12 (hp : HP) : EJ0_charAt_5068e [.ref 2000, .int (nI 12)] hp = some (nI 97) := by
  show oCal 1 (some 99) EJ0_isLatin1_aae02 fZ (oIfeq (kN) (oAld 0 (oSvl (oIld 1 (oCal 2 none EJ1_charAt_3b067 fI (oCretP)))))) [(0, .ref 2000), (1, .int (nI 12))] [.ref 2000] hp = _
  rw [cal_eq (si_0 hp) rfl rfl (chk_rf _ _ _)]
  show oCal 2 none EJ1_charAt_3b067 fI (oCretP) [(0, .ref 2000), (1, .int (nI 12))] [.int (nI 12), .ref 3000] hp = _
  rw [cal_eq (sb_0_12 hp) rfl rfl (chk_rf _ _ _)]
  rfl
theorem sb_0_13 (hp : HP) : EJ1_charAt_3b067 [.ref 3000, .int (nI 13)] hp = some (nI 110) := by
  show oCal 2 none EJ0_checkIndex_df160 fU (oAld 0 (oIld 1 (oSat (oConst (.int 255) (oiand (oi2c (oCretP))))))) [(0, .ref 3000), (1, .int (nI 13))] [.int (nI 44), .int (nI 13)] hp = _
  rw [cal_eq (sj_ck hp (j := nI 13) (n := nI 44) (by decide) (by decide)) rfl rfl (chk_rf _ _ _)]
  rfl
theorem sc_0_13 (hp : HP) : EJ0_charAt_5068e [.ref 2000, .int (nI 13)] hp = some (nI 110) := by
  show oCal 1 (some 99) EJ0_isLatin1_aae02 fZ (oIfeq (kN) (oAld 0 (oSvl (oIld 1 (oCal 2 none EJ1_charAt_3b067 fI (oCretP)))))) [(0, .ref 2000), (1, .int (nI 13))] [.ref 2000] hp = _
  rw [cal_eq (si_0 hp) rfl rfl (chk_rf _ _ _)]
  show oCal 2 none EJ1_charAt_3b067 fI (oCretP) [(0, .ref 2000), (1, .int (nI 13))] [.int (nI 13), .ref 3000] hp = _
  rw [cal_eq (sb_0_13 hp) rfl rfl (chk_rf _ _ _)]
  rfl
theorem sb_0_14 (hp : HP) : EJ1_charAt_3b067 [.ref 3000, .int (nI 14)] hp = some (nI 116) := by
  show oCal 2 none EJ0_checkIndex_df160 fU (oAld 0 (oIld 1 (oSat (oConst (.int 255) (oiand (oi2c (oCretP))))))) [(0, .ref 3000), (1, .int (nI 14))] [.int (nI 44), .int (nI 14)] hp = _
  rw [cal_eq (sj_ck hp (j := nI 14) (n := nI 44) (by decide) (by decide)) rfl rfl (chk_rf _ _ _)]
  rfl
theorem sc_0_14 (hp : HP) : EJ0_charAt_5068e [.ref 2000, .int (nI 14)] hp = some (nI 116) := by
  show oCal 1 (some 99) EJ0_isLatin1_aae02 fZ (oIfeq (kN) (oAld 0 (oSvl (oIld 1 (oCal 2 none EJ1_charAt_3b067 fI (oCretP)))))) [(0, .ref 2000), (1, .int (nI 14))] [.ref 2000] hp = _
  rw [cal_eq (si_0 hp) rfl rfl (chk_rf _ _ _)]
  show oCal 2 none EJ1_charAt_3b067 fI (oCretP) [(0, .ref 2000), (1, .int (nI 14))] [.int (nI 14), .ref 3000] hp = _
  rw [cal_eq (sb_0_14 hp) rfl rfl (chk_rf _ _ _)]
  rfl
theorem sb_0_15 (hp : HP) : EJ1_charAt_3b067 [.ref 3000, .int (nI 15)] hp = some (nI 32) := by
  show oCal 2 none EJ0_checkIndex_df160 fU (oAld 0 (oIld 1 (oSat (oConst (.int 255) (oiand (oi2c (oCretP))))))) [(0, .ref 3000), (1, .int (nI 15))] [.int (nI 44), .int (nI 15)] hp = _
  rw [cal_eq (sj_ck hp (j := nI 15) (n := nI 44) (by decide) (by decide)) rfl rfl (chk_rf _ _ _)]
  rfl
theorem sc_0_15 (hp : HP) : EJ0_charAt_5068e [.ref 2000, .int (nI 15)] hp = some (nI 32) := by
  show oCal 1 (some 99) EJ0_isLatin1_aae02 fZ (oIfeq (kN) (oAld 0 (oSvl (oIld 1 (oCal 2 none EJ1_charAt_3b067 fI (oCretP)))))) [(0, .ref 2000), (1, .int (nI 15))] [.ref 2000] hp = _
  rw [cal_eq (si_0 hp) rfl rfl (chk_rf _ _ _)]
  show oCal 2 none EJ1_charAt_3b067 fI (oCretP) [(0, .ref 2000), (1, .int (nI 15))] [.int (nI 15), .ref 3000] hp = _
  rw [cal_eq (sb_0_15 hp) rfl rfl (chk_rf _ _ _)]
  rfl
theorem sb_0_16 (hp : HP) : EJ1_charAt_3b067 [.ref 3000, .int (nI 16)] hp = some (nI 109) := by
  show oCal 2 none EJ0_checkIndex_df160 fU (oAld 0 (oIld 1 (oSat (oConst (.int 255) (oiand (oi2c (oCretP))))))) [(0, .ref 3000), (1, .int (nI 16))] [.int (nI 44), .int (nI 16)] hp = _
  rw [cal_eq (sj_ck hp (j := nI 16) (n := nI 44) (by decide) (by decide)) rfl rfl (chk_rf _ _ _)]
  rfl
theorem sc_0_16 (hp : HP) : EJ0_charAt_5068e [.ref 2000, .int (nI 16)] hp = some (nI 109) := by
  show oCal 1 (some 99) EJ0_isLatin1_aae02 fZ (oIfeq (kN) (oAld 0 (oSvl (oIld 1 (oCal 2 none EJ1_charAt_3b067 fI (oCretP)))))) [(0, .ref 2000), (1, .int (nI 16))] [.ref 2000] hp = _
  rw [cal_eq (si_0 hp) rfl rfl (chk_rf _ _ _)]
  show oCal 2 none EJ1_charAt_3b067 fI (oCretP) [(0, .ref 2000), (1, .int (nI 16))] [.int (nI 16), .ref 3000] hp = _
  rw [cal_eq (sb_0_16 hp) rfl rfl (chk_rf _ _ _)]
  rfl
theorem sb_0_17 (hp : HP) : EJ1_charAt_3b067 [.ref 3000, .int (nI 17)] hp = some (nI 111) := by
  show oCal 2 none EJ0_checkIndex_df160 fU (oAld 0 (oIld 1 (oSat (oConst (.int 255) (oiand (oi2c (oCretP))))))) [(0, .ref 3000), (1, .int (nI 17))] [.int (nI 44), .int (nI 17)] hp = _
  rw [cal_eq (sj_ck hp (j := nI 17) (n := nI 44) (by decide) (by decide)) rfl rfl (chk_rf _ _ _)]
  rfl
theorem sc_0_17 (hp : HP) : EJ0_charAt_5068e [.ref 2000, .int (nI 17)] hp = some (nI 111) := by
  show oCal 1 (some 99) EJ0_isLatin1_aae02 fZ (oIfeq (kN) (oAld 0 (oSvl (oIld 1 (oCal 2 none EJ1_charAt_3b067 fI (oCretP)))))) [(0, .ref 2000), (1, .int (nI 17))] [.ref 2000] hp = _
  rw [cal_eq (si_0 hp) rfl rfl (chk_rf _ _ _)]
  show oCal 2 none EJ1_charAt_3b067 fI (oCretP) [(0, .ref 2000), (1, .int (nI 17))] [.int (nI 17), .ref 3000] hp = _
  rw [cal_eq (sb_0_17 hp) rfl rfl (chk_rf _ _ _)]
  rfl
theorem sb_0_18 (hp : HP) : EJ1_charAt_3b067 [.ref 3000, .int (nI 18)] hp = some (nI 111) := by
  show oCal 2 none EJ0_checkIndex_df160 fU (oAld 0 (oIld 1 (oSat (oConst (.int 255) (oiand (oi2c (oCretP))))))) [(0, .ref 3000), (1, .int (nI 18))] [.int (nI 44), .int (nI 18)] hp = _
  rw [cal_eq (sj_ck hp (j := nI 18) (n := nI 44) (by decide) (by decide)) rfl rfl (chk_rf _ _ _)]
  rfl
theorem sc_0_18 (hp : HP) : EJ0_charAt_5068e [.ref 2000, .int (nI 18)] hp = some (nI 111) := by
  show oCal 1 (some 99) EJ0_isLatin1_aae02 fZ (oIfeq (kN) (oAld 0 (oSvl (oIld 1 (oCal 2 none EJ1_charAt_3b067 fI (oCretP)))))) [(0, .ref 2000), (1, .int (nI 18))] [.ref 2000] hp = _
  rw [cal_eq (si_0 hp) rfl rfl (chk_rf _ _ _)]
  show oCal 2 none EJ1_charAt_3b067 fI (oCretP) [(0, .ref 2000), (1, .int (nI 18))] [.int (nI 18), .ref 3000] hp = _
  rw [cal_eq (sb_0_18 hp) rfl rfl (chk_rf _ _ _)]
  rfl
theorem sb_0_19 (hp : HP) : EJ1_charAt_3b067 [.ref 3000, .int (nI 19)] hp = some (nI 110) := by
  show oCal 2 none EJ0_checkIndex_df160 fU (oAld 0 (oIld 1 (oSat (oConst (.int 255) (oiand (oi2c (oCretP))))))) [(0, .ref 3000), (1, .int (nI 19))] [.int (nI 44), .int (nI 19)] hp = _
  rw [cal_eq (sj_ck hp (j := nI 19) (n := nI 44) (by decide) (by decide)) rfl rfl (chk_rf _ _ _)]
  rfl
theorem sc_0_19 (hp : HP) : EJ0_charAt_5068e [.ref 2000, .int (nI 19)] hp = some (nI 110) := by
  show oCal 1 (some 99) EJ0_isLatin1_aae02 fZ (oIfeq (kN) (oAld 0 (oSvl (oIld 1 (oCal 2 none EJ1_charAt_3b067 fI (oCretP)))))) [(0, .ref 2000), (1, .int (nI 19))] [.ref 2000] hp = _
  rw [cal_eq (si_0 hp) rfl rfl (chk_rf _ _ _)]
  show oCal 2 none EJ1_charAt_3b067 fI (oCretP) [(0, .ref 2000), (1, .int (nI 19))] [.int (nI 19), .ref 3000] hp = _
  rw [cal_eq (sb_0_19 hp) rfl rfl (chk_rf _ _ _)]
  rfl
theorem sb_0_20 (hp : HP) : EJ1_charAt_3b067 [.ref 3000, .int (nI 20)] hp = some (nI 32) := by
  show oCal 2 none EJ0_checkIndex_df160 fU (oAld 0 (oIld 1 (oSat (oConst (.int 255) (oiand (oi2c (oCretP))))))) [(0, .ref 3000), (1, .int (nI 20))] [.int (nI 44), .int (nI 20)] hp = _
  rw [cal_eq (sj_ck hp (j := nI 20) (n := nI 44) (by decide) (by decide)) rfl rfl (chk_rf _ _ _)]
  rfl
theorem sc_0_20 (hp : HP) : EJ0_charAt_5068e [.ref 2000, .int (nI 20)] hp = some (nI 32) := by
  show oCal 1 (some 99) EJ0_isLatin1_aae02 fZ (oIfeq (kN) (oAld 0 (oSvl (oIld 1 (oCal 2 none EJ1_charAt_3b067 fI (oCretP)))))) [(0, .ref 2000), (1, .int (nI 20))] [.ref 2000] hp = _
  rw [cal_eq (si_0 hp) rfl rfl (chk_rf _ _ _)]
  show oCal 2 none EJ1_charAt_3b067 fI (oCretP) [(0, .ref 2000), (1, .int (nI 20))] [.int (nI 20), .ref 3000] hp = _
  rw [cal_eq (sb_0_20 hp) rfl rfl (chk_rf _ _ _)]
  rfl
theorem sb_0_21 (hp : HP) : EJ1_charAt_3b067 [.ref 3000, .int (nI 21)] hp = some (nI 103) := by
  show oCal 2 none EJ0_checkIndex_df160 fU (oAld 0 (oIld 1 (oSat (oConst (.int 255) (oiand (oi2c (oCretP))))))) [(0, .ref 3000), (1, .int (nI 21))] [.int (nI 44), .int (nI 21)] hp = _
  rw [cal_eq (sj_ck hp (j := nI 21) (n := nI 44) (by decide) (by decide)) rfl rfl (chk_rf _ _ _)]
  rfl
theorem sc_0_21 (hp : HP) : EJ0_charAt_5068e [.ref 2000, .int (nI 21)] hp = some (nI 103) := by
  show oCal 1 (some 99) EJ0_isLatin1_aae02 fZ (oIfeq (kN) (oAld 0 (oSvl (oIld 1 (oCal 2 none EJ1_charAt_3b067 fI (oCretP)))))) [(0, .ref 2000), (1, .int (nI 21))] [.ref 2000] hp = _
  rw [cal_eq (si_0 hp) rfl rfl (chk_rf _ _ _)]
  show oCal 2 none EJ1_charAt_3b067 fI (oCretP) [(0, .ref 2000), (1, .int (nI 21))] [.int (nI 21), .ref 3000] hp = _
  rw [cal_eq (sb_0_21 hp) rfl rfl (chk_rf _ _ _)]
  rfl
theorem sb_0_22 (hp : HP) : EJ1_charAt_3b067 [.ref 3000, .int (nI 22)] hp = some (nI 97) := by
  show oCal 2 none EJ0_checkIndex_df160 fU (oAld 0 (oIld 1 (oSat (oConst (.int 255) (oiand (oi2c (oCretP))))))) [(0, .ref 3000), (1, .int (nI 22))] [.int (nI 44), .int (nI 22)] hp = _
  rw [cal_eq (sj_ck hp (j := nI 22) (n := nI 44) (by decide) (by decide)) rfl rfl (chk_rf _ _ _)]
  rfl
theorem sc_0_22 (hp : HP) : EJ0_charAt_5068e [.ref 2000, .int (nI 22)] hp = some (nI 97) := by
  show oCal 1 (some 99) EJ0_isLatin1_aae02 fZ (oIfeq (kN) (oAld 0 (oSvl (oIld 1 (oCal 2 none EJ1_charAt_3b067 fI (oCretP)))))) [(0, .ref 2000), (1, .int (nI 22))] [.ref 2000] hp = _
  rw [cal_eq (si_0 hp) rfl rfl (chk_rf _ _ _)]
  show oCal 2 none EJ1_charAt_3b067 fI (oCretP) [(0, .ref 2000), (1, .int (nI 22))] [.int (nI 22), .ref 3000] hp = _
  rw [cal_eq (sb_0_22 hp) rfl rfl (chk_rf _ _ _)]
  rfl
theorem sb_0_23 (hp : HP) : EJ1_charAt_3b067 [.ref 3000, .int (nI 23)] hp = some (nI 116) := by
  show oCal 2 none EJ0_checkIndex_df160 fU (oAld 0 (oIld 1 (oSat (oConst (.int 255) (oiand (oi2c (oCretP))))))) [(0, .ref 3000), (1, .int (nI 23))] [.int (nI 44), .int (nI 23)] hp = _
  rw [cal_eq (sj_ck hp (j := nI 23) (n := nI 44) (by decide) (by decide)) rfl rfl (chk_rf _ _ _)]
  rfl
theorem sc_0_23 (hp : HP) : EJ0_charAt_5068e [.ref 2000, .int (nI 23)] hp = some (nI 116) := by
  show oCal 1 (some 99) EJ0_isLatin1_aae02 fZ (oIfeq (kN) (oAld 0 (oSvl (oIld 1 (oCal 2 none EJ1_charAt_3b067 fI (oCretP)))))) [(0, .ref 2000), (1, .int (nI 23))] [.ref 2000] hp = _
  rw [cal_eq (si_0 hp) rfl rfl (chk_rf _ _ _)]
  show oCal 2 none EJ1_charAt_3b067 fI (oCretP) [(0, .ref 2000), (1, .int (nI 23))] [.int (nI 23), .ref 3000] hp = _
  rw [cal_eq (sb_0_23 hp) rfl rfl (chk_rf _ _ _)]
  rfl
theorem sb_0_24 (hp : HP) : EJ1_charAt_3b067 [.ref 3000, .int (nI 24)] hp = some (nI 101) := by
  show oCal 2 none EJ0_checkIndex_df160 fU (oAld 0 (oIld 1 (oSat (oConst (.int 255) (oiand (oi2c (oCretP))))))) [(0, .ref 3000), (1, .int (nI 24))] [.int (nI 44), .int (nI 24)] hp = _
  rw [cal_eq (sj_ck hp (j := nI 24) (n := nI 44) (by decide) (by decide)) rfl rfl (chk_rf _ _ _)]
  rfl
theorem sc_0_24 (hp : HP) : EJ0_charAt_5068e [.ref 2000, .int (nI 24)] hp = some (nI 101) := by
  show oCal 1 (some 99) EJ0_isLatin1_aae02 fZ (oIfeq (kN) (oAld 0 (oSvl (oIld 1 (oCal 2 none EJ1_charAt_3b067 fI (oCretP)))))) [(0, .ref 2000), (1, .int (nI 24))] [.ref 2000] hp = _
  rw [cal_eq (si_0 hp) rfl rfl (chk_rf _ _ _)]
  show oCal 2 none EJ1_charAt_3b067 fI (oCretP) [(0, .ref 2000), (1, .int (nI 24))] [.int (nI 24), .ref 3000] hp = _
  rw [cal_eq (sb_0_24 hp) rfl rfl (chk_rf _ _ _)]
  rfl
theorem sb_0_25 (hp : HP) : EJ1_charAt_3b067 [.ref 3000, .int (nI 25)] hp = some (nI 32) := by
  show oCal 2 none EJ0_checkIndex_df160 fU (oAld 0 (oIld 1 (oSat (oConst (.int 255) (oiand (oi2c (oCretP))))))) [(0, .ref 3000), (1, .int (nI 25))] [.int (nI 44), .int (nI 25)] hp = _
  rw [cal_eq (sj_ck hp (j := nI 25) (n := nI 44) (by decide) (by decide)) rfl rfl (chk_rf _ _ _)]
  rfl
theorem sc_0_25 (hp : HP) : EJ0_charAt_5068e [.ref 2000, .int (nI 25)] hp = some (nI 32) := by
  show oCal 1 (some 99) EJ0_isLatin1_aae02 fZ (oIfeq (kN) (oAld 0 (oSvl (oIld 1 (oCal 2 none EJ1_charAt_3b067 fI (oCretP)))))) [(0, .ref 2000), (1, .int (nI 25))] [.ref 2000] hp = _
  rw [cal_eq (si_0 hp) rfl rfl (chk_rf _ _ _)]
  show oCal 2 none EJ1_charAt_3b067 fI (oCretP) [(0, .ref 2000), (1, .int (nI 25))] [.int (nI 25), .ref 3000] hp = _
  rw [cal_eq (sb_0_25 hp) rfl rfl (chk_rf _ _ _)]
  rfl
theorem sb_0_26 (hp : HP) : EJ1_charAt_3b067 [.ref 3000, .int (nI 26)] hp = some (nI 110) := by
  show oCal 2 none EJ0_checkIndex_df160 fU (oAld 0 (oIld 1 (oSat (oConst (.int 255) (oiand (oi2c (oCretP))))))) [(0, .ref 3000), (1, .int (nI 26))] [.int (nI 44), .int (nI 26)] hp = _
  rw [cal_eq (sj_ck hp (j := nI 26) (n := nI 44) (by decide) (by decide)) rfl rfl (chk_rf _ _ _)]
  rfl
theorem sc_0_26 (hp : HP) : EJ0_charAt_5068e [.ref 2000, .int (nI 26)] hp = some (nI 110) := by
  show oCal 1 (some 99) EJ0_isLatin1_aae02 fZ (oIfeq (kN) (oAld 0 (oSvl (oIld 1 (oCal 2 none EJ1_charAt_3b067 fI (oCretP)))))) [(0, .ref 2000), (1, .int (nI 26))] [.ref 2000] hp = _
  rw [cal_eq (si_0 hp) rfl rfl (chk_rf _ _ _)]
  show oCal 2 none EJ1_charAt_3b067 fI (oCretP) [(0, .ref 2000), (1, .int (nI 26))] [.int (nI 26), .ref 3000] hp = _
  rw [cal_eq (sb_0_26 hp) rfl rfl (chk_rf _ _ _)]
  rfl
theorem sb_0_27 (hp : HP) : EJ1_charAt_3b067 [.ref 3000, .int (nI 27)] hp = some (nI 111) := by
  show oCal 2 none EJ0_checkIndex_df160 fU (oAld 0 (oIld 1 (oSat (oConst (.int 255) (oiand (oi2c (oCretP))))))) [(0, .ref 3000), (1, .int (nI 27))] [.int (nI 44), .int (nI 27)] hp = _
  rw [cal_eq (sj_ck hp (j := nI 27) (n := nI 44) (by decide) (by decide)) rfl rfl (chk_rf _ _ _)]
  rfl
theorem sc_0_27 (hp : HP) : EJ0_charAt_5068e [.ref 2000, .int (nI 27)] hp = some (nI 111) := by
  show oCal 1 (some 99) EJ0_isLatin1_aae02 fZ (oIfeq (kN) (oAld 0 (oSvl (oIld 1 (oCal 2 none EJ1_charAt_3b067 fI (oCretP)))))) [(0, .ref 2000), (1, .int (nI 27))] [.ref 2000] hp = _
  rw [cal_eq (si_0 hp) rfl rfl (chk_rf _ _ _)]
  show oCal 2 none EJ1_charAt_3b067 fI (oCretP) [(0, .ref 2000), (1, .int (nI 27))] [.int (nI 27), .ref 3000] hp = _
  rw [cal_eq (sb_0_27 hp) rfl rfl (chk_rf _ _ _)]
  rfl
theorem sb_0_28 (hp : HP) : EJ1_charAt_3b067 [.ref 3000, .int (nI 28)] hp = some (nI 105) := by
  show oCal 2 none EJ0_checkIndex_df160 fU (oAld 0 (oIld 1 (oSat (oConst (.int 255) (oiand (oi2c (oCretP))))))) [(0, .ref 3000), (1, .int (nI 28))] [.int (nI 44), .int (nI 28)] hp = _
  rw [cal_eq (sj_ck hp (j := nI 28) (n := nI 44) (by decide) (by decide)) rfl rfl (chk_rf _ _ _)]
  rfl
theorem sc_0_28 (hp : HP) : EJ0_charAt_5068e [.ref 2000, .int (nI 28)] hp = some (nI 105) := by
  show oCal 1 (some 99) EJ0_isLatin1_aae02 fZ (oIfeq (kN) (oAld 0 (oSvl (oIld 1 (oCal 2 none EJ1_charAt_3b067 fI (oCretP)))))) [(0, .ref 2000), (1, .int (nI 28))] [.ref 2000] hp = _
  rw [cal_eq (si_0 hp) rfl rfl (chk_rf _ _ _)]
  show oCal 2 none EJ1_charAt_3b067 fI (oCretP) [(0, .ref 2000), (1, .int (nI 28))] [.int (nI 28), .ref 3000] hp = _
  rw [cal_eq (sb_0_28 hp) rfl rfl (chk_rf _ _ _)]
  rfl
theorem sb_0_29 (hp : HP) : EJ1_charAt_3b067 [.ref 3000, .int (nI 29)] hp = some (nI 115) := by
  show oCal 2 none EJ0_checkIndex_df160 fU (oAld 0 (oIld 1 (oSat (oConst (.int 255) (oiand (oi2c (oCretP))))))) [(0, .ref 3000), (1, .int (nI 29))] [.int (nI 44), .int (nI 29)] hp = _
  rw [cal_eq (sj_ck hp (j := nI 29) (n := nI 44) (by decide) (by decide)) rfl rfl (chk_rf _ _ _)]
  rfl
theorem sc_0_29 (hp : HP) : EJ0_charAt_5068e [.ref 2000, .int (nI 29)] hp = some (nI 115) := by
  show oCal 1 (some 99) EJ0_isLatin1_aae02 fZ (oIfeq (kN) (oAld 0 (oSvl (oIld 1 (oCal 2 none EJ1_charAt_3b067 fI (oCretP)))))) [(0, .ref 2000), (1, .int (nI 29))] [.ref 2000] hp = _
  rw [cal_eq (si_0 hp) rfl rfl (chk_rf _ _ _)]
  show oCal 2 none EJ1_charAt_3b067 fI (oCretP) [(0, .ref 2000), (1, .int (nI 29))] [.int (nI 29), .ref 3000] hp = _
  rw [cal_eq (sb_0_29 hp) rfl rfl (chk_rf _ _ _)]
  rfl
theorem sb_0_30 (hp : HP) : EJ1_charAt_3b067 [.ref 3000, .int (nI 30)] hp = some (nI 101) := by
  show oCal 2 none EJ0_checkIndex_df160 fU (oAld 0 (oIld 1 (oSat (oConst (.int 255) (oiand (oi2c (oCretP))))))) [(0, .ref 3000), (1, .int (nI 30))] [.int (nI 44), .int (nI 30)] hp = _
  rw [cal_eq (sj_ck hp (j := nI 30) (n := nI 44) (by decide) (by decide)) rfl rfl (chk_rf _ _ _)]
  rfl
theorem sc_0_30 (hp : HP) : EJ0_charAt_5068e [.ref 2000, .int (nI 30)] hp = some (nI 101) := by
  show oCal 1 (some 99) EJ0_isLatin1_aae02 fZ (oIfeq (kN) (oAld 0 (oSvl (oIld 1 (oCal 2 none EJ1_charAt_3b067 fI (oCretP)))))) [(0, .ref 2000), (1, .int (nI 30))] [.ref 2000] hp = _
  rw [cal_eq (si_0 hp) rfl rfl (chk_rf _ _ _)]
  show oCal 2 none EJ1_charAt_3b067 fI (oCretP) [(0, .ref 2000), (1, .int (nI 30))] [.int (nI 30), .ref 3000] hp = _
  rw [cal_eq (sb_0_30 hp) rfl rfl (chk_rf _ _ _)]
  rfl
theorem sb_0_31 (hp : HP) : EJ1_charAt_3b067 [.ref 3000, .int (nI 31)] hp = some (nI 32) := by
  show oCal 2 none EJ0_checkIndex_df160 fU (oAld 0 (oIld 1 (oSat (oConst (.int 255) (oiand (oi2c (oCretP))))))) [(0, .ref 3000), (1, .int (nI 31))] [.int (nI 44), .int (nI 31)] hp = _
  rw [cal_eq (sj_ck hp (j := nI 31) (n := nI 44) (by decide) (by decide)) rfl rfl (chk_rf _ _ _)]
  rfl
theorem sc_0_31 (hp : HP) : EJ0_charAt_5068e [.ref 2000, .int (nI 31)] hp = some (nI 32) := by
  show oCal 1 (some 99) EJ0_isLatin1_aae02 fZ (oIfeq (kN) (oAld 0 (oSvl (oIld 1 (oCal 2 none EJ1_charAt_3b067 fI (oCretP)))))) [(0, .ref 2000), (1, .int (nI 31))] [.ref 2000] hp = _
  rw [cal_eq (si_0 hp) rfl rfl (chk_rf _ _ _)]
  show oCal 2 none EJ1_charAt_3b067 fI (oCretP) [(0, .ref 2000), (1, .int (nI 31))] [.int (nI 31), .ref 3000] hp = _
  rw [cal_eq (sb_0_31 hp) rfl rfl (chk_rf _ _ _)]
  rfl
theorem sb_0_32 (hp : HP) : EJ1_charAt_3b067 [.ref 3000, .int (nI 32)] hp = some (nI 104) := by
  show oCal 2 none EJ0_checkIndex_df160 fU (oAld 0 (oIld 1 (oSat (oConst (.int 255) (oiand (oi2c (oCretP))))))) [(0, .ref 3000), (1, .int (nI 32))] [.int (nI 44), .int (nI 32)] hp = _
  rw [cal_eq (sj_ck hp (j := nI 32) (n := nI 44) (by decide) (by decide)) rfl rfl (chk_rf _ _ _)]
  rfl
theorem sc_0_32 (hp : HP) : EJ0_charAt_5068e [.ref 2000, .int (nI 32)] hp = some (nI 104) := by
  show oCal 1 (some 99) EJ0_isLatin1_aae02 fZ (oIfeq (kN) (oAld 0 (oSvl (oIld 1 (oCal 2 none EJ1_charAt_3b067 fI (oCretP)))))) [(0, .ref 2000), (1, .int (nI 32))] [.ref 2000] hp = _
  rw [cal_eq (si_0 hp) rfl rfl (chk_rf _ _ _)]
  show oCal 2 none EJ1_charAt_3b067 fI (oCretP) [(0, .ref 2000), (1, .int (nI 32))] [.int (nI 32), .ref 3000] hp = _
  rw [cal_eq (sb_0_32 hp) rfl rfl (chk_rf _ _ _)]
  rfl
theorem sb_0_33 (hp : HP) : EJ1_charAt_3b067 [.ref 3000, .int (nI 33)] hp = some (nI 101) := by
  show oCal 2 none EJ0_checkIndex_df160 fU (oAld 0 (oIld 1 (oSat (oConst (.int 255) (oiand (oi2c (oCretP))))))) [(0, .ref 3000), (1, .int (nI 33))] [.int (nI 44), .int (nI 33)] hp = _
  rw [cal_eq (sj_ck hp (j := nI 33) (n := nI 44) (by decide) (by decide)) rfl rfl (chk_rf _ _ _)]
  rfl
theorem sc_0_33 (hp : HP) : EJ0_charAt_5068e [.ref 2000, .int (nI 33)] hp = some (nI 101) := by
  show oCal 1 (some 99) EJ0_isLatin1_aae02 fZ (oIfeq (kN) (oAld 0 (oSvl (oIld 1 (oCal 2 none EJ1_charAt_3b067 fI (oCretP)))))) [(0, .ref 2000), (1, .int (nI 33))] [.ref 2000] hp = _
  rw [cal_eq (si_0 hp) rfl rfl (chk_rf _ _ _)]
  show oCal 2 none EJ1_charAt_3b067 fI (oCretP) [(0, .ref 2000), (1, .int (nI 33))] [.int (nI 33), .ref 3000] hp = _
  rw [cal_eq (sb_0_33 hp) rfl rfl (chk_rf _ _ _)]
  rfl
theorem sb_0_34 (hp : HP) : EJ1_charAt_3b067 [.ref 3000, .int (nI 34)] hp = some (nI 97) := by
  show oCal 2 none EJ0_checkIndex_df160 fU (oAld 0 (oIld 1 (oSat (oConst (.int 255) (oiand (oi2c (oCretP))))))) [(0, .ref 3000), (1, .int (nI 34))] [.int (nI 44), .int (nI 34)] hp = _
  rw [cal_eq (sj_ck hp (j := nI 34) (n := nI 44) (by decide) (by decide)) rfl rfl (chk_rf _ _ _)]
  rfl
theorem sc_0_34 (hp : HP) : EJ0_charAt_5068e [.ref 2000, .int (nI 34)] hp = some (nI 97) := by
  show oCal 1 (some 99) EJ0_isLatin1_aae02 fZ (oIfeq (kN) (oAld 0 (oSvl (oIld 1 (oCal 2 none EJ1_charAt_3b067 fI (oCretP)))))) [(0, .ref 2000), (1, .int (nI 34))] [.ref 2000] hp = _
  rw [cal_eq (si_0 hp) rfl rfl (chk_rf _ _ _)]
  show oCal 2 none EJ1_charAt_3b067 fI (oCretP) [(0, .ref 2000), (1, .int (nI 34))] [.int (nI 34), .ref 3000] hp = _
  rw [cal_eq (sb_0_34 hp) rfl rfl (chk_rf _ _ _)]
  rfl
theorem sb_0_35 (hp : HP) : EJ1_charAt_3b067 [.ref 3000, .int (nI 35)] hp = some (nI 114) := by
  show oCal 2 none EJ0_checkIndex_df160 fU (oAld 0 (oIld 1 (oSat (oConst (.int 255) (oiand (oi2c (oCretP))))))) [(0, .ref 3000), (1, .int (nI 35))] [.int (nI 44), .int (nI 35)] hp = _
  rw [cal_eq (sj_ck hp (j := nI 35) (n := nI 44) (by decide) (by decide)) rfl rfl (chk_rf _ _ _)]
  rfl
theorem sc_0_35 (hp : HP) : EJ0_charAt_5068e [.ref 2000, .int (nI 35)] hp = some (nI 114) := by
  show oCal 1 (some 99) EJ0_isLatin1_aae02 fZ (oIfeq (kN) (oAld 0 (oSvl (oIld 1 (oCal 2 none EJ1_charAt_3b067 fI (oCretP)))))) [(0, .ref 2000), (1, .int (nI 35))] [.ref 2000] hp = _
  rw [cal_eq (si_0 hp) rfl rfl (chk_rf _ _ _)]
  show oCal 2 none EJ1_charAt_3b067 fI (oCretP) [(0, .ref 2000), (1, .int (nI 35))] [.int (nI 35), .ref 3000] hp = _
  rw [cal_eq (sb_0_35 hp) rfl rfl (chk_rf _ _ _)]
  rfl
theorem sb_0_36 (hp : HP) : EJ1_charAt_3b067 [.ref 3000, .int (nI 36)] hp = some (nI 100) := by
  show oCal 2 none EJ0_checkIndex_df160 fU (oAld 0 (oIld 1 (oSat (oConst (.int 255) (oiand (oi2c (oCretP))))))) [(0, .ref 3000), (1, .int (nI 36))] [.int (nI 44), .int (nI 36)] hp = _
  rw [cal_eq (sj_ck hp (j := nI 36) (n := nI 44) (by decide) (by decide)) rfl rfl (chk_rf _ _ _)]
  rfl
theorem sc_0_36 (hp : HP) : EJ0_charAt_5068e [.ref 2000, .int (nI 36)] hp = some (nI 100) := by
  show oCal 1 (some 99) EJ0_isLatin1_aae02 fZ (oIfeq (kN) (oAld 0 (oSvl (oIld 1 (oCal 2 none EJ1_charAt_3b067 fI (oCretP)))))) [(0, .ref 2000), (1, .int (nI 36))] [.ref 2000] hp = _
  rw [cal_eq (si_0 hp) rfl rfl (chk_rf _ _ _)]
  show oCal 2 none EJ1_charAt_3b067 fI (oCretP) [(0, .ref 2000), (1, .int (nI 36))] [.int (nI 36), .ref 3000] hp = _
  rw [cal_eq (sb_0_36 hp) rfl rfl (chk_rf _ _ _)]
  rfl
theorem sb_0_37 (hp : HP) : EJ1_charAt_3b067 [.ref 3000, .int (nI 37)] hp = some (nI 32) := by
  show oCal 2 none EJ0_checkIndex_df160 fU (oAld 0 (oIld 1 (oSat (oConst (.int 255) (oiand (oi2c (oCretP))))))) [(0, .ref 3000), (1, .int (nI 37))] [.int (nI 44), .int (nI 37)] hp = _
  rw [cal_eq (sj_ck hp (j := nI 37) (n := nI 44) (by decide) (by decide)) rfl rfl (chk_rf _ _ _)]
  rfl
theorem sc_0_37 (hp : HP) : EJ0_charAt_5068e [.ref 2000, .int (nI 37)] hp = some (nI 32) := by
  show oCal 1 (some 99) EJ0_isLatin1_aae02 fZ (oIfeq (kN) (oAld 0 (oSvl (oIld 1 (oCal 2 none EJ1_charAt_3b067 fI (oCretP)))))) [(0, .ref 2000), (1, .int (nI 37))] [.ref 2000] hp = _
  rw [cal_eq (si_0 hp) rfl rfl (chk_rf _ _ _)]
  show oCal 2 none EJ1_charAt_3b067 fI (oCretP) [(0, .ref 2000), (1, .int (nI 37))] [.int (nI 37), .ref 3000] hp = _
  rw [cal_eq (sb_0_37 hp) rfl rfl (chk_rf _ _ _)]
  rfl
theorem sb_0_38 (hp : HP) : EJ1_charAt_3b067 [.ref 3000, .int (nI 38)] hp = some (nI 119) := by
  show oCal 2 none EJ0_checkIndex_df160 fU (oAld 0 (oIld 1 (oSat (oConst (.int 255) (oiand (oi2c (oCretP))))))) [(0, .ref 3000), (1, .int (nI 38))] [.int (nI 44), .int (nI 38)] hp = _
  rw [cal_eq (sj_ck hp (j := nI 38) (n := nI 44) (by decide) (by decide)) rfl rfl (chk_rf _ _ _)]
  rfl
theorem sc_0_38 (hp : HP) : EJ0_charAt_5068e [.ref 2000, .int (nI 38)] hp = some (nI 119) := by
  show oCal 1 (some 99) EJ0_isLatin1_aae02 fZ (oIfeq (kN) (oAld 0 (oSvl (oIld 1 (oCal 2 none EJ1_charAt_3b067 fI (oCretP)))))) [(0, .ref 2000), (1, .int (nI 38))] [.ref 2000] hp = _
  rw [cal_eq (si_0 hp) rfl rfl (chk_rf _ _ _)]
  show oCal 2 none EJ1_charAt_3b067 fI (oCretP) [(0, .ref 2000), (1, .int (nI 38))] [.int (nI 38), .ref 3000] hp = _
  rw [cal_eq (sb_0_38 hp) rfl rfl (chk_rf _ _ _)]
  rfl
theorem sb_0_39 (hp : HP) : EJ1_charAt_3b067 [.ref 3000, .int (nI 39)] hp = some (nI 97) := by
  show oCal 2 none EJ0_checkIndex_df160 fU (oAld 0 (oIld 1 (oSat (oConst (.int 255) (oiand (oi2c (oCretP))))))) [(0, .ref 3000), (1, .int (nI 39))] [.int (nI 44), .int (nI 39)] hp = _
  rw [cal_eq (sj_ck hp (j := nI 39) (n := nI 44) (by decide) (by decide)) rfl rfl (chk_rf _ _ _)]
  rfl
theorem sc_0_39 (hp : HP) : EJ0_charAt_5068e [.ref 2000, .int (nI 39)] hp = some (nI 97) := by
  show oCal 1 (some 99) EJ0_isLatin1_aae02 fZ (oIfeq (kN) (oAld 0 (oSvl (oIld 1 (oCal 2 none EJ1_charAt_3b067 fI (oCretP)))))) [(0, .ref 2000), (1, .int (nI 39))] [.ref 2000] hp = _
  rw [cal_eq (si_0 hp) rfl rfl (chk_rf _ _ _)]
  show oCal 2 none EJ1_charAt_3b067 fI (oCretP) [(0, .ref 2000), (1, .int (nI 39))] [.int (nI 39), .ref 3000] hp = _
  rw [cal_eq (sb_0_39 hp) rfl rfl (chk_rf _ _ _)]
  rfl
theorem sb_0_40 (hp : HP) : EJ1_charAt_3b067 [.ref 3000, .int (nI 40)] hp = some (nI 108) := by
  show oCal 2 none EJ0_checkIndex_df160 fU (oAld 0 (oIld 1 (oSat (oConst (.int 255) (oiand (oi2c (oCretP))))))) [(0, .ref 3000), (1, .int (nI 40))] [.int (nI 44), .int (nI 40)] hp = _
  rw [cal_eq (sj_ck hp (j := nI 40) (n := nI 44) (by decide) (by decide)) rfl rfl (chk_rf _ _ _)]
  rfl
theorem sc_0_40 (hp : HP) : EJ0_charAt_5068e [.ref 2000, .int (nI 40)] hp = some (nI 108) := by
  show oCal 1 (some 99) EJ0_isLatin1_aae02 fZ (oIfeq (kN) (oAld 0 (oSvl (oIld 1 (oCal 2 none EJ1_charAt_3b067 fI (oCretP)))))) [(0, .ref 2000), (1, .int (nI 40))] [.ref 2000] hp = _
  rw [cal_eq (si_0 hp) rfl rfl (chk_rf _ _ _)]
  show oCal 2 none EJ1_charAt_3b067 fI (oCretP) [(0, .ref 2000), (1, .int (nI 40))] [.int (nI 40), .ref 3000] hp = _
  rw [cal_eq (sb_0_40 hp) rfl rfl (chk_rf _ _ _)]
  rfl
theorem sb_0_41 (hp : HP) : EJ1_charAt_3b067 [.ref 3000, .int (nI 41)] hp = some (nI 107) := by
  show oCal 2 none EJ0_checkIndex_df160 fU (oAld 0 (oIld 1 (oSat (oConst (.int 255) (oiand (oi2c (oCretP))))))) [(0, .ref 3000), (1, .int (nI 41))] [.int (nI 44), .int (nI 41)] hp = _
  rw [cal_eq (sj_ck hp (j := nI 41) (n := nI 44) (by decide) (by decide)) rfl rfl (chk_rf _ _ _)]
  rfl
theorem sc_0_41 (hp : HP) : EJ0_charAt_5068e [.ref 2000, .int (nI 41)] hp = some (nI 107) := by
  show oCal 1 (some 99) EJ0_isLatin1_aae02 fZ (oIfeq (kN) (oAld 0 (oSvl (oIld 1 (oCal 2 none EJ1_charAt_3b067 fI (oCretP)))))) [(0, .ref 2000), (1, .int (nI 41))] [.ref 2000] hp = _
  rw [cal_eq (si_0 hp) rfl rfl (chk_rf _ _ _)]
  show oCal 2 none EJ1_charAt_3b067 fI (oCretP) [(0, .ref 2000), (1, .int (nI 41))] [.int (nI 41), .ref 3000] hp = _
  rw [cal_eq (sb_0_41 hp) rfl rfl (chk_rf _ _ _)]
  rfl
theorem sb_0_42 (hp : HP) : EJ1_charAt_3b067 [.ref 3000, .int (nI 42)] hp = some (nI 101) := by
  show oCal 2 none EJ0_checkIndex_df160 fU (oAld 0 (oIld 1 (oSat (oConst (.int 255) (oiand (oi2c (oCretP))))))) [(0, .ref 3000), (1, .int (nI 42))] [.int (nI 44), .int (nI 42)] hp = _
  rw [cal_eq (sj_ck hp (j := nI 42) (n := nI 44) (by decide) (by decide)) rfl rfl (chk_rf _ _ _)]
  rfl
theorem sc_0_42 (hp : HP) : EJ0_charAt_5068e [.ref 2000, .int (nI 42)] hp = some (nI 101) := by
  show oCal 1 (some 99) EJ0_isLatin1_aae02 fZ (oIfeq (kN) (oAld 0 (oSvl (oIld 1 (oCal 2 none EJ1_charAt_3b067 fI (oCretP)))))) [(0, .ref 2000), (1, .int (nI 42))] [.ref 2000] hp = _
  rw [cal_eq (si_0 hp) rfl rfl (chk_rf _ _ _)]
  show oCal 2 none EJ1_charAt_3b067 fI (oCretP) [(0, .ref 2000), (1, .int (nI 42))] [.int (nI 42), .ref 3000] hp = _
  rw [cal_eq (sb_0_42 hp) rfl rfl (chk_rf _ _ _)]
  rfl
theorem sb_0_43 (hp : HP) : EJ1_charAt_3b067 [.ref 3000, .int (nI 43)] hp = some (nI 114) := by
  show oCal 2 none EJ0_checkIndex_df160 fU (oAld 0 (oIld 1 (oSat (oConst (.int 255) (oiand (oi2c (oCretP))))))) [(0, .ref 3000), (1, .int (nI 43))] [.int (nI 44), .int (nI 43)] hp = _
  rw [cal_eq (sj_ck hp (j := nI 43) (n := nI 44) (by decide) (by decide)) rfl rfl (chk_rf _ _ _)]
  rfl
theorem sc_0_43 (hp : HP) : EJ0_charAt_5068e [.ref 2000, .int (nI 43)] hp = some (nI 114) := by
  show oCal 1 (some 99) EJ0_isLatin1_aae02 fZ (oIfeq (kN) (oAld 0 (oSvl (oIld 1 (oCal 2 none EJ1_charAt_3b067 fI (oCretP)))))) [(0, .ref 2000), (1, .int (nI 43))] [.ref 2000] hp = _
  rw [cal_eq (si_0 hp) rfl rfl (chk_rf _ _ _)]
  show oCal 2 none EJ1_charAt_3b067 fI (oCretP) [(0, .ref 2000), (1, .int (nI 43))] [.int (nI 43), .ref 3000] hp = _
  rw [cal_eq (sb_0_43 hp) rfl rfl (chk_rf _ _ _)]
  rfl
theorem sc_0 (hp : HP) : ∀ k, k < 44 → EJ0_charAt_5068e [.ref 2000, .int (nI k)] hp = some (nI (sx_0 k)) := fun k hk => by
  rcases (by omega : k = 0 ∨ k = 1 ∨ k = 2 ∨ k = 3 ∨ k = 4 ∨ k = 5 ∨ k = 6 ∨ k = 7 ∨ k = 8 ∨ k = 9 ∨ k = 10 ∨ k = 11 ∨ k = 12 ∨ k = 13 ∨ k = 14 ∨ k = 15 ∨ k = 16 ∨ k = 17 ∨ k = 18 ∨ k = 19 ∨ k = 20 ∨ k = 21 ∨ k = 22 ∨ k = 23 ∨ k = 24 ∨ k = 25 ∨ k = 26 ∨ k = 27 ∨ k = 28 ∨ k = 29 ∨ k = 30 ∨ k = 31 ∨ k = 32 ∨ k = 33 ∨ k = 34 ∨ k = 35 ∨ k = 36 ∨ k = 37 ∨ k = 38 ∨ k = 39 ∨ k = 40 ∨ k = 41 ∨ k = 42 ∨ k = 43) with rfl | rfl | rfl | rfl | rfl | rfl | rfl | rfl | rfl | rfl | rfl | rfl | rfl | rfl | rfl | rfl | rfl | rfl | rfl | rfl | rfl | rfl | rfl | rfl | rfl | rfl | rfl | rfl | rfl | rfl | rfl | rfl | rfl | rfl | rfl | rfl | rfl | rfl | rfl | rfl | rfl | rfl | rfl | rfl
  · exact sc_0_0 hp
  · exact sc_0_1 hp
  · exact sc_0_2 hp
  · exact sc_0_3 hp
  · exact sc_0_4 hp
  · exact sc_0_5 hp
  · exact sc_0_6 hp
  · exact sc_0_7 hp
  · exact sc_0_8 hp
  · exact sc_0_9 hp
  · exact sc_0_10 hp
  · exact sc_0_11 hp
  · exact sc_0_12 hp
  · exact sc_0_13 hp
  · exact sc_0_14 hp
  · exact sc_0_15 hp
  · exact sc_0_16 hp
  · exact sc_0_17 hp
  · exact sc_0_18 hp
  · exact sc_0_19 hp
  · exact sc_0_20 hp
  · exact sc_0_21 hp
  · exact sc_0_22 hp
  · exact sc_0_23 hp
  · exact sc_0_24 hp
  · exact sc_0_25 hp
  · exact sc_0_26 hp
  · exact sc_0_27 hp
  · exact sc_0_28 hp
  · exact sc_0_29 hp
  · exact sc_0_30 hp
  · exact sc_0_31 hp
  · exact sc_0_32 hp
  · exact sc_0_33 hp
  · exact sc_0_34 hp
  · exact sc_0_35 hp
  · exact sc_0_36 hp
  · exact sc_0_37 hp
  · exact sc_0_38 hp
  · exact sc_0_39 hp
  · exact sc_0_40 hp
  · exact sc_0_41 hp
  · exact sc_0_42 hp
  · exact sc_0_43 hp
def sx_1 (k : Nat) : Nat := ([119, 105, 100, 101] : List Nat).getD k 0
theorem sd_1 (hp : HP) : EJ0_coder_7d493 [.ref 2001] hp = some 0 := rfl
theorem sl_1 (hp : HP) : EJ0_length_8abf5 [.ref 2001] hp = some (nI 4) := by
  show oCal 1 (some 99) EJ0_coder_7d493 fI (oishr oIretP) [(0, .ref 2001)] [.ref 2001, .int (nI 4)] hp = _
  rw [cal_eq (sd_1 hp) rfl rfl (chk_rf _ _ _)]
  rfl
theorem si_1 (hp : HP) : EJ0_isLatin1_aae02 [.ref 2001] hp = some true := rfl
theorem sb_1_0 (hp : HP) : EJ1_charAt_3b067 [.ref 3001, .int (nI 0)] hp = some (nI 119) := by
  show oCal 2 none EJ0_checkIndex_df160 fU (oAld 0 (oIld 1 (oSat (oConst (.int 255) (oiand (oi2c (oCretP))))))) [(0, .ref 3001), (1, .int (nI 0))] [.int (nI 4), .int (nI 0)] hp = _
  rw [cal_eq (sj_ck hp (j := nI 0) (n := nI 4) (by decide) (by decide)) rfl rfl (chk_rf _ _ _)]
  rfl
theorem sc_1_0 (hp : HP) : EJ0_charAt_5068e [.ref 2001, .int (nI 0)] hp = some (nI 119) := by
  show oCal 1 (some 99) EJ0_isLatin1_aae02 fZ (oIfeq (kN) (oAld 0 (oSvl (oIld 1 (oCal 2 none EJ1_charAt_3b067 fI (oCretP)))))) [(0, .ref 2001), (1, .int (nI 0))] [.ref 2001] hp = _
  rw [cal_eq (si_1 hp) rfl rfl (chk_rf _ _ _)]
  show oCal 2 none EJ1_charAt_3b067 fI (oCretP) [(0, .ref 2001), (1, .int (nI 0))] [.int (nI 0), .ref 3001] hp = _
  rw [cal_eq (sb_1_0 hp) rfl rfl (chk_rf _ _ _)]
  rfl
theorem sb_1_1 (hp : HP) : EJ1_charAt_3b067 [.ref 3001, .int (nI 1)] hp = some (nI 105) := by
  show oCal 2 none EJ0_checkIndex_df160 fU (oAld 0 (oIld 1 (oSat (oConst (.int 255) (oiand (oi2c (oCretP))))))) [(0, .ref 3001), (1, .int (nI 1))] [.int (nI 4), .int (nI 1)] hp = _
  rw [cal_eq (sj_ck hp (j := nI 1) (n := nI 4) (by decide) (by decide)) rfl rfl (chk_rf _ _ _)]
  rfl
theorem sc_1_1 (hp : HP) : EJ0_charAt_5068e [.ref 2001, .int (nI 1)] hp = some (nI 105) := by
  show oCal 1 (some 99) EJ0_isLatin1_aae02 fZ (oIfeq (kN) (oAld 0 (oSvl (oIld 1 (oCal 2 none EJ1_charAt_3b067 fI (oCretP)))))) [(0, .ref 2001), (1, .int (nI 1))] [.ref 2001] hp = _
  rw [cal_eq (si_1 hp) rfl rfl (chk_rf _ _ _)]
  show oCal 2 none EJ1_charAt_3b067 fI (oCretP) [(0, .ref 2001), (1, .int (nI 1))] [.int (nI 1), .ref 3001] hp = _
  rw [cal_eq (sb_1_1 hp) rfl rfl (chk_rf _ _ _)]
  rfl
theorem sb_1_2 (hp : HP) : EJ1_charAt_3b067 [.ref 3001, .int (nI 2)] hp = some (nI 100) := by
  show oCal 2 none EJ0_checkIndex_df160 fU (oAld 0 (oIld 1 (oSat (oConst (.int 255) (oiand (oi2c (oCretP))))))) [(0, .ref 3001), (1, .int (nI 2))] [.int (nI 4), .int (nI 2)] hp = _
  rw [cal_eq (sj_ck hp (j := nI 2) (n := nI 4) (by decide) (by decide)) rfl rfl (chk_rf _ _ _)]
  rfl
theorem sc_1_2 (hp : HP) : EJ0_charAt_5068e [.ref 2001, .int (nI 2)] hp = some (nI 100) := by
  show oCal 1 (some 99) EJ0_isLatin1_aae02 fZ (oIfeq (kN) (oAld 0 (oSvl (oIld 1 (oCal 2 none EJ1_charAt_3b067 fI (oCretP)))))) [(0, .ref 2001), (1, .int (nI 2))] [.ref 2001] hp = _
  rw [cal_eq (si_1 hp) rfl rfl (chk_rf _ _ _)]
  show oCal 2 none EJ1_charAt_3b067 fI (oCretP) [(0, .ref 2001), (1, .int (nI 2))] [.int (nI 2), .ref 3001] hp = _
  rw [cal_eq (sb_1_2 hp) rfl rfl (chk_rf _ _ _)]
  rfl
theorem sb_1_3 (hp : HP) : EJ1_charAt_3b067 [.ref 3001, .int (nI 3)] hp = some (nI 101) := by
  show oCal 2 none EJ0_checkIndex_df160 fU (oAld 0 (oIld 1 (oSat (oConst (.int 255) (oiand (oi2c (oCretP))))))) [(0, .ref 3001), (1, .int (nI 3))] [.int (nI 4), .int (nI 3)] hp = _
  rw [cal_eq (sj_ck hp (j := nI 3) (n := nI 4) (by decide) (by decide)) rfl rfl (chk_rf _ _ _)]
  rfl
theorem sc_1_3 (hp : HP) : EJ0_charAt_5068e [.ref 2001, .int (nI 3)] hp = some (nI 101) := by
  show oCal 1 (some 99) EJ0_isLatin1_aae02 fZ (oIfeq (kN) (oAld 0 (oSvl (oIld 1 (oCal 2 none EJ1_charAt_3b067 fI (oCretP)))))) [(0, .ref 2001), (1, .int (nI 3))] [.ref 2001] hp = _
  rw [cal_eq (si_1 hp) rfl rfl (chk_rf _ _ _)]
  show oCal 2 none EJ1_charAt_3b067 fI (oCretP) [(0, .ref 2001), (1, .int (nI 3))] [.int (nI 3), .ref 3001] hp = _
  rw [cal_eq (sb_1_3 hp) rfl rfl (chk_rf _ _ _)]
  rfl
theorem sc_1 (hp : HP) : ∀ k, k < 4 → EJ0_charAt_5068e [.ref 2001, .int (nI k)] hp = some (nI (sx_1 k)) := fun k hk => by
  rcases (by omega : k = 0 ∨ k = 1 ∨ k = 2 ∨ k = 3) with rfl | rfl | rfl | rfl
  · exact sc_1_0 hp
  · exact sc_1_1 hp
  · exact sc_1_2 hp
  · exact sc_1_3 hp
def sx_2 (k : Nat) : Nat := ([104, 105, 103, 104] : List Nat).getD k 0
theorem sd_2 (hp : HP) : EJ0_coder_7d493 [.ref 2002] hp = some 0 := rfl
theorem sl_2 (hp : HP) : EJ0_length_8abf5 [.ref 2002] hp = some (nI 4) := by
  show oCal 1 (some 99) EJ0_coder_7d493 fI (oishr oIretP) [(0, .ref 2002)] [.ref 2002, .int (nI 4)] hp = _
  rw [cal_eq (sd_2 hp) rfl rfl (chk_rf _ _ _)]
  rfl
theorem si_2 (hp : HP) : EJ0_isLatin1_aae02 [.ref 2002] hp = some true := rfl
theorem sb_2_0 (hp : HP) : EJ1_charAt_3b067 [.ref 3002, .int (nI 0)] hp = some (nI 104) := by
  show oCal 2 none EJ0_checkIndex_df160 fU (oAld 0 (oIld 1 (oSat (oConst (.int 255) (oiand (oi2c (oCretP))))))) [(0, .ref 3002), (1, .int (nI 0))] [.int (nI 4), .int (nI 0)] hp = _
  rw [cal_eq (sj_ck hp (j := nI 0) (n := nI 4) (by decide) (by decide)) rfl rfl (chk_rf _ _ _)]
  rfl
theorem sc_2_0 (hp : HP) : EJ0_charAt_5068e [.ref 2002, .int (nI 0)] hp = some (nI 104) := by
  show oCal 1 (some 99) EJ0_isLatin1_aae02 fZ (oIfeq (kN) (oAld 0 (oSvl (oIld 1 (oCal 2 none EJ1_charAt_3b067 fI (oCretP)))))) [(0, .ref 2002), (1, .int (nI 0))] [.ref 2002] hp = _
  rw [cal_eq (si_2 hp) rfl rfl (chk_rf _ _ _)]
  show oCal 2 none EJ1_charAt_3b067 fI (oCretP) [(0, .ref 2002), (1, .int (nI 0))] [.int (nI 0), .ref 3002] hp = _
  rw [cal_eq (sb_2_0 hp) rfl rfl (chk_rf _ _ _)]
  rfl
theorem sb_2_1 (hp : HP) : EJ1_charAt_3b067 [.ref 3002, .int (nI 1)] hp = some (nI 105) := by
  show oCal 2 none EJ0_checkIndex_df160 fU (oAld 0 (oIld 1 (oSat (oConst (.int 255) (oiand (oi2c (oCretP))))))) [(0, .ref 3002), (1, .int (nI 1))] [.int (nI 4), .int (nI 1)] hp = _
  rw [cal_eq (sj_ck hp (j := nI 1) (n := nI 4) (by decide) (by decide)) rfl rfl (chk_rf _ _ _)]
  rfl
theorem sc_2_1 (hp : HP) : EJ0_charAt_5068e [.ref 2002, .int (nI 1)] hp = some (nI 105) := by
  show oCal 1 (some 99) EJ0_isLatin1_aae02 fZ (oIfeq (kN) (oAld 0 (oSvl (oIld 1 (oCal 2 none EJ1_charAt_3b067 fI (oCretP)))))) [(0, .ref 2002), (1, .int (nI 1))] [.ref 2002] hp = _
  rw [cal_eq (si_2 hp) rfl rfl (chk_rf _ _ _)]
  show oCal 2 none EJ1_charAt_3b067 fI (oCretP) [(0, .ref 2002), (1, .int (nI 1))] [.int (nI 1), .ref 3002] hp = _
  rw [cal_eq (sb_2_1 hp) rfl rfl (chk_rf _ _ _)]
  rfl
theorem sb_2_2 (hp : HP) : EJ1_charAt_3b067 [.ref 3002, .int (nI 2)] hp = some (nI 103) := by
  show oCal 2 none EJ0_checkIndex_df160 fU (oAld 0 (oIld 1 (oSat (oConst (.int 255) (oiand (oi2c (oCretP))))))) [(0, .ref 3002), (1, .int (nI 2))] [.int (nI 4), .int (nI 2)] hp = _
  rw [cal_eq (sj_ck hp (j := nI 2) (n := nI 4) (by decide) (by decide)) rfl rfl (chk_rf _ _ _)]
  rfl
theorem sc_2_2 (hp : HP) : EJ0_charAt_5068e [.ref 2002, .int (nI 2)] hp = some (nI 103) := by
  show oCal 1 (some 99) EJ0_isLatin1_aae02 fZ (oIfeq (kN) (oAld 0 (oSvl (oIld 1 (oCal 2 none EJ1_charAt_3b067 fI (oCretP)))))) [(0, .ref 2002), (1, .int (nI 2))] [.ref 2002] hp = _
  rw [cal_eq (si_2 hp) rfl rfl (chk_rf _ _ _)]
  show oCal 2 none EJ1_charAt_3b067 fI (oCretP) [(0, .ref 2002), (1, .int (nI 2))] [.int (nI 2), .ref 3002] hp = _
  rw [cal_eq (sb_2_2 hp) rfl rfl (chk_rf _ _ _)]
  rfl
theorem sb_2_3 (hp : HP) : EJ1_charAt_3b067 [.ref 3002, .int (nI 3)] hp = some (nI 104) := by
  show oCal 2 none EJ0_checkIndex_df160 fU (oAld 0 (oIld 1 (oSat (oConst (.int 255) (oiand (oi2c (oCretP))))))) [(0, .ref 3002), (1, .int (nI 3))] [.int (nI 4), .int (nI 3)] hp = _
  rw [cal_eq (sj_ck hp (j := nI 3) (n := nI 4) (by decide) (by decide)) rfl rfl (chk_rf _ _ _)]
  rfl
theorem sc_2_3 (hp : HP) : EJ0_charAt_5068e [.ref 2002, .int (nI 3)] hp = some (nI 104) := by
  show oCal 1 (some 99) EJ0_isLatin1_aae02 fZ (oIfeq (kN) (oAld 0 (oSvl (oIld 1 (oCal 2 none EJ1_charAt_3b067 fI (oCretP)))))) [(0, .ref 2002), (1, .int (nI 3))] [.ref 2002] hp = _
  rw [cal_eq (si_2 hp) rfl rfl (chk_rf _ _ _)]
  show oCal 2 none EJ1_charAt_3b067 fI (oCretP) [(0, .ref 2002), (1, .int (nI 3))] [.int (nI 3), .ref 3002] hp = _
  rw [cal_eq (sb_2_3 hp) rfl rfl (chk_rf _ _ _)]
  rfl
theorem sc_2 (hp : HP) : ∀ k, k < 4 → EJ0_charAt_5068e [.ref 2002, .int (nI k)] hp = some (nI (sx_2 k)) := fun k hk => by
  rcases (by omega : k = 0 ∨ k = 1 ∨ k = 2 ∨ k = 3) with rfl | rfl | rfl | rfl
  · exact sc_2_0 hp
  · exact sc_2_1 hp
  · exact sc_2_2 hp
  · exact sc_2_3 hp
def sx_3 (k : Nat) : Nat := ([100, 117, 115, 107] : List Nat).getD k 0
theorem sd_3 (hp : HP) : EJ0_coder_7d493 [.ref 2003] hp = some 0 := rfl
theorem sl_3 (hp : HP) : EJ0_length_8abf5 [.ref 2003] hp = some (nI 4) := by
  show oCal 1 (some 99) EJ0_coder_7d493 fI (oishr oIretP) [(0, .ref 2003)] [.ref 2003, .int (nI 4)] hp = _
  rw [cal_eq (sd_3 hp) rfl rfl (chk_rf _ _ _)]
  rfl
theorem si_3 (hp : HP) : EJ0_isLatin1_aae02 [.ref 2003] hp = some true := rfl
theorem sb_3_0 (hp : HP) : EJ1_charAt_3b067 [.ref 3003, .int (nI 0)] hp = some (nI 100) := by
  show oCal 2 none EJ0_checkIndex_df160 fU (oAld 0 (oIld 1 (oSat (oConst (.int 255) (oiand (oi2c (oCretP))))))) [(0, .ref 3003), (1, .int (nI 0))] [.int (nI 4), .int (nI 0)] hp = _
  rw [cal_eq (sj_ck hp (j := nI 0) (n := nI 4) (by decide) (by decide)) rfl rfl (chk_rf _ _ _)]
  rfl
theorem sc_3_0 (hp : HP) : EJ0_charAt_5068e [.ref 2003, .int (nI 0)] hp = some (nI 100) := by
  show oCal 1 (some 99) EJ0_isLatin1_aae02 fZ (oIfeq (kN) (oAld 0 (oSvl (oIld 1 (oCal 2 none EJ1_charAt_3b067 fI (oCretP)))))) [(0, .ref 2003), (1, .int (nI 0))] [.ref 2003] hp = _
  rw [cal_eq (si_3 hp) rfl rfl (chk_rf _ _ _)]
  show oCal 2 none EJ1_charAt_3b067 fI (oCretP) [(0, .ref 2003), (1, .int (nI 0))] [.int (nI 0), .ref 3003] hp = _
  rw [cal_eq (sb_3_0 hp) rfl rfl (chk_rf _ _ _)]
  rfl
theorem sb_3_1 (hp : HP) : EJ1_charAt_3b067 [.ref 3003, .int (nI 1)] hp = some (nI 117) := by
  show oCal 2 none EJ0_checkIndex_df160 fU (oAld 0 (oIld 1 (oSat (oConst (.int 255) (oiand (oi2c (oCretP))))))) [(0, .ref 3003), (1, .int (nI 1))] [.int (nI 4), .int (nI 1)] hp = _
  rw [cal_eq (sj_ck hp (j := nI 1) (n := nI 4) (by decide) (by decide)) rfl rfl (chk_rf _ _ _)]
  rfl
theorem sc_3_1 (hp : HP) : EJ0_charAt_5068e [.ref 2003, .int (nI 1)] hp = some (nI 117) := by
  show oCal 1 (some 99) EJ0_isLatin1_aae02 fZ (oIfeq (kN) (oAld 0 (oSvl (oIld 1 (oCal 2 none EJ1_charAt_3b067 fI (oCretP)))))) [(0, .ref 2003), (1, .int (nI 1))] [.ref 2003] hp = _
  rw [cal_eq (si_3 hp) rfl rfl (chk_rf _ _ _)]
  show oCal 2 none EJ1_charAt_3b067 fI (oCretP) [(0, .ref 2003), (1, .int (nI 1))] [.int (nI 1), .ref 3003] hp = _
  rw [cal_eq (sb_3_1 hp) rfl rfl (chk_rf _ _ _)]
  rfl
theorem sb_3_2 (hp : HP) : EJ1_charAt_3b067 [.ref 3003, .int (nI 2)] hp = some (nI 115) := by
  show oCal 2 none EJ0_checkIndex_df160 fU (oAld 0 (oIld 1 (oSat (oConst (.int 255) (oiand (oi2c (oCretP))))))) [(0, .ref 3003), (1, .int (nI 2))] [.int (nI 4), .int (nI 2)] hp = _
  rw [cal_eq (sj_ck hp (j := nI 2) (n := nI 4) (by decide) (by decide)) rfl rfl (chk_rf _ _ _)]
  rfl
theorem sc_3_2 (hp : HP) : EJ0_charAt_5068e [.ref 2003, .int (nI 2)] hp = some (nI 115) := by
  show oCal 1 (some 99) EJ0_isLatin1_aae02 fZ (oIfeq (kN) (oAld 0 (oSvl (oIld 1 (oCal 2 none EJ1_charAt_3b067 fI (oCretP)))))) [(0, .ref 2003), (1, .int (nI 2))] [.ref 2003] hp = _
  rw [cal_eq (si_3 hp) rfl rfl (chk_rf _ _ _)]
  show oCal 2 none EJ1_charAt_3b067 fI (oCretP) [(0, .ref 2003), (1, .int (nI 2))] [.int (nI 2), .ref 3003] hp = _
  rw [cal_eq (sb_3_2 hp) rfl rfl (chk_rf _ _ _)]
  rfl
theorem sb_3_3 (hp : HP) : EJ1_charAt_3b067 [.ref 3003, .int (nI 3)] hp = some (nI 107) := by
  show oCal 2 none EJ0_checkIndex_df160 fU (oAld 0 (oIld 1 (oSat (oConst (.int 255) (oiand (oi2c (oCretP))))))) [(0, .ref 3003), (1, .int (nI 3))] [.int (nI 4), .int (nI 3)] hp = _
  rw [cal_eq (sj_ck hp (j := nI 3) (n := nI 4) (by decide) (by decide)) rfl rfl (chk_rf _ _ _)]
  rfl
theorem sc_3_3 (hp : HP) : EJ0_charAt_5068e [.ref 2003, .int (nI 3)] hp = some (nI 107) := by
  show oCal 1 (some 99) EJ0_isLatin1_aae02 fZ (oIfeq (kN) (oAld 0 (oSvl (oIld 1 (oCal 2 none EJ1_charAt_3b067 fI (oCretP)))))) [(0, .ref 2003), (1, .int (nI 3))] [.ref 2003] hp = _
  rw [cal_eq (si_3 hp) rfl rfl (chk_rf _ _ _)]
  show oCal 2 none EJ1_charAt_3b067 fI (oCretP) [(0, .ref 2003), (1, .int (nI 3))] [.int (nI 3), .ref 3003] hp = _
  rw [cal_eq (sb_3_3 hp) rfl rfl (chk_rf _ _ _)]
  rfl
theorem sc_3 (hp : HP) : ∀ k, k < 4 → EJ0_charAt_5068e [.ref 2003, .int (nI k)] hp = some (nI (sx_3 k)) := fun k hk => by
  rcases (by omega : k = 0 ∨ k = 1 ∨ k = 2 ∨ k = 3) with rfl | rfl | rfl | rfl
  · exact sc_3_0 hp
  · exact sc_3_1 hp
  · exact sc_3_2 hp
  · exact sc_3_3 hp
def sx_4 (k : Nat) : Nat := ([112, 97, 121, 115] : List Nat).getD k 0
theorem sd_4 (hp : HP) : EJ0_coder_7d493 [.ref 2004] hp = some 0 := rfl
theorem sl_4 (hp : HP) : EJ0_length_8abf5 [.ref 2004] hp = some (nI 4) := by
  show oCal 1 (some 99) EJ0_coder_7d493 fI (oishr oIretP) [(0, .ref 2004)] [.ref 2004, .int (nI 4)] hp = _
  rw [cal_eq (sd_4 hp) rfl rfl (chk_rf _ _ _)]
  rfl
theorem si_4 (hp : HP) : EJ0_isLatin1_aae02 [.ref 2004] hp = some true := rfl
theorem sb_4_0 (hp : HP) : EJ1_charAt_3b067 [.ref 3004, .int (nI 0)] hp = some (nI 112) := by
  show oCal 2 none EJ0_checkIndex_df160 fU (oAld 0 (oIld 1 (oSat (oConst (.int 255) (oiand (oi2c (oCretP))))))) [(0, .ref 3004), (1, .int (nI 0))] [.int (nI 4), .int (nI 0)] hp = _
  rw [cal_eq (sj_ck hp (j := nI 0) (n := nI 4) (by decide) (by decide)) rfl rfl (chk_rf _ _ _)]
  rfl
theorem sc_4_0 (hp : HP) : EJ0_charAt_5068e [.ref 2004, .int (nI 0)] hp = some (nI 112) := by
  show oCal 1 (some 99) EJ0_isLatin1_aae02 fZ (oIfeq (kN) (oAld 0 (oSvl (oIld 1 (oCal 2 none EJ1_charAt_3b067 fI (oCretP)))))) [(0, .ref 2004), (1, .int (nI 0))] [.ref 2004] hp = _
  rw [cal_eq (si_4 hp) rfl rfl (chk_rf _ _ _)]
  show oCal 2 none EJ1_charAt_3b067 fI (oCretP) [(0, .ref 2004), (1, .int (nI 0))] [.int (nI 0), .ref 3004] hp = _
  rw [cal_eq (sb_4_0 hp) rfl rfl (chk_rf _ _ _)]
  rfl
theorem sb_4_1 (hp : HP) : EJ1_charAt_3b067 [.ref 3004, .int (nI 1)] hp = some (nI 97) := by
  show oCal 2 none EJ0_checkIndex_df160 fU (oAld 0 (oIld 1 (oSat (oConst (.int 255) (oiand (oi2c (oCretP))))))) [(0, .ref 3004), (1, .int (nI 1))] [.int (nI 4), .int (nI 1)] hp = _
  rw [cal_eq (sj_ck hp (j := nI 1) (n := nI 4) (by decide) (by decide)) rfl rfl (chk_rf _ _ _)]
  rfl
theorem sc_4_1 (hp : HP) : EJ0_charAt_5068e [.ref 2004, .int (nI 1)] hp = some (nI 97) := by
  show oCal 1 (some 99) EJ0_isLatin1_aae02 fZ (oIfeq (kN) (oAld 0 (oSvl (oIld 1 (oCal 2 none EJ1_charAt_3b067 fI (oCretP)))))) [(0, .ref 2004), (1, .int (nI 1))] [.ref 2004] hp = _
  rw [cal_eq (si_4 hp) rfl rfl (chk_rf _ _ _)]
  show oCal 2 none EJ1_charAt_3b067 fI (oCretP) [(0, .ref 2004), (1, .int (nI 1))] [.int (nI 1), .ref 3004] hp = _
  rw [cal_eq (sb_4_1 hp) rfl rfl (chk_rf _ _ _)]
  rfl
theorem sb_4_2 (hp : HP) : EJ1_charAt_3b067 [.ref 3004, .int (nI 2)] hp = some (nI 121) := by
  show oCal 2 none EJ0_checkIndex_df160 fU (oAld 0 (oIld 1 (oSat (oConst (.int 255) (oiand (oi2c (oCretP))))))) [(0, .ref 3004), (1, .int (nI 2))] [.int (nI 4), .int (nI 2)] hp = _
  rw [cal_eq (sj_ck hp (j := nI 2) (n := nI 4) (by decide) (by decide)) rfl rfl (chk_rf _ _ _)]
  rfl
theorem sc_4_2 (hp : HP) : EJ0_charAt_5068e [.ref 2004, .int (nI 2)] hp = some (nI 121) := by
  show oCal 1 (some 99) EJ0_isLatin1_aae02 fZ (oIfeq (kN) (oAld 0 (oSvl (oIld 1 (oCal 2 none EJ1_charAt_3b067 fI (oCretP)))))) [(0, .ref 2004), (1, .int (nI 2))] [.ref 2004] hp = _
  rw [cal_eq (si_4 hp) rfl rfl (chk_rf _ _ _)]
  show oCal 2 none EJ1_charAt_3b067 fI (oCretP) [(0, .ref 2004), (1, .int (nI 2))] [.int (nI 2), .ref 3004] hp = _
  rw [cal_eq (sb_4_2 hp) rfl rfl (chk_rf _ _ _)]
  rfl
theorem sb_4_3 (hp : HP) : EJ1_charAt_3b067 [.ref 3004, .int (nI 3)] hp = some (nI 115) := by
  show oCal 2 none EJ0_checkIndex_df160 fU (oAld 0 (oIld 1 (oSat (oConst (.int 255) (oiand (oi2c (oCretP))))))) [(0, .ref 3004), (1, .int (nI 3))] [.int (nI 4), .int (nI 3)] hp = _
  rw [cal_eq (sj_ck hp (j := nI 3) (n := nI 4) (by decide) (by decide)) rfl rfl (chk_rf _ _ _)]
  rfl
theorem sc_4_3 (hp : HP) : EJ0_charAt_5068e [.ref 2004, .int (nI 3)] hp = some (nI 115) := by
  show oCal 1 (some 99) EJ0_isLatin1_aae02 fZ (oIfeq (kN) (oAld 0 (oSvl (oIld 1 (oCal 2 none EJ1_charAt_3b067 fI (oCretP)))))) [(0, .ref 2004), (1, .int (nI 3))] [.ref 2004] hp = _
  rw [cal_eq (si_4 hp) rfl rfl (chk_rf _ _ _)]
  show oCal 2 none EJ1_charAt_3b067 fI (oCretP) [(0, .ref 2004), (1, .int (nI 3))] [.int (nI 3), .ref 3004] hp = _
  rw [cal_eq (sb_4_3 hp) rfl rfl (chk_rf _ _ _)]
  rfl
theorem sc_4 (hp : HP) : ∀ k, k < 4 → EJ0_charAt_5068e [.ref 2004, .int (nI k)] hp = some (nI (sx_4 k)) := fun k hk => by
  rcases (by omega : k = 0 ∨ k = 1 ∨ k = 2 ∨ k = 3) with rfl | rfl | rfl | rfl
  · exact sc_4_0 hp
  · exact sc_4_1 hp
  · exact sc_4_2 hp
  · exact sc_4_3 hp
def sx_5 (k : Nat) : Nat := ([115, 104, 117, 116, 115] : List Nat).getD k 0
theorem sd_5 (hp : HP) : EJ0_coder_7d493 [.ref 2005] hp = some 0 := rfl
theorem sl_5 (hp : HP) : EJ0_length_8abf5 [.ref 2005] hp = some (nI 5) := by
  show oCal 1 (some 99) EJ0_coder_7d493 fI (oishr oIretP) [(0, .ref 2005)] [.ref 2005, .int (nI 5)] hp = _
  rw [cal_eq (sd_5 hp) rfl rfl (chk_rf _ _ _)]
  rfl
theorem si_5 (hp : HP) : EJ0_isLatin1_aae02 [.ref 2005] hp = some true := rfl
theorem sb_5_0 (hp : HP) : EJ1_charAt_3b067 [.ref 3005, .int (nI 0)] hp = some (nI 115) := by
  show oCal 2 none EJ0_checkIndex_df160 fU (oAld 0 (oIld 1 (oSat (oConst (.int 255) (oiand (oi2c (oCretP))))))) [(0, .ref 3005), (1, .int (nI 0))] [.int (nI 5), .int (nI 0)] hp = _
  rw [cal_eq (sj_ck hp (j := nI 0) (n := nI 5) (by decide) (by decide)) rfl rfl (chk_rf _ _ _)]
  rfl
theorem sc_5_0 (hp : HP) : EJ0_charAt_5068e [.ref 2005, .int (nI 0)] hp = some (nI 115) := by
  show oCal 1 (some 99) EJ0_isLatin1_aae02 fZ (oIfeq (kN) (oAld 0 (oSvl (oIld 1 (oCal 2 none EJ1_charAt_3b067 fI (oCretP)))))) [(0, .ref 2005), (1, .int (nI 0))] [.ref 2005] hp = _
  rw [cal_eq (si_5 hp) rfl rfl (chk_rf _ _ _)]
  show oCal 2 none EJ1_charAt_3b067 fI (oCretP) [(0, .ref 2005), (1, .int (nI 0))] [.int (nI 0), .ref 3005] hp = _
  rw [cal_eq (sb_5_0 hp) rfl rfl (chk_rf _ _ _)]
  rfl
theorem sb_5_1 (hp : HP) : EJ1_charAt_3b067 [.ref 3005, .int (nI 1)] hp = some (nI 104) := by
  show oCal 2 none EJ0_checkIndex_df160 fU (oAld 0 (oIld 1 (oSat (oConst (.int 255) (oiand (oi2c (oCretP))))))) [(0, .ref 3005), (1, .int (nI 1))] [.int (nI 5), .int (nI 1)] hp = _
  rw [cal_eq (sj_ck hp (j := nI 1) (n := nI 5) (by decide) (by decide)) rfl rfl (chk_rf _ _ _)]
  rfl
theorem sc_5_1 (hp : HP) : EJ0_charAt_5068e [.ref 2005, .int (nI 1)] hp = some (nI 104) := by
  show oCal 1 (some 99) EJ0_isLatin1_aae02 fZ (oIfeq (kN) (oAld 0 (oSvl (oIld 1 (oCal 2 none EJ1_charAt_3b067 fI (oCretP)))))) [(0, .ref 2005), (1, .int (nI 1))] [.ref 2005] hp = _
  rw [cal_eq (si_5 hp) rfl rfl (chk_rf _ _ _)]
  show oCal 2 none EJ1_charAt_3b067 fI (oCretP) [(0, .ref 2005), (1, .int (nI 1))] [.int (nI 1), .ref 3005] hp = _
  rw [cal_eq (sb_5_1 hp) rfl rfl (chk_rf _ _ _)]
  rfl
theorem sb_5_2 (hp : HP) : EJ1_charAt_3b067 [.ref 3005, .int (nI 2)] hp = some (nI 117) := by
  show oCal 2 none EJ0_checkIndex_df160 fU (oAld 0 (oIld 1 (oSat (oConst (.int 255) (oiand (oi2c (oCretP))))))) [(0, .ref 3005), (1, .int (nI 2))] [.int (nI 5), .int (nI 2)] hp = _
  rw [cal_eq (sj_ck hp (j := nI 2) (n := nI 5) (by decide) (by decide)) rfl rfl (chk_rf _ _ _)]
  rfl
theorem sc_5_2 (hp : HP) : EJ0_charAt_5068e [.ref 2005, .int (nI 2)] hp = some (nI 117) := by
  show oCal 1 (some 99) EJ0_isLatin1_aae02 fZ (oIfeq (kN) (oAld 0 (oSvl (oIld 1 (oCal 2 none EJ1_charAt_3b067 fI (oCretP)))))) [(0, .ref 2005), (1, .int (nI 2))] [.ref 2005] hp = _
  rw [cal_eq (si_5 hp) rfl rfl (chk_rf _ _ _)]
  show oCal 2 none EJ1_charAt_3b067 fI (oCretP) [(0, .ref 2005), (1, .int (nI 2))] [.int (nI 2), .ref 3005] hp = _
  rw [cal_eq (sb_5_2 hp) rfl rfl (chk_rf _ _ _)]
  rfl
theorem sb_5_3 (hp : HP) : EJ1_charAt_3b067 [.ref 3005, .int (nI 3)] hp = some (nI 116) := by
  show oCal 2 none EJ0_checkIndex_df160 fU (oAld 0 (oIld 1 (oSat (oConst (.int 255) (oiand (oi2c (oCretP))))))) [(0, .ref 3005), (1, .int (nI 3))] [.int (nI 5), .int (nI 3)] hp = _
  rw [cal_eq (sj_ck hp (j := nI 3) (n := nI 5) (by decide) (by decide)) rfl rfl (chk_rf _ _ _)]
  rfl
theorem sc_5_3 (hp : HP) : EJ0_charAt_5068e [.ref 2005, .int (nI 3)] hp = some (nI 116) := by
  show oCal 1 (some 99) EJ0_isLatin1_aae02 fZ (oIfeq (kN) (oAld 0 (oSvl (oIld 1 (oCal 2 none EJ1_charAt_3b067 fI (oCretP)))))) [(0, .ref 2005), (1, .int (nI 3))] [.ref 2005] hp = _
  rw [cal_eq (si_5 hp) rfl rfl (chk_rf _ _ _)]
  show oCal 2 none EJ1_charAt_3b067 fI (oCretP) [(0, .ref 2005), (1, .int (nI 3))] [.int (nI 3), .ref 3005] hp = _
  rw [cal_eq (sb_5_3 hp) rfl rfl (chk_rf _ _ _)]
  rfl
theorem sb_5_4 (hp : HP) : EJ1_charAt_3b067 [.ref 3005, .int (nI 4)] hp = some (nI 115) := by
  show oCal 2 none EJ0_checkIndex_df160 fU (oAld 0 (oIld 1 (oSat (oConst (.int 255) (oiand (oi2c (oCretP))))))) [(0, .ref 3005), (1, .int (nI 4))] [.int (nI 5), .int (nI 4)] hp = _
  rw [cal_eq (sj_ck hp (j := nI 4) (n := nI 5) (by decide) (by decide)) rfl rfl (chk_rf _ _ _)]
  rfl
theorem sc_5_4 (hp : HP) : EJ0_charAt_5068e [.ref 2005, .int (nI 4)] hp = some (nI 115) := by
  show oCal 1 (some 99) EJ0_isLatin1_aae02 fZ (oIfeq (kN) (oAld 0 (oSvl (oIld 1 (oCal 2 none EJ1_charAt_3b067 fI (oCretP)))))) [(0, .ref 2005), (1, .int (nI 4))] [.ref 2005] hp = _
  rw [cal_eq (si_5 hp) rfl rfl (chk_rf _ _ _)]
  show oCal 2 none EJ1_charAt_3b067 fI (oCretP) [(0, .ref 2005), (1, .int (nI 4))] [.int (nI 4), .ref 3005] hp = _
  rw [cal_eq (sb_5_4 hp) rfl rfl (chk_rf _ _ _)]
  rfl
theorem sc_5 (hp : HP) : ∀ k, k < 5 → EJ0_charAt_5068e [.ref 2005, .int (nI k)] hp = some (nI (sx_5 k)) := fun k hk => by
  rcases (by omega : k = 0 ∨ k = 1 ∨ k = 2 ∨ k = 3 ∨ k = 4) with rfl | rfl | rfl | rfl | rfl
  · exact sc_5_0 hp
  · exact sc_5_1 hp
  · exact sc_5_2 hp
  · exact sc_5_3 hp
  · exact sc_5_4 hp
def sx_6 (k : Nat) : Nat := ([102, 114, 111, 109] : List Nat).getD k 0
theorem sd_6 (hp : HP) : EJ0_coder_7d493 [.ref 2006] hp = some 0 := rfl
theorem sl_6 (hp : HP) : EJ0_length_8abf5 [.ref 2006] hp = some (nI 4) := by
  show oCal 1 (some 99) EJ0_coder_7d493 fI (oishr oIretP) [(0, .ref 2006)] [.ref 2006, .int (nI 4)] hp = _
  rw [cal_eq (sd_6 hp) rfl rfl (chk_rf _ _ _)]
  rfl
theorem si_6 (hp : HP) : EJ0_isLatin1_aae02 [.ref 2006] hp = some true := rfl
theorem sb_6_0 (hp : HP) : EJ1_charAt_3b067 [.ref 3006, .int (nI 0)] hp = some (nI 102) := by
  show oCal 2 none EJ0_checkIndex_df160 fU (oAld 0 (oIld 1 (oSat (oConst (.int 255) (oiand (oi2c (oCretP))))))) [(0, .ref 3006), (1, .int (nI 0))] [.int (nI 4), .int (nI 0)] hp = _
  rw [cal_eq (sj_ck hp (j := nI 0) (n := nI 4) (by decide) (by decide)) rfl rfl (chk_rf _ _ _)]
  rfl
theorem sc_6_0 (hp : HP) : EJ0_charAt_5068e [.ref 2006, .int (nI 0)] hp = some (nI 102) := by
  show oCal 1 (some 99) EJ0_isLatin1_aae02 fZ (oIfeq (kN) (oAld 0 (oSvl (oIld 1 (oCal 2 none EJ1_charAt_3b067 fI (oCretP)))))) [(0, .ref 2006), (1, .int (nI 0))] [.ref 2006] hp = _
  rw [cal_eq (si_6 hp) rfl rfl (chk_rf _ _ _)]
  show oCal 2 none EJ1_charAt_3b067 fI (oCretP) [(0, .ref 2006), (1, .int (nI 0))] [.int (nI 0), .ref 3006] hp = _
  rw [cal_eq (sb_6_0 hp) rfl rfl (chk_rf _ _ _)]
  rfl
theorem sb_6_1 (hp : HP) : EJ1_charAt_3b067 [.ref 3006, .int (nI 1)] hp = some (nI 114) := by
  show oCal 2 none EJ0_checkIndex_df160 fU (oAld 0 (oIld 1 (oSat (oConst (.int 255) (oiand (oi2c (oCretP))))))) [(0, .ref 3006), (1, .int (nI 1))] [.int (nI 4), .int (nI 1)] hp = _
  rw [cal_eq (sj_ck hp (j := nI 1) (n := nI 4) (by decide) (by decide)) rfl rfl (chk_rf _ _ _)]
  rfl
theorem sc_6_1 (hp : HP) : EJ0_charAt_5068e [.ref 2006, .int (nI 1)] hp = some (nI 114) := by
  show oCal 1 (some 99) EJ0_isLatin1_aae02 fZ (oIfeq (kN) (oAld 0 (oSvl (oIld 1 (oCal 2 none EJ1_charAt_3b067 fI (oCretP)))))) [(0, .ref 2006), (1, .int (nI 1))] [.ref 2006] hp = _
  rw [cal_eq (si_6 hp) rfl rfl (chk_rf _ _ _)]
  show oCal 2 none EJ1_charAt_3b067 fI (oCretP) [(0, .ref 2006), (1, .int (nI 1))] [.int (nI 1), .ref 3006] hp = _
  rw [cal_eq (sb_6_1 hp) rfl rfl (chk_rf _ _ _)]
  rfl
theorem sb_6_2 (hp : HP) : EJ1_charAt_3b067 [.ref 3006, .int (nI 2)] hp = some (nI 111) := by
  show oCal 2 none EJ0_checkIndex_df160 fU (oAld 0 (oIld 1 (oSat (oConst (.int 255) (oiand (oi2c (oCretP))))))) [(0, .ref 3006), (1, .int (nI 2))] [.int (nI 4), .int (nI 2)] hp = _
  rw [cal_eq (sj_ck hp (j := nI 2) (n := nI 4) (by decide) (by decide)) rfl rfl (chk_rf _ _ _)]
  rfl
theorem sc_6_2 (hp : HP) : EJ0_charAt_5068e [.ref 2006, .int (nI 2)] hp = some (nI 111) := by
  show oCal 1 (some 99) EJ0_isLatin1_aae02 fZ (oIfeq (kN) (oAld 0 (oSvl (oIld 1 (oCal 2 none EJ1_charAt_3b067 fI (oCretP)))))) [(0, .ref 2006), (1, .int (nI 2))] [.ref 2006] hp = _
  rw [cal_eq (si_6 hp) rfl rfl (chk_rf _ _ _)]
  show oCal 2 none EJ1_charAt_3b067 fI (oCretP) [(0, .ref 2006), (1, .int (nI 2))] [.int (nI 2), .ref 3006] hp = _
  rw [cal_eq (sb_6_2 hp) rfl rfl (chk_rf _ _ _)]
  rfl
theorem sb_6_3 (hp : HP) : EJ1_charAt_3b067 [.ref 3006, .int (nI 3)] hp = some (nI 109) := by
  show oCal 2 none EJ0_checkIndex_df160 fU (oAld 0 (oIld 1 (oSat (oConst (.int 255) (oiand (oi2c (oCretP))))))) [(0, .ref 3006), (1, .int (nI 3))] [.int (nI 4), .int (nI 3)] hp = _
  rw [cal_eq (sj_ck hp (j := nI 3) (n := nI 4) (by decide) (by decide)) rfl rfl (chk_rf _ _ _)]
  rfl
theorem sc_6_3 (hp : HP) : EJ0_charAt_5068e [.ref 2006, .int (nI 3)] hp = some (nI 109) := by
  show oCal 1 (some 99) EJ0_isLatin1_aae02 fZ (oIfeq (kN) (oAld 0 (oSvl (oIld 1 (oCal 2 none EJ1_charAt_3b067 fI (oCretP)))))) [(0, .ref 2006), (1, .int (nI 3))] [.ref 2006] hp = _
  rw [cal_eq (si_6 hp) rfl rfl (chk_rf _ _ _)]
  show oCal 2 none EJ1_charAt_3b067 fI (oCretP) [(0, .ref 2006), (1, .int (nI 3))] [.int (nI 3), .ref 3006] hp = _
  rw [cal_eq (sb_6_3 hp) rfl rfl (chk_rf _ _ _)]
  rfl
theorem sc_6 (hp : HP) : ∀ k, k < 4 → EJ0_charAt_5068e [.ref 2006, .int (nI k)] hp = some (nI (sx_6 k)) := fun k hk => by
  rcases (by omega : k = 0 ∨ k = 1 ∨ k = 2 ∨ k = 3) with rfl | rfl | rfl | rfl
  · exact sc_6_0 hp
  · exact sc_6_1 hp
  · exact sc_6_2 hp
  · exact sc_6_3 hp
def sx_7 (k : Nat) : Nat := ([108, 101, 102, 116, 32, 114, 105, 103, 104, 116, 32, 111, 110, 99, 101, 32, 99, 111, 119, 32, 108, 111, 116] : List Nat).getD k 0
theorem sd_7 (hp : HP) : EJ0_coder_7d493 [.ref 2007] hp = some 0 := rfl
theorem sl_7 (hp : HP) : EJ0_length_8abf5 [.ref 2007] hp = some (nI 23) := by
  show oCal 1 (some 99) EJ0_coder_7d493 fI (oishr oIretP) [(0, .ref 2007)] [.ref 2007, .int (nI 23)] hp = _
  rw [cal_eq (sd_7 hp) rfl rfl (chk_rf _ _ _)]
  rfl
theorem si_7 (hp : HP) : EJ0_isLatin1_aae02 [.ref 2007] hp = some true := rfl
theorem sb_7_0 (hp : HP) : EJ1_charAt_3b067 [.ref 3007, .int (nI 0)] hp = some (nI 108) := by
  show oCal 2 none EJ0_checkIndex_df160 fU (oAld 0 (oIld 1 (oSat (oConst (.int 255) (oiand (oi2c (oCretP))))))) [(0, .ref 3007), (1, .int (nI 0))] [.int (nI 23), .int (nI 0)] hp = _
  rw [cal_eq (sj_ck hp (j := nI 0) (n := nI 23) (by decide) (by decide)) rfl rfl (chk_rf _ _ _)]
  rfl
theorem sc_7_0 (hp : HP) : EJ0_charAt_5068e [.ref 2007, .int (nI 0)] hp = some (nI 108) := by
  show oCal 1 (some 99) EJ0_isLatin1_aae02 fZ (oIfeq (kN) (oAld 0 (oSvl (oIld 1 (oCal 2 none EJ1_charAt_3b067 fI (oCretP)))))) [(0, .ref 2007), (1, .int (nI 0))] [.ref 2007] hp = _
  rw [cal_eq (si_7 hp) rfl rfl (chk_rf _ _ _)]
  show oCal 2 none EJ1_charAt_3b067 fI (oCretP) [(0, .ref 2007), (1, .int (nI 0))] [.int (nI 0), .ref 3007] hp = _
  rw [cal_eq (sb_7_0 hp) rfl rfl (chk_rf _ _ _)]
  rfl
theorem sb_7_1 (hp : HP) : EJ1_charAt_3b067 [.ref 3007, .int (nI 1)] hp = some (nI 101) := by
  show oCal 2 none EJ0_checkIndex_df160 fU (oAld 0 (oIld 1 (oSat (oConst (.int 255) (oiand (oi2c (oCretP))))))) [(0, .ref 3007), (1, .int (nI 1))] [.int (nI 23), .int (nI 1)] hp = _
  rw [cal_eq (sj_ck hp (j := nI 1) (n := nI 23) (by decide) (by decide)) rfl rfl (chk_rf _ _ _)]
  rfl
theorem sc_7_1 (hp : HP) : EJ0_charAt_5068e [.ref 2007, .int (nI 1)] hp = some (nI 101) := by
  show oCal 1 (some 99) EJ0_isLatin1_aae02 fZ (oIfeq (kN) (oAld 0 (oSvl (oIld 1 (oCal 2 none EJ1_charAt_3b067 fI (oCretP)))))) [(0, .ref 2007), (1, .int (nI 1))] [.ref 2007] hp = _
  rw [cal_eq (si_7 hp) rfl rfl (chk_rf _ _ _)]
  show oCal 2 none EJ1_charAt_3b067 fI (oCretP) [(0, .ref 2007), (1, .int (nI 1))] [.int (nI 1), .ref 3007] hp = _
  rw [cal_eq (sb_7_1 hp) rfl rfl (chk_rf _ _ _)]
  rfl
theorem sb_7_2 (hp : HP) : EJ1_charAt_3b067 [.ref 3007, .int (nI 2)] hp = some (nI 102) := by
  show oCal 2 none EJ0_checkIndex_df160 fU (oAld 0 (oIld 1 (oSat (oConst (.int 255) (oiand (oi2c (oCretP))))))) [(0, .ref 3007), (1, .int (nI 2))] [.int (nI 23), .int (nI 2)] hp = _
  rw [cal_eq (sj_ck hp (j := nI 2) (n := nI 23) (by decide) (by decide)) rfl rfl (chk_rf _ _ _)]
  rfl
theorem sc_7_2 (hp : HP) : EJ0_charAt_5068e [.ref 2007, .int (nI 2)] hp = some (nI 102) := by
  show oCal 1 (some 99) EJ0_isLatin1_aae02 fZ (oIfeq (kN) (oAld 0 (oSvl (oIld 1 (oCal 2 none EJ1_charAt_3b067 fI (oCretP)))))) [(0, .ref 2007), (1, .int (nI 2))] [.ref 2007] hp = _
  rw [cal_eq (si_7 hp) rfl rfl (chk_rf _ _ _)]
  show oCal 2 none EJ1_charAt_3b067 fI (oCretP) [(0, .ref 2007), (1, .int (nI 2))] [.int (nI 2), .ref 3007] hp = _
  rw [cal_eq (sb_7_2 hp) rfl rfl (chk_rf _ _ _)]
  rfl
theorem sb_7_3 (hp : HP) : EJ1_charAt_3b067 [.ref 3007, .int (nI 3)] hp = some (nI 116) := by
  show oCal 2 none EJ0_checkIndex_df160 fU (oAld 0 (oIld 1 (oSat (oConst (.int 255) (oiand (oi2c (oCretP))))))) [(0, .ref 3007), (1, .int (nI 3))] [.int (nI 23), .int (nI 3)] hp = _
  rw [cal_eq (sj_ck hp (j := nI 3) (n := nI 23) (by decide) (by decide)) rfl rfl (chk_rf _ _ _)]
  rfl
theorem sc_7_3 (hp : HP) : EJ0_charAt_5068e [.ref 2007, .int (nI 3)] hp = some (nI 116) := by
  show oCal 1 (some 99) EJ0_isLatin1_aae02 fZ (oIfeq (kN) (oAld 0 (oSvl (oIld 1 (oCal 2 none EJ1_charAt_3b067 fI (oCretP)))))) [(0, .ref 2007), (1, .int (nI 3))] [.ref 2007] hp = _
  rw [cal_eq (si_7 hp) rfl rfl (chk_rf _ _ _)]
  show oCal 2 none EJ1_charAt_3b067 fI (oCretP) [(0, .ref 2007), (1, .int (nI 3))] [.int (nI 3), .ref 3007] hp = _
  rw [cal_eq (sb_7_3 hp) rfl rfl (chk_rf _ _ _)]
  rfl
theorem sb_7_4 (hp : HP) : EJ1_charAt_3b067 [.ref 3007, .int (nI 4)] hp = some (nI 32) := by
  show oCal 2 none EJ0_checkIndex_df160 fU (oAld 0 (oIld 1 (oSat (oConst (.int 255) (oiand (oi2c (oCretP))))))) [(0, .ref 3007), (1, .int (nI 4))] [.int (nI 23), .int (nI 4)] hp = _
  rw [cal_eq (sj_ck hp (j := nI 4) (n := nI 23) (by decide) (by decide)) rfl rfl (chk_rf _ _ _)]
  rfl
theorem sc_7_4 (hp : HP) : EJ0_charAt_5068e [.ref 2007, .int (nI 4)] hp = some (nI 32) := by
  show oCal 1 (some 99) EJ0_isLatin1_aae02 fZ (oIfeq (kN) (oAld 0 (oSvl (oIld 1 (oCal 2 none EJ1_charAt_3b067 fI (oCretP)))))) [(0, .ref 2007), (1, .int (nI 4))] [.ref 2007] hp = _
  rw [cal_eq (si_7 hp) rfl rfl (chk_rf _ _ _)]
  show oCal 2 none EJ1_charAt_3b067 fI (oCretP) [(0, .ref 2007), (1, .int (nI 4))] [.int (nI 4), .ref 3007] hp = _
  rw [cal_eq (sb_7_4 hp) rfl rfl (chk_rf _ _ _)]
  rfl
theorem sb_7_5 (hp : HP) : EJ1_charAt_3b067 [.ref 3007, .int (nI 5)] hp = some (nI 114) := by
  show oCal 2 none EJ0_checkIndex_df160 fU (oAld 0 (oIld 1 (oSat (oConst (.int 255) (oiand (oi2c (oCretP))))))) [(0, .ref 3007), (1, .int (nI 5))] [.int (nI 23), .int (nI 5)] hp = _
  rw [cal_eq (sj_ck hp (j := nI 5) (n := nI 23) (by decide) (by decide)) rfl rfl (chk_rf _ _ _)]
  rfl
theorem sc_7_5 (hp : HP) : EJ0_charAt_5068e [.ref 2007, .int (nI 5)] hp = some (nI 114) := by
  show oCal 1 (some 99) EJ0_isLatin1_aae02 fZ (oIfeq (kN) (oAld 0 (oSvl (oIld 1 (oCal 2 none EJ1_charAt_3b067 fI (oCretP)))))) [(0, .ref 2007), (1, .int (nI 5))] [.ref 2007] hp = _
  rw [cal_eq (si_7 hp) rfl rfl (chk_rf _ _ _)]
  show oCal 2 none EJ1_charAt_3b067 fI (oCretP) [(0, .ref 2007), (1, .int (nI 5))] [.int (nI 5), .ref 3007] hp = _
  rw [cal_eq (sb_7_5 hp) rfl rfl (chk_rf _ _ _)]
  rfl
theorem sb_7_6 (hp : HP) : EJ1_charAt_3b067 [.ref 3007, .int (nI 6)] hp = some (nI 105) := by
  show oCal 2 none EJ0_checkIndex_df160 fU (oAld 0 (oIld 1 (oSat (oConst (.int 255) (oiand (oi2c (oCretP))))))) [(0, .ref 3007), (1, .int (nI 6))] [.int (nI 23), .int (nI 6)] hp = _
  rw [cal_eq (sj_ck hp (j := nI 6) (n := nI 23) (by decide) (by decide)) rfl rfl (chk_rf _ _ _)]
  rfl
theorem sc_7_6 (hp : HP) : EJ0_charAt_5068e [.ref 2007, .int (nI 6)] hp = some (nI 105) := by
  show oCal 1 (some 99) EJ0_isLatin1_aae02 fZ (oIfeq (kN) (oAld 0 (oSvl (oIld 1 (oCal 2 none EJ1_charAt_3b067 fI (oCretP)))))) [(0, .ref 2007), (1, .int (nI 6))] [.ref 2007] hp = _
  rw [cal_eq (si_7 hp) rfl rfl (chk_rf _ _ _)]
  show oCal 2 none EJ1_charAt_3b067 fI (oCretP) [(0, .ref 2007), (1, .int (nI 6))] [.int (nI 6), .ref 3007] hp = _
  rw [cal_eq (sb_7_6 hp) rfl rfl (chk_rf _ _ _)]
  rfl
theorem sb_7_7 (hp : HP) : EJ1_charAt_3b067 [.ref 3007, .int (nI 7)] hp = some (nI 103) := by
  show oCal 2 none EJ0_checkIndex_df160 fU (oAld 0 (oIld 1 (oSat (oConst (.int 255) (oiand (oi2c (oCretP))))))) [(0, .ref 3007), (1, .int (nI 7))] [.int (nI 23), .int (nI 7)] hp = _
  rw [cal_eq (sj_ck hp (j := nI 7) (n := nI 23) (by decide) (by decide)) rfl rfl (chk_rf _ _ _)]
  rfl
theorem sc_7_7 (hp : HP) : EJ0_charAt_5068e [.ref 2007, .int (nI 7)] hp = some (nI 103) := by
  show oCal 1 (some 99) EJ0_isLatin1_aae02 fZ (oIfeq (kN) (oAld 0 (oSvl (oIld 1 (oCal 2 none EJ1_charAt_3b067 fI (oCretP)))))) [(0, .ref 2007), (1, .int (nI 7))] [.ref 2007] hp = _
  rw [cal_eq (si_7 hp) rfl rfl (chk_rf _ _ _)]
  show oCal 2 none EJ1_charAt_3b067 fI (oCretP) [(0, .ref 2007), (1, .int (nI 7))] [.int (nI 7), .ref 3007] hp = _
  rw [cal_eq (sb_7_7 hp) rfl rfl (chk_rf _ _ _)]
  rfl
theorem sb_7_8 (hp : HP) : EJ1_charAt_3b067 [.ref 3007, .int (nI 8)] hp = some (nI 104) := by
  show oCal 2 none EJ0_checkIndex_df160 fU (oAld 0 (oIld 1 (oSat (oConst (.int 255) (oiand (oi2c (oCretP))))))) [(0, .ref 3007), (1, .int (nI 8))] [.int (nI 23), .int (nI 8)] hp = _
  rw [cal_eq (sj_ck hp (j := nI 8) (n := nI 23) (by decide) (by decide)) rfl rfl (chk_rf _ _ _)]
  rfl
theorem sc_7_8 (hp : HP) : EJ0_charAt_5068e [.ref 2007, .int (nI 8)] hp = some (nI 104) := by
  show oCal 1 (some 99) EJ0_isLatin1_aae02 fZ (oIfeq (kN) (oAld 0 (oSvl (oIld 1 (oCal 2 none EJ1_charAt_3b067 fI (oCretP)))))) [(0, .ref 2007), (1, .int (nI 8))] [.ref 2007] hp = _
  rw [cal_eq (si_7 hp) rfl rfl (chk_rf _ _ _)]
  show oCal 2 none EJ1_charAt_3b067 fI (oCretP) [(0, .ref 2007), (1, .int (nI 8))] [.int (nI 8), .ref 3007] hp = _
  rw [cal_eq (sb_7_8 hp) rfl rfl (chk_rf _ _ _)]
  rfl
theorem sb_7_9 (hp : HP) : EJ1_charAt_3b067 [.ref 3007, .int (nI 9)] hp = some (nI 116) := by
  show oCal 2 none EJ0_checkIndex_df160 fU (oAld 0 (oIld 1 (oSat (oConst (.int 255) (oiand (oi2c (oCretP))))))) [(0, .ref 3007), (1, .int (nI 9))] [.int (nI 23), .int (nI 9)] hp = _
  rw [cal_eq (sj_ck hp (j := nI 9) (n := nI 23) (by decide) (by decide)) rfl rfl (chk_rf _ _ _)]
  rfl
theorem sc_7_9 (hp : HP) : EJ0_charAt_5068e [.ref 2007, .int (nI 9)] hp = some (nI 116) := by
  show oCal 1 (some 99) EJ0_isLatin1_aae02 fZ (oIfeq (kN) (oAld 0 (oSvl (oIld 1 (oCal 2 none EJ1_charAt_3b067 fI (oCretP)))))) [(0, .ref 2007), (1, .int (nI 9))] [.ref 2007] hp = _
  rw [cal_eq (si_7 hp) rfl rfl (chk_rf _ _ _)]
  show oCal 2 none EJ1_charAt_3b067 fI (oCretP) [(0, .ref 2007), (1, .int (nI 9))] [.int (nI 9), .ref 3007] hp = _
  rw [cal_eq (sb_7_9 hp) rfl rfl (chk_rf _ _ _)]
  rfl
theorem sb_7_10 (hp : HP) : EJ1_charAt_3b067 [.ref 3007, .int (nI 10)] hp = some (nI 32) := by
  show oCal 2 none EJ0_checkIndex_df160 fU (oAld 0 (oIld 1 (oSat (oConst (.int 255) (oiand (oi2c (oCretP))))))) [(0, .ref 3007), (1, .int (nI 10))] [.int (nI 23), .int (nI 10)] hp = _
  rw [cal_eq (sj_ck hp (j := nI 10) (n := nI 23) (by decide) (by decide)) rfl rfl (chk_rf _ _ _)]
  rfl
theorem sc_7_10 (hp : HP) : EJ0_charAt_5068e [.ref 2007, .int (nI 10)] hp = some (nI 32) := by
  show oCal 1 (some 99) EJ0_isLatin1_aae02 fZ (oIfeq (kN) (oAld 0 (oSvl (oIld 1 (oCal 2 none EJ1_charAt_3b067 fI (oCretP)))))) [(0, .ref 2007), (1, .int (nI 10))] [.ref 2007] hp = _
  rw [cal_eq (si_7 hp) rfl rfl (chk_rf _ _ _)]
  show oCal 2 none EJ1_charAt_3b067 fI (oCretP) [(0, .ref 2007), (1, .int (nI 10))] [.int (nI 10), .ref 3007] hp = _
  rw [cal_eq (sb_7_10 hp) rfl rfl (chk_rf _ _ _)]
  rfl
theorem sb_7_11 (hp : HP) : EJ1_charAt_3b067 [.ref 3007, .int (nI 11)] hp = some (nI 111) := by
  show oCal 2 none EJ0_checkIndex_df160 fU (oAld 0 (oIld 1 (oSat (oConst (.int 255) (oiand (oi2c (oCretP))))))) [(0, .ref 3007), (1, .int (nI 11))] [.int (nI 23), .int (nI 11)] hp = _
  rw [cal_eq (sj_ck hp (j := nI 11) (n := nI 23) (by decide) (by decide)) rfl rfl (chk_rf _ _ _)]
  rfl
theorem sc_7_11 (hp : HP) : EJ0_charAt_5068e [.ref 2007, .int (nI 11)] hp = some (nI 111) := by
  show oCal 1 (some 99) EJ0_isLatin1_aae02 fZ (oIfeq (kN) (oAld 0 (oSvl (oIld 1 (oCal 2 none EJ1_charAt_3b067 fI (oCretP)))))) [(0, .ref 2007), (1, .int (nI 11))] [.ref 2007] hp = _
  rw [cal_eq (si_7 hp) rfl rfl (chk_rf _ _ _)]
  show oCal 2 none EJ1_charAt_3b067 fI (oCretP) [(0, .ref 2007), (1, .int (nI 11))] [.int (nI 11), .ref 3007] hp = _
  rw [cal_eq (sb_7_11 hp) rfl rfl (chk_rf _ _ _)]
  rfl
theorem sb_7_12 (hp : HP) : EJ1_charAt_3b067 [.ref 3007, .int (nI 12)] hp = some (nI 110) := by
  show oCal 2 none EJ0_checkIndex_df160 fU (oAld 0 (oIld 1 (oSat (oConst (.int 255) (oiand (oi2c (oCretP))))))) [(0, .ref 3007), (1, .int (nI 12))] [.int (nI 23), .int (nI 12)] hp = _
  rw [cal_eq (sj_ck hp (j := nI 12) (n := nI 23) (by decide) (by decide)) rfl rfl (chk_rf _ _ _)]
  rfl
theorem sc_7_12 (hp : HP) : EJ0_charAt_5068e [.ref 2007, .int (nI 12)] hp = some (nI 110) := by
  show oCal 1 (some 99) EJ0_isLatin1_aae02 fZ (oIfeq (kN) (oAld 0 (oSvl (oIld 1 (oCal 2 none EJ1_charAt_3b067 fI (oCretP)))))) [(0, .ref 2007), (1, .int (nI 12))] [.ref 2007] hp = _
  rw [cal_eq (si_7 hp) rfl rfl (chk_rf _ _ _)]
  show oCal 2 none EJ1_charAt_3b067 fI (oCretP) [(0, .ref 2007), (1, .int (nI 12))] [.int (nI 12), .ref 3007] hp = _
  rw [cal_eq (sb_7_12 hp) rfl rfl (chk_rf _ _ _)]
  rfl
theorem sb_7_13 (hp : HP) : EJ1_charAt_3b067 [.ref 3007, .int (nI 13)] hp = some (nI 99) := by
  show oCal 2 none EJ0_checkIndex_df160 fU (oAld 0 (oIld 1 (oSat (oConst (.int 255) (oiand (oi2c (oCretP))))))) [(0, .ref 3007), (1, .int (nI 13))] [.int (nI 23), .int (nI 13)] hp = _
  rw [cal_eq (sj_ck hp (j := nI 13) (n := nI 23) (by decide) (by decide)) rfl rfl (chk_rf _ _ _)]
  rfl
theorem sc_7_13 (hp : HP) : EJ0_charAt_5068e [.ref 2007, .int (nI 13)] hp = some (nI 99) := by
  show oCal 1 (some 99) EJ0_isLatin1_aae02 fZ (oIfeq (kN) (oAld 0 (oSvl (oIld 1 (oCal 2 none EJ1_charAt_3b067 fI (oCretP)))))) [(0, .ref 2007), (1, .int (nI 13))] [.ref 2007] hp = _
  rw [cal_eq (si_7 hp) rfl rfl (chk_rf _ _ _)]
  show oCal 2 none EJ1_charAt_3b067 fI (oCretP) [(0, .ref 2007), (1, .int (nI 13))] [.int (nI 13), .ref 3007] hp = _
  rw [cal_eq (sb_7_13 hp) rfl rfl (chk_rf _ _ _)]
  rfl
theorem sb_7_14 (hp : HP) : EJ1_charAt_3b067 [.ref 3007, .int (nI 14)] hp = some (nI 101) := by
  show oCal 2 none EJ0_checkIndex_df160 fU (oAld 0 (oIld 1 (oSat (oConst (.int 255) (oiand (oi2c (oCretP))))))) [(0, .ref 3007), (1, .int (nI 14))] [.int (nI 23), .int (nI 14)] hp = _
  rw [cal_eq (sj_ck hp (j := nI 14) (n := nI 23) (by decide) (by decide)) rfl rfl (chk_rf _ _ _)]
  rfl
theorem sc_7_14 (hp : HP) : EJ0_charAt_5068e [.ref 2007, .int (nI 14)] hp = some (nI 101) := by
  show oCal 1 (some 99) EJ0_isLatin1_aae02 fZ (oIfeq (kN) (oAld 0 (oSvl (oIld 1 (oCal 2 none EJ1_charAt_3b067 fI (oCretP)))))) [(0, .ref 2007), (1, .int (nI 14))] [.ref 2007] hp = _
  rw [cal_eq (si_7 hp) rfl rfl (chk_rf _ _ _)]
  show oCal 2 none EJ1_charAt_3b067 fI (oCretP) [(0, .ref 2007), (1, .int (nI 14))] [.int (nI 14), .ref 3007] hp = _
  rw [cal_eq (sb_7_14 hp) rfl rfl (chk_rf _ _ _)]
  rfl
theorem sb_7_15 (hp : HP) : EJ1_charAt_3b067 [.ref 3007, .int (nI 15)] hp = some (nI 32) := by
  show oCal 2 none EJ0_checkIndex_df160 fU (oAld 0 (oIld 1 (oSat (oConst (.int 255) (oiand (oi2c (oCretP))))))) [(0, .ref 3007), (1, .int (nI 15))] [.int (nI 23), .int (nI 15)] hp = _
  rw [cal_eq (sj_ck hp (j := nI 15) (n := nI 23) (by decide) (by decide)) rfl rfl (chk_rf _ _ _)]
  rfl
theorem sc_7_15 (hp : HP) : EJ0_charAt_5068e [.ref 2007, .int (nI 15)] hp = some (nI 32) := by
  show oCal 1 (some 99) EJ0_isLatin1_aae02 fZ (oIfeq (kN) (oAld 0 (oSvl (oIld 1 (oCal 2 none EJ1_charAt_3b067 fI (oCretP)))))) [(0, .ref 2007), (1, .int (nI 15))] [.ref 2007] hp = _
  rw [cal_eq (si_7 hp) rfl rfl (chk_rf _ _ _)]
  show oCal 2 none EJ1_charAt_3b067 fI (oCretP) [(0, .ref 2007), (1, .int (nI 15))] [.int (nI 15), .ref 3007] hp = _
  rw [cal_eq (sb_7_15 hp) rfl rfl (chk_rf _ _ _)]
  rfl
theorem sb_7_16 (hp : HP) : EJ1_charAt_3b067 [.ref 3007, .int (nI 16)] hp = some (nI 99) := by
  show oCal 2 none EJ0_checkIndex_df160 fU (oAld 0 (oIld 1 (oSat (oConst (.int 255) (oiand (oi2c (oCretP))))))) [(0, .ref 3007), (1, .int (nI 16))] [.int (nI 23), .int (nI 16)] hp = _
  rw [cal_eq (sj_ck hp (j := nI 16) (n := nI 23) (by decide) (by decide)) rfl rfl (chk_rf _ _ _)]
  rfl
theorem sc_7_16 (hp : HP) : EJ0_charAt_5068e [.ref 2007, .int (nI 16)] hp = some (nI 99) := by
  show oCal 1 (some 99) EJ0_isLatin1_aae02 fZ (oIfeq (kN) (oAld 0 (oSvl (oIld 1 (oCal 2 none EJ1_charAt_3b067 fI (oCretP)))))) [(0, .ref 2007), (1, .int (nI 16))] [.ref 2007] hp = _
  rw [cal_eq (si_7 hp) rfl rfl (chk_rf _ _ _)]
  show oCal 2 none EJ1_charAt_3b067 fI (oCretP) [(0, .ref 2007), (1, .int (nI 16))] [.int (nI 16), .ref 3007] hp = _
  rw [cal_eq (sb_7_16 hp) rfl rfl (chk_rf _ _ _)]
  rfl
theorem sb_7_17 (hp : HP) : EJ1_charAt_3b067 [.ref 3007, .int (nI 17)] hp = some (nI 111) := by
  show oCal 2 none EJ0_checkIndex_df160 fU (oAld 0 (oIld 1 (oSat (oConst (.int 255) (oiand (oi2c (oCretP))))))) [(0, .ref 3007), (1, .int (nI 17))] [.int (nI 23), .int (nI 17)] hp = _
  rw [cal_eq (sj_ck hp (j := nI 17) (n := nI 23) (by decide) (by decide)) rfl rfl (chk_rf _ _ _)]
  rfl
theorem sc_7_17 (hp : HP) : EJ0_charAt_5068e [.ref 2007, .int (nI 17)] hp = some (nI 111) := by
  show oCal 1 (some 99) EJ0_isLatin1_aae02 fZ (oIfeq (kN) (oAld 0 (oSvl (oIld 1 (oCal 2 none EJ1_charAt_3b067 fI (oCretP)))))) [(0, .ref 2007), (1, .int (nI 17))] [.ref 2007] hp = _
  rw [cal_eq (si_7 hp) rfl rfl (chk_rf _ _ _)]
  show oCal 2 none EJ1_charAt_3b067 fI (oCretP) [(0, .ref 2007), (1, .int (nI 17))] [.int (nI 17), .ref 3007] hp = _
  rw [cal_eq (sb_7_17 hp) rfl rfl (chk_rf _ _ _)]
  rfl
theorem sb_7_18 (hp : HP) : EJ1_charAt_3b067 [.ref 3007, .int (nI 18)] hp = some (nI 119) := by
  show oCal 2 none EJ0_checkIndex_df160 fU (oAld 0 (oIld 1 (oSat (oConst (.int 255) (oiand (oi2c (oCretP))))))) [(0, .ref 3007), (1, .int (nI 18))] [.int (nI 23), .int (nI 18)] hp = _
  rw [cal_eq (sj_ck hp (j := nI 18) (n := nI 23) (by decide) (by decide)) rfl rfl (chk_rf _ _ _)]
  rfl
theorem sc_7_18 (hp : HP) : EJ0_charAt_5068e [.ref 2007, .int (nI 18)] hp = some (nI 119) := by
  show oCal 1 (some 99) EJ0_isLatin1_aae02 fZ (oIfeq (kN) (oAld 0 (oSvl (oIld 1 (oCal 2 none EJ1_charAt_3b067 fI (oCretP)))))) [(0, .ref 2007), (1, .int (nI 18))] [.ref 2007] hp = _
  rw [cal_eq (si_7 hp) rfl rfl (chk_rf _ _ _)]
  show oCal 2 none EJ1_charAt_3b067 fI (oCretP) [(0, .ref 2007), (1, .int (nI 18))] [.int (nI 18), .ref 3007] hp = _
  rw [cal_eq (sb_7_18 hp) rfl rfl (chk_rf _ _ _)]
  rfl
theorem sb_7_19 (hp : HP) : EJ1_charAt_3b067 [.ref 3007, .int (nI 19)] hp = some (nI 32) := by
  show oCal 2 none EJ0_checkIndex_df160 fU (oAld 0 (oIld 1 (oSat (oConst (.int 255) (oiand (oi2c (oCretP))))))) [(0, .ref 3007), (1, .int (nI 19))] [.int (nI 23), .int (nI 19)] hp = _
  rw [cal_eq (sj_ck hp (j := nI 19) (n := nI 23) (by decide) (by decide)) rfl rfl (chk_rf _ _ _)]
  rfl
theorem sc_7_19 (hp : HP) : EJ0_charAt_5068e [.ref 2007, .int (nI 19)] hp = some (nI 32) := by
  show oCal 1 (some 99) EJ0_isLatin1_aae02 fZ (oIfeq (kN) (oAld 0 (oSvl (oIld 1 (oCal 2 none EJ1_charAt_3b067 fI (oCretP)))))) [(0, .ref 2007), (1, .int (nI 19))] [.ref 2007] hp = _
  rw [cal_eq (si_7 hp) rfl rfl (chk_rf _ _ _)]
  show oCal 2 none EJ1_charAt_3b067 fI (oCretP) [(0, .ref 2007), (1, .int (nI 19))] [.int (nI 19), .ref 3007] hp = _
  rw [cal_eq (sb_7_19 hp) rfl rfl (chk_rf _ _ _)]
  rfl
theorem sb_7_20 (hp : HP) : EJ1_charAt_3b067 [.ref 3007, .int (nI 20)] hp = some (nI 108) := by
  show oCal 2 none EJ0_checkIndex_df160 fU (oAld 0 (oIld 1 (oSat (oConst (.int 255) (oiand (oi2c (oCretP))))))) [(0, .ref 3007), (1, .int (nI 20))] [.int (nI 23), .int (nI 20)] hp = _
  rw [cal_eq (sj_ck hp (j := nI 20) (n := nI 23) (by decide) (by decide)) rfl rfl (chk_rf _ _ _)]
  rfl
theorem sc_7_20 (hp : HP) : EJ0_charAt_5068e [.ref 2007, .int (nI 20)] hp = some (nI 108) := by
  show oCal 1 (some 99) EJ0_isLatin1_aae02 fZ (oIfeq (kN) (oAld 0 (oSvl (oIld 1 (oCal 2 none EJ1_charAt_3b067 fI (oCretP)))))) [(0, .ref 2007), (1, .int (nI 20))] [.ref 2007] hp = _
  rw [cal_eq (si_7 hp) rfl rfl (chk_rf _ _ _)]
  show oCal 2 none EJ1_charAt_3b067 fI (oCretP) [(0, .ref 2007), (1, .int (nI 20))] [.int (nI 20), .ref 3007] hp = _
  rw [cal_eq (sb_7_20 hp) rfl rfl (chk_rf _ _ _)]
  rfl
theorem sb_7_21 (hp : HP) : EJ1_charAt_3b067 [.ref 3007, .int (nI 21)] hp = some (nI 111) := by
  show oCal 2 none EJ0_checkIndex_df160 fU (oAld 0 (oIld 1 (oSat (oConst (.int 255) (oiand (oi2c (oCretP))))))) [(0, .ref 3007), (1, .int (nI 21))] [.int (nI 23), .int (nI 21)] hp = _
  rw [cal_eq (sj_ck hp (j := nI 21) (n := nI 23) (by decide) (by decide)) rfl rfl (chk_rf _ _ _)]
  rfl
theorem sc_7_21 (hp : HP) : EJ0_charAt_5068e [.ref 2007, .int (nI 21)] hp = some (nI 111) := by
  show oCal 1 (some 99) EJ0_isLatin1_aae02 fZ (oIfeq (kN) (oAld 0 (oSvl (oIld 1 (oCal 2 none EJ1_charAt_3b067 fI (oCretP)))))) [(0, .ref 2007), (1, .int (nI 21))] [.ref 2007] hp = _
  rw [cal_eq (si_7 hp) rfl rfl (chk_rf _ _ _)]
  show oCal 2 none EJ1_charAt_3b067 fI (oCretP) [(0, .ref 2007), (1, .int (nI 21))] [.int (nI 21), .ref 3007] hp = _
  rw [cal_eq (sb_7_21 hp) rfl rfl (chk_rf _ _ _)]
  rfl
theorem sb_7_22 (hp : HP) : EJ1_charAt_3b067 [.ref 3007, .int (nI 22)] hp = some (nI 116) := by
  show oCal 2 none EJ0_checkIndex_df160 fU (oAld 0 (oIld 1 (oSat (oConst (.int 255) (oiand (oi2c (oCretP))))))) [(0, .ref 3007), (1, .int (nI 22))] [.int (nI 23), .int (nI 22)] hp = _
  rw [cal_eq (sj_ck hp (j := nI 22) (n := nI 23) (by decide) (by decide)) rfl rfl (chk_rf _ _ _)]
  rfl
theorem sc_7_22 (hp : HP) : EJ0_charAt_5068e [.ref 2007, .int (nI 22)] hp = some (nI 116) := by
  show oCal 1 (some 99) EJ0_isLatin1_aae02 fZ (oIfeq (kN) (oAld 0 (oSvl (oIld 1 (oCal 2 none EJ1_charAt_3b067 fI (oCretP)))))) [(0, .ref 2007), (1, .int (nI 22))] [.ref 2007] hp = _
  rw [cal_eq (si_7 hp) rfl rfl (chk_rf _ _ _)]
  show oCal 2 none EJ1_charAt_3b067 fI (oCretP) [(0, .ref 2007), (1, .int (nI 22))] [.int (nI 22), .ref 3007] hp = _
  rw [cal_eq (sb_7_22 hp) rfl rfl (chk_rf _ _ _)]
  rfl
theorem sc_7 (hp : HP) : ∀ k, k < 23 → EJ0_charAt_5068e [.ref 2007, .int (nI k)] hp = some (nI (sx_7 k)) := fun k hk => by
  rcases (by omega : k = 0 ∨ k = 1 ∨ k = 2 ∨ k = 3 ∨ k = 4 ∨ k = 5 ∨ k = 6 ∨ k = 7 ∨ k = 8 ∨ k = 9 ∨ k = 10 ∨ k = 11 ∨ k = 12 ∨ k = 13 ∨ k = 14 ∨ k = 15 ∨ k = 16 ∨ k = 17 ∨ k = 18 ∨ k = 19 ∨ k = 20 ∨ k = 21 ∨ k = 22) with rfl | rfl | rfl | rfl | rfl | rfl | rfl | rfl | rfl | rfl | rfl | rfl | rfl | rfl | rfl | rfl | rfl | rfl | rfl | rfl | rfl | rfl | rfl
  · exact sc_7_0 hp
  · exact sc_7_1 hp
  · exact sc_7_2 hp
  · exact sc_7_3 hp
  · exact sc_7_4 hp
  · exact sc_7_5 hp
  · exact sc_7_6 hp
  · exact sc_7_7 hp
  · exact sc_7_8 hp
  · exact sc_7_9 hp
  · exact sc_7_10 hp
  · exact sc_7_11 hp
  · exact sc_7_12 hp
  · exact sc_7_13 hp
  · exact sc_7_14 hp
  · exact sc_7_15 hp
  · exact sc_7_16 hp
  · exact sc_7_17 hp
  · exact sc_7_18 hp
  · exact sc_7_19 hp
  · exact sc_7_20 hp
  · exact sc_7_21 hp
  · exact sc_7_22 hp
def sx_8 (k : Nat) : Nat := ([97, 116] : List Nat).getD k 0
theorem sd_8 (hp : HP) : EJ0_coder_7d493 [.ref 2008] hp = some 0 := rfl
theorem sl_8 (hp : HP) : EJ0_length_8abf5 [.ref 2008] hp = some (nI 2) := by
  show oCal 1 (some 99) EJ0_coder_7d493 fI (oishr oIretP) [(0, .ref 2008)] [.ref 2008, .int (nI 2)] hp = _
  rw [cal_eq (sd_8 hp) rfl rfl (chk_rf _ _ _)]
  rfl
theorem si_8 (hp : HP) : EJ0_isLatin1_aae02 [.ref 2008] hp = some true := rfl
theorem sb_8_0 (hp : HP) : EJ1_charAt_3b067 [.ref 3008, .int (nI 0)] hp = some (nI 97) := by
  show oCal 2 none EJ0_checkIndex_df160 fU (oAld 0 (oIld 1 (oSat (oConst (.int 255) (oiand (oi2c (oCretP))))))) [(0, .ref 3008), (1, .int (nI 0))] [.int (nI 2), .int (nI 0)] hp = _
  rw [cal_eq (sj_ck hp (j := nI 0) (n := nI 2) (by decide) (by decide)) rfl rfl (chk_rf _ _ _)]
  rfl
theorem sc_8_0 (hp : HP) : EJ0_charAt_5068e [.ref 2008, .int (nI 0)] hp = some (nI 97) := by
  show oCal 1 (some 99) EJ0_isLatin1_aae02 fZ (oIfeq (kN) (oAld 0 (oSvl (oIld 1 (oCal 2 none EJ1_charAt_3b067 fI (oCretP)))))) [(0, .ref 2008), (1, .int (nI 0))] [.ref 2008] hp = _
  rw [cal_eq (si_8 hp) rfl rfl (chk_rf _ _ _)]
  show oCal 2 none EJ1_charAt_3b067 fI (oCretP) [(0, .ref 2008), (1, .int (nI 0))] [.int (nI 0), .ref 3008] hp = _
  rw [cal_eq (sb_8_0 hp) rfl rfl (chk_rf _ _ _)]
  rfl
theorem sb_8_1 (hp : HP) : EJ1_charAt_3b067 [.ref 3008, .int (nI 1)] hp = some (nI 116) := by
  show oCal 2 none EJ0_checkIndex_df160 fU (oAld 0 (oIld 1 (oSat (oConst (.int 255) (oiand (oi2c (oCretP))))))) [(0, .ref 3008), (1, .int (nI 1))] [.int (nI 2), .int (nI 1)] hp = _
  rw [cal_eq (sj_ck hp (j := nI 1) (n := nI 2) (by decide) (by decide)) rfl rfl (chk_rf _ _ _)]
  rfl
theorem sc_8_1 (hp : HP) : EJ0_charAt_5068e [.ref 2008, .int (nI 1)] hp = some (nI 116) := by
  show oCal 1 (some 99) EJ0_isLatin1_aae02 fZ (oIfeq (kN) (oAld 0 (oSvl (oIld 1 (oCal 2 none EJ1_charAt_3b067 fI (oCretP)))))) [(0, .ref 2008), (1, .int (nI 1))] [.ref 2008] hp = _
  rw [cal_eq (si_8 hp) rfl rfl (chk_rf _ _ _)]
  show oCal 2 none EJ1_charAt_3b067 fI (oCretP) [(0, .ref 2008), (1, .int (nI 1))] [.int (nI 1), .ref 3008] hp = _
  rw [cal_eq (sb_8_1 hp) rfl rfl (chk_rf _ _ _)]
  rfl
theorem sc_8 (hp : HP) : ∀ k, k < 2 → EJ0_charAt_5068e [.ref 2008, .int (nI k)] hp = some (nI (sx_8 k)) := fun k hk => by
  rcases (by omega : k = 0 ∨ k = 1) with rfl | rfl
  · exact sc_8_0 hp
  · exact sc_8_1 hp
def sx_9 (k : Nat) : Nat := ([102, 97, 99, 101, 115] : List Nat).getD k 0
theorem sd_9 (hp : HP) : EJ0_coder_7d493 [.ref 2009] hp = some 0 := rfl
theorem sl_9 (hp : HP) : EJ0_length_8abf5 [.ref 2009] hp = some (nI 5) := by
  show oCal 1 (some 99) EJ0_coder_7d493 fI (oishr oIretP) [(0, .ref 2009)] [.ref 2009, .int (nI 5)] hp = _
  rw [cal_eq (sd_9 hp) rfl rfl (chk_rf _ _ _)]
  rfl
theorem si_9 (hp : HP) : EJ0_isLatin1_aae02 [.ref 2009] hp = some true := rfl
theorem sb_9_0 (hp : HP) : EJ1_charAt_3b067 [.ref 3009, .int (nI 0)] hp = some (nI 102) := by
  show oCal 2 none EJ0_checkIndex_df160 fU (oAld 0 (oIld 1 (oSat (oConst (.int 255) (oiand (oi2c (oCretP))))))) [(0, .ref 3009), (1, .int (nI 0))] [.int (nI 5), .int (nI 0)] hp = _
  rw [cal_eq (sj_ck hp (j := nI 0) (n := nI 5) (by decide) (by decide)) rfl rfl (chk_rf _ _ _)]
  rfl
theorem sc_9_0 (hp : HP) : EJ0_charAt_5068e [.ref 2009, .int (nI 0)] hp = some (nI 102) := by
  show oCal 1 (some 99) EJ0_isLatin1_aae02 fZ (oIfeq (kN) (oAld 0 (oSvl (oIld 1 (oCal 2 none EJ1_charAt_3b067 fI (oCretP)))))) [(0, .ref 2009), (1, .int (nI 0))] [.ref 2009] hp = _
  rw [cal_eq (si_9 hp) rfl rfl (chk_rf _ _ _)]
  show oCal 2 none EJ1_charAt_3b067 fI (oCretP) [(0, .ref 2009), (1, .int (nI 0))] [.int (nI 0), .ref 3009] hp = _
  rw [cal_eq (sb_9_0 hp) rfl rfl (chk_rf _ _ _)]
  rfl
theorem sb_9_1 (hp : HP) : EJ1_charAt_3b067 [.ref 3009, .int (nI 1)] hp = some (nI 97) := by
  show oCal 2 none EJ0_checkIndex_df160 fU (oAld 0 (oIld 1 (oSat (oConst (.int 255) (oiand (oi2c (oCretP))))))) [(0, .ref 3009), (1, .int (nI 1))] [.int (nI 5), .int (nI 1)] hp = _
  rw [cal_eq (sj_ck hp (j := nI 1) (n := nI 5) (by decide) (by decide)) rfl rfl (chk_rf _ _ _)]
  rfl
theorem sc_9_1 (hp : HP) : EJ0_charAt_5068e [.ref 2009, .int (nI 1)] hp = some (nI 97) := by
  show oCal 1 (some 99) EJ0_isLatin1_aae02 fZ (oIfeq (kN) (oAld 0 (oSvl (oIld 1 (oCal 2 none EJ1_charAt_3b067 fI (oCretP)))))) [(0, .ref 2009), (1, .int (nI 1))] [.ref 2009] hp = _
  rw [cal_eq (si_9 hp) rfl rfl (chk_rf _ _ _)]
  show oCal 2 none EJ1_charAt_3b067 fI (oCretP) [(0, .ref 2009), (1, .int (nI 1))] [.int (nI 1), .ref 3009] hp = _
  rw [cal_eq (sb_9_1 hp) rfl rfl (chk_rf _ _ _)]
  rfl
theorem sb_9_2 (hp : HP) : EJ1_charAt_3b067 [.ref 3009, .int (nI 2)] hp = some (nI 99) := by
  show oCal 2 none EJ0_checkIndex_df160 fU (oAld 0 (oIld 1 (oSat (oConst (.int 255) (oiand (oi2c (oCretP))))))) [(0, .ref 3009), (1, .int (nI 2))] [.int (nI 5), .int (nI 2)] hp = _
  rw [cal_eq (sj_ck hp (j := nI 2) (n := nI 5) (by decide) (by decide)) rfl rfl (chk_rf _ _ _)]
  rfl
theorem sc_9_2 (hp : HP) : EJ0_charAt_5068e [.ref 2009, .int (nI 2)] hp = some (nI 99) := by
  show oCal 1 (some 99) EJ0_isLatin1_aae02 fZ (oIfeq (kN) (oAld 0 (oSvl (oIld 1 (oCal 2 none EJ1_charAt_3b067 fI (oCretP)))))) [(0, .ref 2009), (1, .int (nI 2))] [.ref 2009] hp = _
  rw [cal_eq (si_9 hp) rfl rfl (chk_rf _ _ _)]
  show oCal 2 none EJ1_charAt_3b067 fI (oCretP) [(0, .ref 2009), (1, .int (nI 2))] [.int (nI 2), .ref 3009] hp = _
  rw [cal_eq (sb_9_2 hp) rfl rfl (chk_rf _ _ _)]
  rfl
theorem sb_9_3 (hp : HP) : EJ1_charAt_3b067 [.ref 3009, .int (nI 3)] hp = some (nI 101) := by
  show oCal 2 none EJ0_checkIndex_df160 fU (oAld 0 (oIld 1 (oSat (oConst (.int 255) (oiand (oi2c (oCretP))))))) [(0, .ref 3009), (1, .int (nI 3))] [.int (nI 5), .int (nI 3)] hp = _
  rw [cal_eq (sj_ck hp (j := nI 3) (n := nI 5) (by decide) (by decide)) rfl rfl (chk_rf _ _ _)]
  rfl
theorem sc_9_3 (hp : HP) : EJ0_charAt_5068e [.ref 2009, .int (nI 3)] hp = some (nI 101) := by
  show oCal 1 (some 99) EJ0_isLatin1_aae02 fZ (oIfeq (kN) (oAld 0 (oSvl (oIld 1 (oCal 2 none EJ1_charAt_3b067 fI (oCretP)))))) [(0, .ref 2009), (1, .int (nI 3))] [.ref 2009] hp = _
  rw [cal_eq (si_9 hp) rfl rfl (chk_rf _ _ _)]
  show oCal 2 none EJ1_charAt_3b067 fI (oCretP) [(0, .ref 2009), (1, .int (nI 3))] [.int (nI 3), .ref 3009] hp = _
  rw [cal_eq (sb_9_3 hp) rfl rfl (chk_rf _ _ _)]
  rfl
theorem sb_9_4 (hp : HP) : EJ1_charAt_3b067 [.ref 3009, .int (nI 4)] hp = some (nI 115) := by
  show oCal 2 none EJ0_checkIndex_df160 fU (oAld 0 (oIld 1 (oSat (oConst (.int 255) (oiand (oi2c (oCretP))))))) [(0, .ref 3009), (1, .int (nI 4))] [.int (nI 5), .int (nI 4)] hp = _
  rw [cal_eq (sj_ck hp (j := nI 4) (n := nI 5) (by decide) (by decide)) rfl rfl (chk_rf _ _ _)]
  rfl
theorem sc_9_4 (hp : HP) : EJ0_charAt_5068e [.ref 2009, .int (nI 4)] hp = some (nI 115) := by
  show oCal 1 (some 99) EJ0_isLatin1_aae02 fZ (oIfeq (kN) (oAld 0 (oSvl (oIld 1 (oCal 2 none EJ1_charAt_3b067 fI (oCretP)))))) [(0, .ref 2009), (1, .int (nI 4))] [.ref 2009] hp = _
  rw [cal_eq (si_9 hp) rfl rfl (chk_rf _ _ _)]
  show oCal 2 none EJ1_charAt_3b067 fI (oCretP) [(0, .ref 2009), (1, .int (nI 4))] [.int (nI 4), .ref 3009] hp = _
  rw [cal_eq (sb_9_4 hp) rfl rfl (chk_rf _ _ _)]
  rfl
theorem sc_9 (hp : HP) : ∀ k, k < 5 → EJ0_charAt_5068e [.ref 2009, .int (nI k)] hp = some (nI (sx_9 k)) := fun k hk => by
  rcases (by omega : k = 0 ∨ k = 1 ∨ k = 2 ∨ k = 3 ∨ k = 4) with rfl | rfl | rfl | rfl | rfl
  · exact sc_9_0 hp
  · exact sc_9_1 hp
  · exact sc_9_2 hp
  · exact sc_9_3 hp
  · exact sc_9_4 hp
def sx_10 (k : Nat) : Nat := ([110, 111, 114, 116, 104, 32, 101, 97, 115, 116, 32, 115, 111, 117, 116, 104, 32, 119, 101, 115, 116] : List Nat).getD k 0
theorem sd_10 (hp : HP) : EJ0_coder_7d493 [.ref 2010] hp = some 0 := rfl
theorem sl_10 (hp : HP) : EJ0_length_8abf5 [.ref 2010] hp = some (nI 21) := by
  show oCal 1 (some 99) EJ0_coder_7d493 fI (oishr oIretP) [(0, .ref 2010)] [.ref 2010, .int (nI 21)] hp = _
  rw [cal_eq (sd_10 hp) rfl rfl (chk_rf _ _ _)]
  rfl
theorem si_10 (hp : HP) : EJ0_isLatin1_aae02 [.ref 2010] hp = some true := rfl
theorem sb_10_0 (hp : HP) : EJ1_charAt_3b067 [.ref 3010, .int (nI 0)] hp = some (nI 110) := by
  show oCal 2 none EJ0_checkIndex_df160 fU (oAld 0 (oIld 1 (oSat (oConst (.int 255) (oiand (oi2c (oCretP))))))) [(0, .ref 3010), (1, .int (nI 0))] [.int (nI 21), .int (nI 0)] hp = _
  rw [cal_eq (sj_ck hp (j := nI 0) (n := nI 21) (by decide) (by decide)) rfl rfl (chk_rf _ _ _)]
  rfl
theorem sc_10_0 (hp : HP) : EJ0_charAt_5068e [.ref 2010, .int (nI 0)] hp = some (nI 110) := by
  show oCal 1 (some 99) EJ0_isLatin1_aae02 fZ (oIfeq (kN) (oAld 0 (oSvl (oIld 1 (oCal 2 none EJ1_charAt_3b067 fI (oCretP)))))) [(0, .ref 2010), (1, .int (nI 0))] [.ref 2010] hp = _
  rw [cal_eq (si_10 hp) rfl rfl (chk_rf _ _ _)]
  show oCal 2 none EJ1_charAt_3b067 fI (oCretP) [(0, .ref 2010), (1, .int (nI 0))] [.int (nI 0), .ref 3010] hp = _
  rw [cal_eq (sb_10_0 hp) rfl rfl (chk_rf _ _ _)]
  rfl
theorem sb_10_1 (hp : HP) : EJ1_charAt_3b067 [.ref 3010, .int (nI 1)] hp = some (nI 111) := by
  show oCal 2 none EJ0_checkIndex_df160 fU (oAld 0 (oIld 1 (oSat (oConst (.int 255) (oiand (oi2c (oCretP))))))) [(0, .ref 3010), (1, .int (nI 1))] [.int (nI 21), .int (nI 1)] hp = _
  rw [cal_eq (sj_ck hp (j := nI 1) (n := nI 21) (by decide) (by decide)) rfl rfl (chk_rf _ _ _)]
  rfl
theorem sc_10_1 (hp : HP) : EJ0_charAt_5068e [.ref 2010, .int (nI 1)] hp = some (nI 111) := by
  show oCal 1 (some 99) EJ0_isLatin1_aae02 fZ (oIfeq (kN) (oAld 0 (oSvl (oIld 1 (oCal 2 none EJ1_charAt_3b067 fI (oCretP)))))) [(0, .ref 2010), (1, .int (nI 1))] [.ref 2010] hp = _
  rw [cal_eq (si_10 hp) rfl rfl (chk_rf _ _ _)]
  show oCal 2 none EJ1_charAt_3b067 fI (oCretP) [(0, .ref 2010), (1, .int (nI 1))] [.int (nI 1), .ref 3010] hp = _
  rw [cal_eq (sb_10_1 hp) rfl rfl (chk_rf _ _ _)]
  rfl
theorem sb_10_2 (hp : HP) : EJ1_charAt_3b067 [.ref 3010, .int (nI 2)] hp = some (nI 114) := by
  show oCal 2 none EJ0_checkIndex_df160 fU (oAld 0 (oIld 1 (oSat (oConst (.int 255) (oiand (oi2c (oCretP))))))) [(0, .ref 3010), (1, .int (nI 2))] [.int (nI 21), .int (nI 2)] hp = _
  rw [cal_eq (sj_ck hp (j := nI 2) (n := nI 21) (by decide) (by decide)) rfl rfl (chk_rf _ _ _)]
  rfl
theorem sc_10_2 (hp : HP) : EJ0_charAt_5068e [.ref 2010, .int (nI 2)] hp = some (nI 114) := by
  show oCal 1 (some 99) EJ0_isLatin1_aae02 fZ (oIfeq (kN) (oAld 0 (oSvl (oIld 1 (oCal 2 none EJ1_charAt_3b067 fI (oCretP)))))) [(0, .ref 2010), (1, .int (nI 2))] [.ref 2010] hp = _
  rw [cal_eq (si_10 hp) rfl rfl (chk_rf _ _ _)]
  show oCal 2 none EJ1_charAt_3b067 fI (oCretP) [(0, .ref 2010), (1, .int (nI 2))] [.int (nI 2), .ref 3010] hp = _
  rw [cal_eq (sb_10_2 hp) rfl rfl (chk_rf _ _ _)]
  rfl
theorem sb_10_3 (hp : HP) : EJ1_charAt_3b067 [.ref 3010, .int (nI 3)] hp = some (nI 116) := by
  show oCal 2 none EJ0_checkIndex_df160 fU (oAld 0 (oIld 1 (oSat (oConst (.int 255) (oiand (oi2c (oCretP))))))) [(0, .ref 3010), (1, .int (nI 3))] [.int (nI 21), .int (nI 3)] hp = _
  rw [cal_eq (sj_ck hp (j := nI 3) (n := nI 21) (by decide) (by decide)) rfl rfl (chk_rf _ _ _)]
  rfl
theorem sc_10_3 (hp : HP) : EJ0_charAt_5068e [.ref 2010, .int (nI 3)] hp = some (nI 116) := by
  show oCal 1 (some 99) EJ0_isLatin1_aae02 fZ (oIfeq (kN) (oAld 0 (oSvl (oIld 1 (oCal 2 none EJ1_charAt_3b067 fI (oCretP)))))) [(0, .ref 2010), (1, .int (nI 3))] [.ref 2010] hp = _
  rw [cal_eq (si_10 hp) rfl rfl (chk_rf _ _ _)]
  show oCal 2 none EJ1_charAt_3b067 fI (oCretP) [(0, .ref 2010), (1, .int (nI 3))] [.int (nI 3), .ref 3010] hp = _
  rw [cal_eq (sb_10_3 hp) rfl rfl (chk_rf _ _ _)]
  rfl
theorem sb_10_4 (hp : HP) : EJ1_charAt_3b067 [.ref 3010, .int (nI 4)] hp = some (nI 104) := by
  show oCal 2 none EJ0_checkIndex_df160 fU (oAld 0 (oIld 1 (oSat (oConst (.int 255) (oiand (oi2c (oCretP))))))) [(0, .ref 3010), (1, .int (nI 4))] [.int (nI 21), .int (nI 4)] hp = _
  rw [cal_eq (sj_ck hp (j := nI 4) (n := nI 21) (by decide) (by decide)) rfl rfl (chk_rf _ _ _)]
  rfl
theorem sc_10_4 (hp : HP) : EJ0_charAt_5068e [.ref 2010, .int (nI 4)] hp = some (nI 104) := by
  show oCal 1 (some 99) EJ0_isLatin1_aae02 fZ (oIfeq (kN) (oAld 0 (oSvl (oIld 1 (oCal 2 none EJ1_charAt_3b067 fI (oCretP)))))) [(0, .ref 2010), (1, .int (nI 4))] [.ref 2010] hp = _
  rw [cal_eq (si_10 hp) rfl rfl (chk_rf _ _ _)]
  show oCal 2 none EJ1_charAt_3b067 fI (oCretP) [(0, .ref 2010), (1, .int (nI 4))] [.int (nI 4), .ref 3010] hp = _
  rw [cal_eq (sb_10_4 hp) rfl rfl (chk_rf _ _ _)]
  rfl
theorem sb_10_5 (hp : HP) : EJ1_charAt_3b067 [.ref 3010, .int (nI 5)] hp = some (nI 32) := by
  show oCal 2 none EJ0_checkIndex_df160 fU (oAld 0 (oIld 1 (oSat (oConst (.int 255) (oiand (oi2c (oCretP))))))) [(0, .ref 3010), (1, .int (nI 5))] [.int (nI 21), .int (nI 5)] hp = _
  rw [cal_eq (sj_ck hp (j := nI 5) (n := nI 21) (by decide) (by decide)) rfl rfl (chk_rf _ _ _)]
  rfl
theorem sc_10_5 (hp : HP) : EJ0_charAt_5068e [.ref 2010, .int (nI 5)] hp = some (nI 32) := by
  show oCal 1 (some 99) EJ0_isLatin1_aae02 fZ (oIfeq (kN) (oAld 0 (oSvl (oIld 1 (oCal 2 none EJ1_charAt_3b067 fI (oCretP)))))) [(0, .ref 2010), (1, .int (nI 5))] [.ref 2010] hp = _
  rw [cal_eq (si_10 hp) rfl rfl (chk_rf _ _ _)]
  show oCal 2 none EJ1_charAt_3b067 fI (oCretP) [(0, .ref 2010), (1, .int (nI 5))] [.int (nI 5), .ref 3010] hp = _
  rw [cal_eq (sb_10_5 hp) rfl rfl (chk_rf _ _ _)]
  rfl
theorem sb_10_6 (hp : HP) : EJ1_charAt_3b067 [.ref 3010, .int (nI 6)] hp = some (nI 101) := by
  show oCal 2 none EJ0_checkIndex_df160 fU (oAld 0 (oIld 1 (oSat (oConst (.int 255) (oiand (oi2c (oCretP))))))) [(0, .ref 3010), (1, .int (nI 6))] [.int (nI 21), .int (nI 6)] hp = _
  rw [cal_eq (sj_ck hp (j := nI 6) (n := nI 21) (by decide) (by decide)) rfl rfl (chk_rf _ _ _)]
  rfl
theorem sc_10_6 (hp : HP) : EJ0_charAt_5068e [.ref 2010, .int (nI 6)] hp = some (nI 101) := by
  show oCal 1 (some 99) EJ0_isLatin1_aae02 fZ (oIfeq (kN) (oAld 0 (oSvl (oIld 1 (oCal 2 none EJ1_charAt_3b067 fI (oCretP)))))) [(0, .ref 2010), (1, .int (nI 6))] [.ref 2010] hp = _
  rw [cal_eq (si_10 hp) rfl rfl (chk_rf _ _ _)]
  show oCal 2 none EJ1_charAt_3b067 fI (oCretP) [(0, .ref 2010), (1, .int (nI 6))] [.int (nI 6), .ref 3010] hp = _
  rw [cal_eq (sb_10_6 hp) rfl rfl (chk_rf _ _ _)]
  rfl
theorem sb_10_7 (hp : HP) : EJ1_charAt_3b067 [.ref 3010, .int (nI 7)] hp = some (nI 97) := by
  show oCal 2 none EJ0_checkIndex_df160 fU (oAld 0 (oIld 1 (oSat (oConst (.int 255) (oiand (oi2c (oCretP))))))) [(0, .ref 3010), (1, .int (nI 7))] [.int (nI 21), .int (nI 7)] hp = _
  rw [cal_eq (sj_ck hp (j := nI 7) (n := nI 21) (by decide) (by decide)) rfl rfl (chk_rf _ _ _)]
  rfl
theorem sc_10_7 (hp : HP) : EJ0_charAt_5068e [.ref 2010, .int (nI 7)] hp = some (nI 97) := by
  show oCal 1 (some 99) EJ0_isLatin1_aae02 fZ (oIfeq (kN) (oAld 0 (oSvl (oIld 1 (oCal 2 none EJ1_charAt_3b067 fI (oCretP)))))) [(0, .ref 2010), (1, .int (nI 7))] [.ref 2010] hp = _
  rw [cal_eq (si_10 hp) rfl rfl (chk_rf _ _ _)]
  show oCal 2 none EJ1_charAt_3b067 fI (oCretP) [(0, .ref 2010), (1, .int (nI 7))] [.int (nI 7), .ref 3010] hp = _
  rw [cal_eq (sb_10_7 hp) rfl rfl (chk_rf _ _ _)]
  rfl
theorem sb_10_8 (hp : HP) : EJ1_charAt_3b067 [.ref 3010, .int (nI 8)] hp = some (nI 115) := by
  show oCal 2 none EJ0_checkIndex_df160 fU (oAld 0 (oIld 1 (oSat (oConst (.int 255) (oiand (oi2c (oCretP))))))) [(0, .ref 3010), (1, .int (nI 8))] [.int (nI 21), .int (nI 8)] hp = _
  rw [cal_eq (sj_ck hp (j := nI 8) (n := nI 21) (by decide) (by decide)) rfl rfl (chk_rf _ _ _)]
  rfl
theorem sc_10_8 (hp : HP) : EJ0_charAt_5068e [.ref 2010, .int (nI 8)] hp = some (nI 115) := by
  show oCal 1 (some 99) EJ0_isLatin1_aae02 fZ (oIfeq (kN) (oAld 0 (oSvl (oIld 1 (oCal 2 none EJ1_charAt_3b067 fI (oCretP)))))) [(0, .ref 2010), (1, .int (nI 8))] [.ref 2010] hp = _
  rw [cal_eq (si_10 hp) rfl rfl (chk_rf _ _ _)]
  show oCal 2 none EJ1_charAt_3b067 fI (oCretP) [(0, .ref 2010), (1, .int (nI 8))] [.int (nI 8), .ref 3010] hp = _
  rw [cal_eq (sb_10_8 hp) rfl rfl (chk_rf _ _ _)]
  rfl
theorem sb_10_9 (hp : HP) : EJ1_charAt_3b067 [.ref 3010, .int (nI 9)] hp = some (nI 116) := by
  show oCal 2 none EJ0_checkIndex_df160 fU (oAld 0 (oIld 1 (oSat (oConst (.int 255) (oiand (oi2c (oCretP))))))) [(0, .ref 3010), (1, .int (nI 9))] [.int (nI 21), .int (nI 9)] hp = _
  rw [cal_eq (sj_ck hp (j := nI 9) (n := nI 21) (by decide) (by decide)) rfl rfl (chk_rf _ _ _)]
  rfl
theorem sc_10_9 (hp : HP) : EJ0_charAt_5068e [.ref 2010, .int (nI 9)] hp = some (nI 116) := by
  show oCal 1 (some 99) EJ0_isLatin1_aae02 fZ (oIfeq (kN) (oAld 0 (oSvl (oIld 1 (oCal 2 none EJ1_charAt_3b067 fI (oCretP)))))) [(0, .ref 2010), (1, .int (nI 9))] [.ref 2010] hp = _
  rw [cal_eq (si_10 hp) rfl rfl (chk_rf _ _ _)]
  show oCal 2 none EJ1_charAt_3b067 fI (oCretP) [(0, .ref 2010), (1, .int (nI 9))] [.int (nI 9), .ref 3010] hp = _
  rw [cal_eq (sb_10_9 hp) rfl rfl (chk_rf _ _ _)]
  rfl
theorem sb_10_10 (hp : HP) : EJ1_charAt_3b067 [.ref 3010, .int (nI 10)] hp = some (nI 32) := by
  show oCal 2 none EJ0_checkIndex_df160 fU (oAld 0 (oIld 1 (oSat (oConst (.int 255) (oiand (oi2c (oCretP))))))) [(0, .ref 3010), (1, .int (nI 10))] [.int (nI 21), .int (nI 10)] hp = _
  rw [cal_eq (sj_ck hp (j := nI 10) (n := nI 21) (by decide) (by decide)) rfl rfl (chk_rf _ _ _)]
  rfl
theorem sc_10_10 (hp : HP) : EJ0_charAt_5068e [.ref 2010, .int (nI 10)] hp = some (nI 32) := by
  show oCal 1 (some 99) EJ0_isLatin1_aae02 fZ (oIfeq (kN) (oAld 0 (oSvl (oIld 1 (oCal 2 none EJ1_charAt_3b067 fI (oCretP)))))) [(0, .ref 2010), (1, .int (nI 10))] [.ref 2010] hp = _
  rw [cal_eq (si_10 hp) rfl rfl (chk_rf _ _ _)]
  show oCal 2 none EJ1_charAt_3b067 fI (oCretP) [(0, .ref 2010), (1, .int (nI 10))] [.int (nI 10), .ref 3010] hp = _
  rw [cal_eq (sb_10_10 hp) rfl rfl (chk_rf _ _ _)]
  rfl
theorem sb_10_11 (hp : HP) : EJ1_charAt_3b067 [.ref 3010, .int (nI 11)] hp = some (nI 115) := by
  show oCal 2 none EJ0_checkIndex_df160 fU (oAld 0 (oIld 1 (oSat (oConst (.int 255) (oiand (oi2c (oCretP))))))) [(0, .ref 3010), (1, .int (nI 11))] [.int (nI 21), .int (nI 11)] hp = _
  rw [cal_eq (sj_ck hp (j := nI 11) (n := nI 21) (by decide) (by decide)) rfl rfl (chk_rf _ _ _)]
  rfl
theorem sc_10_11 (hp : HP) : EJ0_charAt_5068e [.ref 2010, .int (nI 11)] hp = some (nI 115) := by
  show oCal 1 (some 99) EJ0_isLatin1_aae02 fZ (oIfeq (kN) (oAld 0 (oSvl (oIld 1 (oCal 2 none EJ1_charAt_3b067 fI (oCretP)))))) [(0, .ref 2010), (1, .int (nI 11))] [.ref 2010] hp = _
  rw [cal_eq (si_10 hp) rfl rfl (chk_rf _ _ _)]
  show oCal 2 none EJ1_charAt_3b067 fI (oCretP) [(0, .ref 2010), (1, .int (nI 11))] [.int (nI 11), .ref 3010] hp = _
  rw [cal_eq (sb_10_11 hp) rfl rfl (chk_rf _ _ _)]
  rfl
theorem sb_10_12 (hp : HP) : EJ1_charAt_3b067 [.ref 3010, .int (nI 12)] hp = some (nI 111) := by
  show oCal 2 none EJ0_checkIndex_df160 fU (oAld 0 (oIld 1 (oSat (oConst (.int 255) (oiand (oi2c (oCretP))))))) [(0, .ref 3010), (1, .int (nI 12))] [.int (nI 21), .int (nI 12)] hp = _
  rw [cal_eq (sj_ck hp (j := nI 12) (n := nI 21) (by decide) (by decide)) rfl rfl (chk_rf _ _ _)]
  rfl
theorem sc_10_12 (hp : HP) : EJ0_charAt_5068e [.ref 2010, .int (nI 12)] hp = some (nI 111) := by
  show oCal 1 (some 99) EJ0_isLatin1_aae02 fZ (oIfeq (kN) (oAld 0 (oSvl (oIld 1 (oCal 2 none EJ1_charAt_3b067 fI (oCretP)))))) [(0, .ref 2010), (1, .int (nI 12))] [.ref 2010] hp = _
  rw [cal_eq (si_10 hp) rfl rfl (chk_rf _ _ _)]
  show oCal 2 none EJ1_charAt_3b067 fI (oCretP) [(0, .ref 2010), (1, .int (nI 12))] [.int (nI 12), .ref 3010] hp = _
  rw [cal_eq (sb_10_12 hp) rfl rfl (chk_rf _ _ _)]
  rfl
theorem sb_10_13 (hp : HP) : EJ1_charAt_3b067 [.ref 3010, .int (nI 13)] hp = some (nI 117) := by
  show oCal 2 none EJ0_checkIndex_df160 fU (oAld 0 (oIld 1 (oSat (oConst (.int 255) (oiand (oi2c (oCretP))))))) [(0, .ref 3010), (1, .int (nI 13))] [.int (nI 21), .int (nI 13)] hp = _
  rw [cal_eq (sj_ck hp (j := nI 13) (n := nI 21) (by decide) (by decide)) rfl rfl (chk_rf _ _ _)]
  rfl
theorem sc_10_13 (hp : HP) : EJ0_charAt_5068e [.ref 2010, .int (nI 13)] hp = some (nI 117) := by
  show oCal 1 (some 99) EJ0_isLatin1_aae02 fZ (oIfeq (kN) (oAld 0 (oSvl (oIld 1 (oCal 2 none EJ1_charAt_3b067 fI (oCretP)))))) [(0, .ref 2010), (1, .int (nI 13))] [.ref 2010] hp = _
  rw [cal_eq (si_10 hp) rfl rfl (chk_rf _ _ _)]
  show oCal 2 none EJ1_charAt_3b067 fI (oCretP) [(0, .ref 2010), (1, .int (nI 13))] [.int (nI 13), .ref 3010] hp = _
  rw [cal_eq (sb_10_13 hp) rfl rfl (chk_rf _ _ _)]
  rfl
theorem sb_10_14 (hp : HP) : EJ1_charAt_3b067 [.ref 3010, .int (nI 14)] hp = some (nI 116) := by
  show oCal 2 none EJ0_checkIndex_df160 fU (oAld 0 (oIld 1 (oSat (oConst (.int 255) (oiand (oi2c (oCretP))))))) [(0, .ref 3010), (1, .int (nI 14))] [.int (nI 21), .int (nI 14)] hp = _
  rw [cal_eq (sj_ck hp (j := nI 14) (n := nI 21) (by decide) (by decide)) rfl rfl (chk_rf _ _ _)]
  rfl
theorem sc_10_14 (hp : HP) : EJ0_charAt_5068e [.ref 2010, .int (nI 14)] hp = some (nI 116) := by
  show oCal 1 (some 99) EJ0_isLatin1_aae02 fZ (oIfeq (kN) (oAld 0 (oSvl (oIld 1 (oCal 2 none EJ1_charAt_3b067 fI (oCretP)))))) [(0, .ref 2010), (1, .int (nI 14))] [.ref 2010] hp = _
  rw [cal_eq (si_10 hp) rfl rfl (chk_rf _ _ _)]
  show oCal 2 none EJ1_charAt_3b067 fI (oCretP) [(0, .ref 2010), (1, .int (nI 14))] [.int (nI 14), .ref 3010] hp = _
  rw [cal_eq (sb_10_14 hp) rfl rfl (chk_rf _ _ _)]
  rfl
theorem sb_10_15 (hp : HP) : EJ1_charAt_3b067 [.ref 3010, .int (nI 15)] hp = some (nI 104) := by
  show oCal 2 none EJ0_checkIndex_df160 fU (oAld 0 (oIld 1 (oSat (oConst (.int 255) (oiand (oi2c (oCretP))))))) [(0, .ref 3010), (1, .int (nI 15))] [.int (nI 21), .int (nI 15)] hp = _
  rw [cal_eq (sj_ck hp (j := nI 15) (n := nI 21) (by decide) (by decide)) rfl rfl (chk_rf _ _ _)]
  rfl
theorem sc_10_15 (hp : HP) : EJ0_charAt_5068e [.ref 2010, .int (nI 15)] hp = some (nI 104) := by
  show oCal 1 (some 99) EJ0_isLatin1_aae02 fZ (oIfeq (kN) (oAld 0 (oSvl (oIld 1 (oCal 2 none EJ1_charAt_3b067 fI (oCretP)))))) [(0, .ref 2010), (1, .int (nI 15))] [.ref 2010] hp = _
  rw [cal_eq (si_10 hp) rfl rfl (chk_rf _ _ _)]
  show oCal 2 none EJ1_charAt_3b067 fI (oCretP) [(0, .ref 2010), (1, .int (nI 15))] [.int (nI 15), .ref 3010] hp = _
  rw [cal_eq (sb_10_15 hp) rfl rfl (chk_rf _ _ _)]
  rfl
theorem sb_10_16 (hp : HP) : EJ1_charAt_3b067 [.ref 3010, .int (nI 16)] hp = some (nI 32) := by
  show oCal 2 none EJ0_checkIndex_df160 fU (oAld 0 (oIld 1 (oSat (oConst (.int 255) (oiand (oi2c (oCretP))))))) [(0, .ref 3010), (1, .int (nI 16))] [.int (nI 21), .int (nI 16)] hp = _
  rw [cal_eq (sj_ck hp (j := nI 16) (n := nI 21) (by decide) (by decide)) rfl rfl (chk_rf _ _ _)]
  rfl
theorem sc_10_16 (hp : HP) : EJ0_charAt_5068e [.ref 2010, .int (nI 16)] hp = some (nI 32) := by
  show oCal 1 (some 99) EJ0_isLatin1_aae02 fZ (oIfeq (kN) (oAld 0 (oSvl (oIld 1 (oCal 2 none EJ1_charAt_3b067 fI (oCretP)))))) [(0, .ref 2010), (1, .int (nI 16))] [.ref 2010] hp = _
  rw [cal_eq (si_10 hp) rfl rfl (chk_rf _ _ _)]
  show oCal 2 none EJ1_charAt_3b067 fI (oCretP) [(0, .ref 2010), (1, .int (nI 16))] [.int (nI 16), .ref 3010] hp = _
  rw [cal_eq (sb_10_16 hp) rfl rfl (chk_rf _ _ _)]
  rfl
theorem sb_10_17 (hp : HP) : EJ1_charAt_3b067 [.ref 3010, .int (nI 17)] hp = some (nI 119) := by
  show oCal 2 none EJ0_checkIndex_df160 fU (oAld 0 (oIld 1 (oSat (oConst (.int 255) (oiand (oi2c (oCretP))))))) [(0, .ref 3010), (1, .int (nI 17))] [.int (nI 21), .int (nI 17)] hp = _
  rw [cal_eq (sj_ck hp (j := nI 17) (n := nI 21) (by decide) (by decide)) rfl rfl (chk_rf _ _ _)]
  rfl
theorem sc_10_17 (hp : HP) : EJ0_charAt_5068e [.ref 2010, .int (nI 17)] hp = some (nI 119) := by
  show oCal 1 (some 99) EJ0_isLatin1_aae02 fZ (oIfeq (kN) (oAld 0 (oSvl (oIld 1 (oCal 2 none EJ1_charAt_3b067 fI (oCretP)))))) [(0, .ref 2010), (1, .int (nI 17))] [.ref 2010] hp = _
  rw [cal_eq (si_10 hp) rfl rfl (chk_rf _ _ _)]
  show oCal 2 none EJ1_charAt_3b067 fI (oCretP) [(0, .ref 2010), (1, .int (nI 17))] [.int (nI 17), .ref 3010] hp = _
  rw [cal_eq (sb_10_17 hp) rfl rfl (chk_rf _ _ _)]
  rfl
theorem sb_10_18 (hp : HP) : EJ1_charAt_3b067 [.ref 3010, .int (nI 18)] hp = some (nI 101) := by
  show oCal 2 none EJ0_checkIndex_df160 fU (oAld 0 (oIld 1 (oSat (oConst (.int 255) (oiand (oi2c (oCretP))))))) [(0, .ref 3010), (1, .int (nI 18))] [.int (nI 21), .int (nI 18)] hp = _
  rw [cal_eq (sj_ck hp (j := nI 18) (n := nI 21) (by decide) (by decide)) rfl rfl (chk_rf _ _ _)]
  rfl
theorem sc_10_18 (hp : HP) : EJ0_charAt_5068e [.ref 2010, .int (nI 18)] hp = some (nI 101) := by
  show oCal 1 (some 99) EJ0_isLatin1_aae02 fZ (oIfeq (kN) (oAld 0 (oSvl (oIld 1 (oCal 2 none EJ1_charAt_3b067 fI (oCretP)))))) [(0, .ref 2010), (1, .int (nI 18))] [.ref 2010] hp = _
  rw [cal_eq (si_10 hp) rfl rfl (chk_rf _ _ _)]
  show oCal 2 none EJ1_charAt_3b067 fI (oCretP) [(0, .ref 2010), (1, .int (nI 18))] [.int (nI 18), .ref 3010] hp = _
  rw [cal_eq (sb_10_18 hp) rfl rfl (chk_rf _ _ _)]
  rfl
theorem sb_10_19 (hp : HP) : EJ1_charAt_3b067 [.ref 3010, .int (nI 19)] hp = some (nI 115) := by
  show oCal 2 none EJ0_checkIndex_df160 fU (oAld 0 (oIld 1 (oSat (oConst (.int 255) (oiand (oi2c (oCretP))))))) [(0, .ref 3010), (1, .int (nI 19))] [.int (nI 21), .int (nI 19)] hp = _
  rw [cal_eq (sj_ck hp (j := nI 19) (n := nI 21) (by decide) (by decide)) rfl rfl (chk_rf _ _ _)]
  rfl
theorem sc_10_19 (hp : HP) : EJ0_charAt_5068e [.ref 2010, .int (nI 19)] hp = some (nI 115) := by
  show oCal 1 (some 99) EJ0_isLatin1_aae02 fZ (oIfeq (kN) (oAld 0 (oSvl (oIld 1 (oCal 2 none EJ1_charAt_3b067 fI (oCretP)))))) [(0, .ref 2010), (1, .int (nI 19))] [.ref 2010] hp = _
  rw [cal_eq (si_10 hp) rfl rfl (chk_rf _ _ _)]
  show oCal 2 none EJ1_charAt_3b067 fI (oCretP) [(0, .ref 2010), (1, .int (nI 19))] [.int (nI 19), .ref 3010] hp = _
  rw [cal_eq (sb_10_19 hp) rfl rfl (chk_rf _ _ _)]
  rfl
theorem sb_10_20 (hp : HP) : EJ1_charAt_3b067 [.ref 3010, .int (nI 20)] hp = some (nI 116) := by
  show oCal 2 none EJ0_checkIndex_df160 fU (oAld 0 (oIld 1 (oSat (oConst (.int 255) (oiand (oi2c (oCretP))))))) [(0, .ref 3010), (1, .int (nI 20))] [.int (nI 21), .int (nI 20)] hp = _
  rw [cal_eq (sj_ck hp (j := nI 20) (n := nI 21) (by decide) (by decide)) rfl rfl (chk_rf _ _ _)]
  rfl
theorem sc_10_20 (hp : HP) : EJ0_charAt_5068e [.ref 2010, .int (nI 20)] hp = some (nI 116) := by
  show oCal 1 (some 99) EJ0_isLatin1_aae02 fZ (oIfeq (kN) (oAld 0 (oSvl (oIld 1 (oCal 2 none EJ1_charAt_3b067 fI (oCretP)))))) [(0, .ref 2010), (1, .int (nI 20))] [.ref 2010] hp = _
  rw [cal_eq (si_10 hp) rfl rfl (chk_rf _ _ _)]
  show oCal 2 none EJ1_charAt_3b067 fI (oCretP) [(0, .ref 2010), (1, .int (nI 20))] [.int (nI 20), .ref 3010] hp = _
  rw [cal_eq (sb_10_20 hp) rfl rfl (chk_rf _ _ _)]
  rfl
theorem sc_10 (hp : HP) : ∀ k, k < 21 → EJ0_charAt_5068e [.ref 2010, .int (nI k)] hp = some (nI (sx_10 k)) := fun k hk => by
  rcases (by omega : k = 0 ∨ k = 1 ∨ k = 2 ∨ k = 3 ∨ k = 4 ∨ k = 5 ∨ k = 6 ∨ k = 7 ∨ k = 8 ∨ k = 9 ∨ k = 10 ∨ k = 11 ∨ k = 12 ∨ k = 13 ∨ k = 14 ∨ k = 15 ∨ k = 16 ∨ k = 17 ∨ k = 18 ∨ k = 19 ∨ k = 20) with rfl | rfl | rfl | rfl | rfl | rfl | rfl | rfl | rfl | rfl | rfl | rfl | rfl | rfl | rfl | rfl | rfl | rfl | rfl | rfl | rfl
  · exact sc_10_0 hp
  · exact sc_10_1 hp
  · exact sc_10_2 hp
  · exact sc_10_3 hp
  · exact sc_10_4 hp
  · exact sc_10_5 hp
  · exact sc_10_6 hp
  · exact sc_10_7 hp
  · exact sc_10_8 hp
  · exact sc_10_9 hp
  · exact sc_10_10 hp
  · exact sc_10_11 hp
  · exact sc_10_12 hp
  · exact sc_10_13 hp
  · exact sc_10_14 hp
  · exact sc_10_15 hp
  · exact sc_10_16 hp
  · exact sc_10_17 hp
  · exact sc_10_18 hp
  · exact sc_10_19 hp
  · exact sc_10_20 hp
def sx_11 (k : Nat) : Nat := ([108, 101, 97, 118, 101, 115] : List Nat).getD k 0
theorem sd_11 (hp : HP) : EJ0_coder_7d493 [.ref 2011] hp = some 0 := rfl
theorem sl_11 (hp : HP) : EJ0_length_8abf5 [.ref 2011] hp = some (nI 6) := by
  show oCal 1 (some 99) EJ0_coder_7d493 fI (oishr oIretP) [(0, .ref 2011)] [.ref 2011, .int (nI 6)] hp = _
  rw [cal_eq (sd_11 hp) rfl rfl (chk_rf _ _ _)]
  rfl
theorem si_11 (hp : HP) : EJ0_isLatin1_aae02 [.ref 2011] hp = some true := rfl
theorem sb_11_0 (hp : HP) : EJ1_charAt_3b067 [.ref 3011, .int (nI 0)] hp = some (nI 108) := by
  show oCal 2 none EJ0_checkIndex_df160 fU (oAld 0 (oIld 1 (oSat (oConst (.int 255) (oiand (oi2c (oCretP))))))) [(0, .ref 3011), (1, .int (nI 0))] [.int (nI 6), .int (nI 0)] hp = _
  rw [cal_eq (sj_ck hp (j := nI 0) (n := nI 6) (by decide) (by decide)) rfl rfl (chk_rf _ _ _)]
  rfl
theorem sc_11_0 (hp : HP) : EJ0_charAt_5068e [.ref 2011, .int (nI 0)] hp = some (nI 108) := by
  show oCal 1 (some 99) EJ0_isLatin1_aae02 fZ (oIfeq (kN) (oAld 0 (oSvl (oIld 1 (oCal 2 none EJ1_charAt_3b067 fI (oCretP)))))) [(0, .ref 2011), (1, .int (nI 0))] [.ref 2011] hp = _
  rw [cal_eq (si_11 hp) rfl rfl (chk_rf _ _ _)]
  show oCal 2 none EJ1_charAt_3b067 fI (oCretP) [(0, .ref 2011), (1, .int (nI 0))] [.int (nI 0), .ref 3011] hp = _
  rw [cal_eq (sb_11_0 hp) rfl rfl (chk_rf _ _ _)]
  rfl
theorem sb_11_1 (hp : HP) : EJ1_charAt_3b067 [.ref 3011, .int (nI 1)] hp = some (nI 101) := by
  show oCal 2 none EJ0_checkIndex_df160 fU (oAld 0 (oIld 1 (oSat (oConst (.int 255) (oiand (oi2c (oCretP))))))) [(0, .ref 3011), (1, .int (nI 1))] [.int (nI 6), .int (nI 1)] hp = _
  rw [cal_eq (sj_ck hp (j := nI 1) (n := nI 6) (by decide) (by decide)) rfl rfl (chk_rf _ _ _)]
  rfl
theorem sc_11_1 (hp : HP) : EJ0_charAt_5068e [.ref 2011, .int (nI 1)] hp = some (nI 101) := by
  show oCal 1 (some 99) EJ0_isLatin1_aae02 fZ (oIfeq (kN) (oAld 0 (oSvl (oIld 1 (oCal 2 none EJ1_charAt_3b067 fI (oCretP)))))) [(0, .ref 2011), (1, .int (nI 1))] [.ref 2011] hp = _
  rw [cal_eq (si_11 hp) rfl rfl (chk_rf _ _ _)]
  show oCal 2 none EJ1_charAt_3b067 fI (oCretP) [(0, .ref 2011), (1, .int (nI 1))] [.int (nI 1), .ref 3011] hp = _
  rw [cal_eq (sb_11_1 hp) rfl rfl (chk_rf _ _ _)]
  rfl
theorem sb_11_2 (hp : HP) : EJ1_charAt_3b067 [.ref 3011, .int (nI 2)] hp = some (nI 97) := by
  show oCal 2 none EJ0_checkIndex_df160 fU (oAld 0 (oIld 1 (oSat (oConst (.int 255) (oiand (oi2c (oCretP))))))) [(0, .ref 3011), (1, .int (nI 2))] [.int (nI 6), .int (nI 2)] hp = _
  rw [cal_eq (sj_ck hp (j := nI 2) (n := nI 6) (by decide) (by decide)) rfl rfl (chk_rf _ _ _)]
  rfl
theorem sc_11_2 (hp : HP) : EJ0_charAt_5068e [.ref 2011, .int (nI 2)] hp = some (nI 97) := by
  show oCal 1 (some 99) EJ0_isLatin1_aae02 fZ (oIfeq (kN) (oAld 0 (oSvl (oIld 1 (oCal 2 none EJ1_charAt_3b067 fI (oCretP)))))) [(0, .ref 2011), (1, .int (nI 2))] [.ref 2011] hp = _
  rw [cal_eq (si_11 hp) rfl rfl (chk_rf _ _ _)]
  show oCal 2 none EJ1_charAt_3b067 fI (oCretP) [(0, .ref 2011), (1, .int (nI 2))] [.int (nI 2), .ref 3011] hp = _
  rw [cal_eq (sb_11_2 hp) rfl rfl (chk_rf _ _ _)]
  rfl
theorem sb_11_3 (hp : HP) : EJ1_charAt_3b067 [.ref 3011, .int (nI 3)] hp = some (nI 118) := by
  show oCal 2 none EJ0_checkIndex_df160 fU (oAld 0 (oIld 1 (oSat (oConst (.int 255) (oiand (oi2c (oCretP))))))) [(0, .ref 3011), (1, .int (nI 3))] [.int (nI 6), .int (nI 3)] hp = _
  rw [cal_eq (sj_ck hp (j := nI 3) (n := nI 6) (by decide) (by decide)) rfl rfl (chk_rf _ _ _)]
  rfl
theorem sc_11_3 (hp : HP) : EJ0_charAt_5068e [.ref 2011, .int (nI 3)] hp = some (nI 118) := by
  show oCal 1 (some 99) EJ0_isLatin1_aae02 fZ (oIfeq (kN) (oAld 0 (oSvl (oIld 1 (oCal 2 none EJ1_charAt_3b067 fI (oCretP)))))) [(0, .ref 2011), (1, .int (nI 3))] [.ref 2011] hp = _
  rw [cal_eq (si_11 hp) rfl rfl (chk_rf _ _ _)]
  show oCal 2 none EJ1_charAt_3b067 fI (oCretP) [(0, .ref 2011), (1, .int (nI 3))] [.int (nI 3), .ref 3011] hp = _
  rw [cal_eq (sb_11_3 hp) rfl rfl (chk_rf _ _ _)]
  rfl
theorem sb_11_4 (hp : HP) : EJ1_charAt_3b067 [.ref 3011, .int (nI 4)] hp = some (nI 101) := by
  show oCal 2 none EJ0_checkIndex_df160 fU (oAld 0 (oIld 1 (oSat (oConst (.int 255) (oiand (oi2c (oCretP))))))) [(0, .ref 3011), (1, .int (nI 4))] [.int (nI 6), .int (nI 4)] hp = _
  rw [cal_eq (sj_ck hp (j := nI 4) (n := nI 6) (by decide) (by decide)) rfl rfl (chk_rf _ _ _)]
  rfl
theorem sc_11_4 (hp : HP) : EJ0_charAt_5068e [.ref 2011, .int (nI 4)] hp = some (nI 101) := by
  show oCal 1 (some 99) EJ0_isLatin1_aae02 fZ (oIfeq (kN) (oAld 0 (oSvl (oIld 1 (oCal 2 none EJ1_charAt_3b067 fI (oCretP)))))) [(0, .ref 2011), (1, .int (nI 4))] [.ref 2011] hp = _
  rw [cal_eq (si_11 hp) rfl rfl (chk_rf _ _ _)]
  show oCal 2 none EJ1_charAt_3b067 fI (oCretP) [(0, .ref 2011), (1, .int (nI 4))] [.int (nI 4), .ref 3011] hp = _
  rw [cal_eq (sb_11_4 hp) rfl rfl (chk_rf _ _ _)]
  rfl
theorem sb_11_5 (hp : HP) : EJ1_charAt_3b067 [.ref 3011, .int (nI 5)] hp = some (nI 115) := by
  show oCal 2 none EJ0_checkIndex_df160 fU (oAld 0 (oIld 1 (oSat (oConst (.int 255) (oiand (oi2c (oCretP))))))) [(0, .ref 3011), (1, .int (nI 5))] [.int (nI 6), .int (nI 5)] hp = _
  rw [cal_eq (sj_ck hp (j := nI 5) (n := nI 6) (by decide) (by decide)) rfl rfl (chk_rf _ _ _)]
  rfl
theorem sc_11_5 (hp : HP) : EJ0_charAt_5068e [.ref 2011, .int (nI 5)] hp = some (nI 115) := by
  show oCal 1 (some 99) EJ0_isLatin1_aae02 fZ (oIfeq (kN) (oAld 0 (oSvl (oIld 1 (oCal 2 none EJ1_charAt_3b067 fI (oCretP)))))) [(0, .ref 2011), (1, .int (nI 5))] [.ref 2011] hp = _
  rw [cal_eq (si_11 hp) rfl rfl (chk_rf _ _ _)]
  show oCal 2 none EJ1_charAt_3b067 fI (oCretP) [(0, .ref 2011), (1, .int (nI 5))] [.int (nI 5), .ref 3011] hp = _
  rw [cal_eq (sb_11_5 hp) rfl rfl (chk_rf _ _ _)]
  rfl
theorem sc_11 (hp : HP) : ∀ k, k < 6 → EJ0_charAt_5068e [.ref 2011, .int (nI k)] hp = some (nI (sx_11 k)) := fun k hk => by
  rcases (by omega : k = 0 ∨ k = 1 ∨ k = 2 ∨ k = 3 ∨ k = 4 ∨ k = 5) with rfl | rfl | rfl | rfl | rfl | rfl
  · exact sc_11_0 hp
  · exact sc_11_1 hp
  · exact sc_11_2 hp
  · exact sc_11_3 hp
  · exact sc_11_4 hp
  · exact sc_11_5 hp
def sx_13 (k : Nat) : Nat := ([109, 101, 97, 100, 111, 119] : List Nat).getD k 0
theorem sd_13 (hp : HP) : EJ0_coder_7d493 [.ref 2013] hp = some 0 := rfl
theorem sl_13 (hp : HP) : EJ0_length_8abf5 [.ref 2013] hp = some (nI 6) := by
  show oCal 1 (some 99) EJ0_coder_7d493 fI (oishr oIretP) [(0, .ref 2013)] [.ref 2013, .int (nI 6)] hp = _
  rw [cal_eq (sd_13 hp) rfl rfl (chk_rf _ _ _)]
  rfl
theorem si_13 (hp : HP) : EJ0_isLatin1_aae02 [.ref 2013] hp = some true := rfl
theorem sb_13_0 (hp : HP) : EJ1_charAt_3b067 [.ref 3013, .int (nI 0)] hp = some (nI 109) := by
  show oCal 2 none EJ0_checkIndex_df160 fU (oAld 0 (oIld 1 (oSat (oConst (.int 255) (oiand (oi2c (oCretP))))))) [(0, .ref 3013), (1, .int (nI 0))] [.int (nI 6), .int (nI 0)] hp = _
  rw [cal_eq (sj_ck hp (j := nI 0) (n := nI 6) (by decide) (by decide)) rfl rfl (chk_rf _ _ _)]
  rfl
theorem sc_13_0 (hp : HP) : EJ0_charAt_5068e [.ref 2013, .int (nI 0)] hp = some (nI 109) := by
  show oCal 1 (some 99) EJ0_isLatin1_aae02 fZ (oIfeq (kN) (oAld 0 (oSvl (oIld 1 (oCal 2 none EJ1_charAt_3b067 fI (oCretP)))))) [(0, .ref 2013), (1, .int (nI 0))] [.ref 2013] hp = _
  rw [cal_eq (si_13 hp) rfl rfl (chk_rf _ _ _)]
  show oCal 2 none EJ1_charAt_3b067 fI (oCretP) [(0, .ref 2013), (1, .int (nI 0))] [.int (nI 0), .ref 3013] hp = _
  rw [cal_eq (sb_13_0 hp) rfl rfl (chk_rf _ _ _)]
  rfl
theorem sb_13_1 (hp : HP) : EJ1_charAt_3b067 [.ref 3013, .int (nI 1)] hp = some (nI 101) := by
  show oCal 2 none EJ0_checkIndex_df160 fU (oAld 0 (oIld 1 (oSat (oConst (.int 255) (oiand (oi2c (oCretP))))))) [(0, .ref 3013), (1, .int (nI 1))] [.int (nI 6), .int (nI 1)] hp = _
  rw [cal_eq (sj_ck hp (j := nI 1) (n := nI 6) (by decide) (by decide)) rfl rfl (chk_rf _ _ _)]
  rfl
theorem sc_13_1 (hp : HP) : EJ0_charAt_5068e [.ref 2013, .int (nI 1)] hp = some (nI 101) := by
  show oCal 1 (some 99) EJ0_isLatin1_aae02 fZ (oIfeq (kN) (oAld 0 (oSvl (oIld 1 (oCal 2 none EJ1_charAt_3b067 fI (oCretP)))))) [(0, .ref 2013), (1, .int (nI 1))] [.ref 2013] hp = _
  rw [cal_eq (si_13 hp) rfl rfl (chk_rf _ _ _)]
  show oCal 2 none EJ1_charAt_3b067 fI (oCretP) [(0, .ref 2013), (1, .int (nI 1))] [.int (nI 1), .ref 3013] hp = _
  rw [cal_eq (sb_13_1 hp) rfl rfl (chk_rf _ _ _)]
  rfl
theorem sb_13_2 (hp : HP) : EJ1_charAt_3b067 [.ref 3013, .int (nI 2)] hp = some (nI 97) := by
  show oCal 2 none EJ0_checkIndex_df160 fU (oAld 0 (oIld 1 (oSat (oConst (.int 255) (oiand (oi2c (oCretP))))))) [(0, .ref 3013), (1, .int (nI 2))] [.int (nI 6), .int (nI 2)] hp = _
  rw [cal_eq (sj_ck hp (j := nI 2) (n := nI 6) (by decide) (by decide)) rfl rfl (chk_rf _ _ _)]
  rfl
theorem sc_13_2 (hp : HP) : EJ0_charAt_5068e [.ref 2013, .int (nI 2)] hp = some (nI 97) := by
  show oCal 1 (some 99) EJ0_isLatin1_aae02 fZ (oIfeq (kN) (oAld 0 (oSvl (oIld 1 (oCal 2 none EJ1_charAt_3b067 fI (oCretP)))))) [(0, .ref 2013), (1, .int (nI 2))] [.ref 2013] hp = _
  rw [cal_eq (si_13 hp) rfl rfl (chk_rf _ _ _)]
  show oCal 2 none EJ1_charAt_3b067 fI (oCretP) [(0, .ref 2013), (1, .int (nI 2))] [.int (nI 2), .ref 3013] hp = _
  rw [cal_eq (sb_13_2 hp) rfl rfl (chk_rf _ _ _)]
  rfl
theorem sb_13_3 (hp : HP) : EJ1_charAt_3b067 [.ref 3013, .int (nI 3)] hp = some (nI 100) := by
  show oCal 2 none EJ0_checkIndex_df160 fU (oAld 0 (oIld 1 (oSat (oConst (.int 255) (oiand (oi2c (oCretP))))))) [(0, .ref 3013), (1, .int (nI 3))] [.int (nI 6), .int (nI 3)] hp = _
  rw [cal_eq (sj_ck hp (j := nI 3) (n := nI 6) (by decide) (by decide)) rfl rfl (chk_rf _ _ _)]
  rfl
theorem sc_13_3 (hp : HP) : EJ0_charAt_5068e [.ref 2013, .int (nI 3)] hp = some (nI 100) := by
  show oCal 1 (some 99) EJ0_isLatin1_aae02 fZ (oIfeq (kN) (oAld 0 (oSvl (oIld 1 (oCal 2 none EJ1_charAt_3b067 fI (oCretP)))))) [(0, .ref 2013), (1, .int (nI 3))] [.ref 2013] hp = _
  rw [cal_eq (si_13 hp) rfl rfl (chk_rf _ _ _)]
  show oCal 2 none EJ1_charAt_3b067 fI (oCretP) [(0, .ref 2013), (1, .int (nI 3))] [.int (nI 3), .ref 3013] hp = _
  rw [cal_eq (sb_13_3 hp) rfl rfl (chk_rf _ _ _)]
  rfl
theorem sb_13_4 (hp : HP) : EJ1_charAt_3b067 [.ref 3013, .int (nI 4)] hp = some (nI 111) := by
  show oCal 2 none EJ0_checkIndex_df160 fU (oAld 0 (oIld 1 (oSat (oConst (.int 255) (oiand (oi2c (oCretP))))))) [(0, .ref 3013), (1, .int (nI 4))] [.int (nI 6), .int (nI 4)] hp = _
  rw [cal_eq (sj_ck hp (j := nI 4) (n := nI 6) (by decide) (by decide)) rfl rfl (chk_rf _ _ _)]
  rfl
theorem sc_13_4 (hp : HP) : EJ0_charAt_5068e [.ref 2013, .int (nI 4)] hp = some (nI 111) := by
  show oCal 1 (some 99) EJ0_isLatin1_aae02 fZ (oIfeq (kN) (oAld 0 (oSvl (oIld 1 (oCal 2 none EJ1_charAt_3b067 fI (oCretP)))))) [(0, .ref 2013), (1, .int (nI 4))] [.ref 2013] hp = _
  rw [cal_eq (si_13 hp) rfl rfl (chk_rf _ _ _)]
  show oCal 2 none EJ1_charAt_3b067 fI (oCretP) [(0, .ref 2013), (1, .int (nI 4))] [.int (nI 4), .ref 3013] hp = _
  rw [cal_eq (sb_13_4 hp) rfl rfl (chk_rf _ _ _)]
  rfl
theorem sb_13_5 (hp : HP) : EJ1_charAt_3b067 [.ref 3013, .int (nI 5)] hp = some (nI 119) := by
  show oCal 2 none EJ0_checkIndex_df160 fU (oAld 0 (oIld 1 (oSat (oConst (.int 255) (oiand (oi2c (oCretP))))))) [(0, .ref 3013), (1, .int (nI 5))] [.int (nI 6), .int (nI 5)] hp = _
  rw [cal_eq (sj_ck hp (j := nI 5) (n := nI 6) (by decide) (by decide)) rfl rfl (chk_rf _ _ _)]
  rfl
theorem sc_13_5 (hp : HP) : EJ0_charAt_5068e [.ref 2013, .int (nI 5)] hp = some (nI 119) := by
  show oCal 1 (some 99) EJ0_isLatin1_aae02 fZ (oIfeq (kN) (oAld 0 (oSvl (oIld 1 (oCal 2 none EJ1_charAt_3b067 fI (oCretP)))))) [(0, .ref 2013), (1, .int (nI 5))] [.ref 2013] hp = _
  rw [cal_eq (si_13 hp) rfl rfl (chk_rf _ _ _)]
  show oCal 2 none EJ1_charAt_3b067 fI (oCretP) [(0, .ref 2013), (1, .int (nI 5))] [.int (nI 5), .ref 3013] hp = _
  rw [cal_eq (sb_13_5 hp) rfl rfl (chk_rf _ _ _)]
  rfl
theorem sc_13 (hp : HP) : ∀ k, k < 6 → EJ0_charAt_5068e [.ref 2013, .int (nI k)] hp = some (nI (sx_13 k)) := fun k hk => by
  rcases (by omega : k = 0 ∨ k = 1 ∨ k = 2 ∨ k = 3 ∨ k = 4 ∨ k = 5) with rfl | rfl | rfl | rfl | rfl | rfl
  · exact sc_13_0 hp
  · exact sc_13_1 hp
  · exact sc_13_2 hp
  · exact sc_13_3 hp
  · exact sc_13_4 hp
  · exact sc_13_5 hp
def sx_14 (k : Nat) : Nat := ([119, 105, 100, 101] : List Nat).getD k 0
theorem sd_14 (hp : HP) : EJ0_coder_7d493 [.ref 2014] hp = some 0 := rfl
theorem sl_14 (hp : HP) : EJ0_length_8abf5 [.ref 2014] hp = some (nI 4) := by
  show oCal 1 (some 99) EJ0_coder_7d493 fI (oishr oIretP) [(0, .ref 2014)] [.ref 2014, .int (nI 4)] hp = _
  rw [cal_eq (sd_14 hp) rfl rfl (chk_rf _ _ _)]
  rfl
theorem si_14 (hp : HP) : EJ0_isLatin1_aae02 [.ref 2014] hp = some true := rfl
theorem sb_14_0 (hp : HP) : EJ1_charAt_3b067 [.ref 3014, .int (nI 0)] hp = some (nI 119) := by
  show oCal 2 none EJ0_checkIndex_df160 fU (oAld 0 (oIld 1 (oSat (oConst (.int 255) (oiand (oi2c (oCretP))))))) [(0, .ref 3014), (1, .int (nI 0))] [.int (nI 4), .int (nI 0)] hp = _
  rw [cal_eq (sj_ck hp (j := nI 0) (n := nI 4) (by decide) (by decide)) rfl rfl (chk_rf _ _ _)]
  rfl
theorem sc_14_0 (hp : HP) : EJ0_charAt_5068e [.ref 2014, .int (nI 0)] hp = some (nI 119) := by
  show oCal 1 (some 99) EJ0_isLatin1_aae02 fZ (oIfeq (kN) (oAld 0 (oSvl (oIld 1 (oCal 2 none EJ1_charAt_3b067 fI (oCretP)))))) [(0, .ref 2014), (1, .int (nI 0))] [.ref 2014] hp = _
  rw [cal_eq (si_14 hp) rfl rfl (chk_rf _ _ _)]
  show oCal 2 none EJ1_charAt_3b067 fI (oCretP) [(0, .ref 2014), (1, .int (nI 0))] [.int (nI 0), .ref 3014] hp = _
  rw [cal_eq (sb_14_0 hp) rfl rfl (chk_rf _ _ _)]
  rfl
theorem sb_14_1 (hp : HP) : EJ1_charAt_3b067 [.ref 3014, .int (nI 1)] hp = some (nI 105) := by
  show oCal 2 none EJ0_checkIndex_df160 fU (oAld 0 (oIld 1 (oSat (oConst (.int 255) (oiand (oi2c (oCretP))))))) [(0, .ref 3014), (1, .int (nI 1))] [.int (nI 4), .int (nI 1)] hp = _
  rw [cal_eq (sj_ck hp (j := nI 1) (n := nI 4) (by decide) (by decide)) rfl rfl (chk_rf _ _ _)]
  rfl
theorem sc_14_1 (hp : HP) : EJ0_charAt_5068e [.ref 2014, .int (nI 1)] hp = some (nI 105) := by
  show oCal 1 (some 99) EJ0_isLatin1_aae02 fZ (oIfeq (kN) (oAld 0 (oSvl (oIld 1 (oCal 2 none EJ1_charAt_3b067 fI (oCretP)))))) [(0, .ref 2014), (1, .int (nI 1))] [.ref 2014] hp = _
  rw [cal_eq (si_14 hp) rfl rfl (chk_rf _ _ _)]
  show oCal 2 none EJ1_charAt_3b067 fI (oCretP) [(0, .ref 2014), (1, .int (nI 1))] [.int (nI 1), .ref 3014] hp = _
  rw [cal_eq (sb_14_1 hp) rfl rfl (chk_rf _ _ _)]
  rfl
theorem sb_14_2 (hp : HP) : EJ1_charAt_3b067 [.ref 3014, .int (nI 2)] hp = some (nI 100) := by
  show oCal 2 none EJ0_checkIndex_df160 fU (oAld 0 (oIld 1 (oSat (oConst (.int 255) (oiand (oi2c (oCretP))))))) [(0, .ref 3014), (1, .int (nI 2))] [.int (nI 4), .int (nI 2)] hp = _
  rw [cal_eq (sj_ck hp (j := nI 2) (n := nI 4) (by decide) (by decide)) rfl rfl (chk_rf _ _ _)]
  rfl
theorem sc_14_2 (hp : HP) : EJ0_charAt_5068e [.ref 2014, .int (nI 2)] hp = some (nI 100) := by
  show oCal 1 (some 99) EJ0_isLatin1_aae02 fZ (oIfeq (kN) (oAld 0 (oSvl (oIld 1 (oCal 2 none EJ1_charAt_3b067 fI (oCretP)))))) [(0, .ref 2014), (1, .int (nI 2))] [.ref 2014] hp = _
  rw [cal_eq (si_14 hp) rfl rfl (chk_rf _ _ _)]
  show oCal 2 none EJ1_charAt_3b067 fI (oCretP) [(0, .ref 2014), (1, .int (nI 2))] [.int (nI 2), .ref 3014] hp = _
  rw [cal_eq (sb_14_2 hp) rfl rfl (chk_rf _ _ _)]
  rfl
theorem sb_14_3 (hp : HP) : EJ1_charAt_3b067 [.ref 3014, .int (nI 3)] hp = some (nI 101) := by
  show oCal 2 none EJ0_checkIndex_df160 fU (oAld 0 (oIld 1 (oSat (oConst (.int 255) (oiand (oi2c (oCretP))))))) [(0, .ref 3014), (1, .int (nI 3))] [.int (nI 4), .int (nI 3)] hp = _
  rw [cal_eq (sj_ck hp (j := nI 3) (n := nI 4) (by decide) (by decide)) rfl rfl (chk_rf _ _ _)]
  rfl
theorem sc_14_3 (hp : HP) : EJ0_charAt_5068e [.ref 2014, .int (nI 3)] hp = some (nI 101) := by
  show oCal 1 (some 99) EJ0_isLatin1_aae02 fZ (oIfeq (kN) (oAld 0 (oSvl (oIld 1 (oCal 2 none EJ1_charAt_3b067 fI (oCretP)))))) [(0, .ref 2014), (1, .int (nI 3))] [.ref 2014] hp = _
  rw [cal_eq (si_14 hp) rfl rfl (chk_rf _ _ _)]
  show oCal 2 none EJ1_charAt_3b067 fI (oCretP) [(0, .ref 2014), (1, .int (nI 3))] [.int (nI 3), .ref 3014] hp = _
  rw [cal_eq (sb_14_3 hp) rfl rfl (chk_rf _ _ _)]
  rfl
theorem sc_14 (hp : HP) : ∀ k, k < 4 → EJ0_charAt_5068e [.ref 2014, .int (nI k)] hp = some (nI (sx_14 k)) := fun k hk => by
  rcases (by omega : k = 0 ∨ k = 1 ∨ k = 2 ∨ k = 3) with rfl | rfl | rfl | rfl
  · exact sc_14_0 hp
  · exact sc_14_1 hp
  · exact sc_14_2 hp
  · exact sc_14_3 hp
def sx_15 (k : Nat) : Nat := ([104, 105, 103, 104] : List Nat).getD k 0
theorem sd_15 (hp : HP) : EJ0_coder_7d493 [.ref 2015] hp = some 0 := rfl
theorem sl_15 (hp : HP) : EJ0_length_8abf5 [.ref 2015] hp = some (nI 4) := by
  show oCal 1 (some 99) EJ0_coder_7d493 fI (oishr oIretP) [(0, .ref 2015)] [.ref 2015, .int (nI 4)] hp = _
  rw [cal_eq (sd_15 hp) rfl rfl (chk_rf _ _ _)]
  rfl
theorem si_15 (hp : HP) : EJ0_isLatin1_aae02 [.ref 2015] hp = some true := rfl
theorem sb_15_0 (hp : HP) : EJ1_charAt_3b067 [.ref 3015, .int (nI 0)] hp = some (nI 104) := by
  show oCal 2 none EJ0_checkIndex_df160 fU (oAld 0 (oIld 1 (oSat (oConst (.int 255) (oiand (oi2c (oCretP))))))) [(0, .ref 3015), (1, .int (nI 0))] [.int (nI 4), .int (nI 0)] hp = _
  rw [cal_eq (sj_ck hp (j := nI 0) (n := nI 4) (by decide) (by decide)) rfl rfl (chk_rf _ _ _)]
  rfl
theorem sc_15_0 (hp : HP) : EJ0_charAt_5068e [.ref 2015, .int (nI 0)] hp = some (nI 104) := by
  show oCal 1 (some 99) EJ0_isLatin1_aae02 fZ (oIfeq (kN) (oAld 0 (oSvl (oIld 1 (oCal 2 none EJ1_charAt_3b067 fI (oCretP)))))) [(0, .ref 2015), (1, .int (nI 0))] [.ref 2015] hp = _
  rw [cal_eq (si_15 hp) rfl rfl (chk_rf _ _ _)]
  show oCal 2 none EJ1_charAt_3b067 fI (oCretP) [(0, .ref 2015), (1, .int (nI 0))] [.int (nI 0), .ref 3015] hp = _
  rw [cal_eq (sb_15_0 hp) rfl rfl (chk_rf _ _ _)]
  rfl
theorem sb_15_1 (hp : HP) : EJ1_charAt_3b067 [.ref 3015, .int (nI 1)] hp = some (nI 105) := by
  show oCal 2 none EJ0_checkIndex_df160 fU (oAld 0 (oIld 1 (oSat (oConst (.int 255) (oiand (oi2c (oCretP))))))) [(0, .ref 3015), (1, .int (nI 1))] [.int (nI 4), .int (nI 1)] hp = _
  rw [cal_eq (sj_ck hp (j := nI 1) (n := nI 4) (by decide) (by decide)) rfl rfl (chk_rf _ _ _)]
  rfl
theorem sc_15_1 (hp : HP) : EJ0_charAt_5068e [.ref 2015, .int (nI 1)] hp = some (nI 105) := by
  show oCal 1 (some 99) EJ0_isLatin1_aae02 fZ (oIfeq (kN) (oAld 0 (oSvl (oIld 1 (oCal 2 none EJ1_charAt_3b067 fI (oCretP)))))) [(0, .ref 2015), (1, .int (nI 1))] [.ref 2015] hp = _
  rw [cal_eq (si_15 hp) rfl rfl (chk_rf _ _ _)]
  show oCal 2 none EJ1_charAt_3b067 fI (oCretP) [(0, .ref 2015), (1, .int (nI 1))] [.int (nI 1), .ref 3015] hp = _
  rw [cal_eq (sb_15_1 hp) rfl rfl (chk_rf _ _ _)]
  rfl
theorem sb_15_2 (hp : HP) : EJ1_charAt_3b067 [.ref 3015, .int (nI 2)] hp = some (nI 103) := by
  show oCal 2 none EJ0_checkIndex_df160 fU (oAld 0 (oIld 1 (oSat (oConst (.int 255) (oiand (oi2c (oCretP))))))) [(0, .ref 3015), (1, .int (nI 2))] [.int (nI 4), .int (nI 2)] hp = _
  rw [cal_eq (sj_ck hp (j := nI 2) (n := nI 4) (by decide) (by decide)) rfl rfl (chk_rf _ _ _)]
  rfl
theorem sc_15_2 (hp : HP) : EJ0_charAt_5068e [.ref 2015, .int (nI 2)] hp = some (nI 103) := by
  show oCal 1 (some 99) EJ0_isLatin1_aae02 fZ (oIfeq (kN) (oAld 0 (oSvl (oIld 1 (oCal 2 none EJ1_charAt_3b067 fI (oCretP)))))) [(0, .ref 2015), (1, .int (nI 2))] [.ref 2015] hp = _
  rw [cal_eq (si_15 hp) rfl rfl (chk_rf _ _ _)]
  show oCal 2 none EJ1_charAt_3b067 fI (oCretP) [(0, .ref 2015), (1, .int (nI 2))] [.int (nI 2), .ref 3015] hp = _
  rw [cal_eq (sb_15_2 hp) rfl rfl (chk_rf _ _ _)]
  rfl
theorem sb_15_3 (hp : HP) : EJ1_charAt_3b067 [.ref 3015, .int (nI 3)] hp = some (nI 104) := by
  show oCal 2 none EJ0_checkIndex_df160 fU (oAld 0 (oIld 1 (oSat (oConst (.int 255) (oiand (oi2c (oCretP))))))) [(0, .ref 3015), (1, .int (nI 3))] [.int (nI 4), .int (nI 3)] hp = _
  rw [cal_eq (sj_ck hp (j := nI 3) (n := nI 4) (by decide) (by decide)) rfl rfl (chk_rf _ _ _)]
  rfl
theorem sc_15_3 (hp : HP) : EJ0_charAt_5068e [.ref 2015, .int (nI 3)] hp = some (nI 104) := by
  show oCal 1 (some 99) EJ0_isLatin1_aae02 fZ (oIfeq (kN) (oAld 0 (oSvl (oIld 1 (oCal 2 none EJ1_charAt_3b067 fI (oCretP)))))) [(0, .ref 2015), (1, .int (nI 3))] [.ref 2015] hp = _
  rw [cal_eq (si_15 hp) rfl rfl (chk_rf _ _ _)]
  show oCal 2 none EJ1_charAt_3b067 fI (oCretP) [(0, .ref 2015), (1, .int (nI 3))] [.int (nI 3), .ref 3015] hp = _
  rw [cal_eq (sb_15_3 hp) rfl rfl (chk_rf _ _ _)]
  rfl
theorem sc_15 (hp : HP) : ∀ k, k < 4 → EJ0_charAt_5068e [.ref 2015, .int (nI k)] hp = some (nI (sx_15 k)) := fun k hk => by
  rcases (by omega : k = 0 ∨ k = 1 ∨ k = 2 ∨ k = 3) with rfl | rfl | rfl | rfl
  · exact sc_15_0 hp
  · exact sc_15_1 hp
  · exact sc_15_2 hp
  · exact sc_15_3 hp
def sx_16 (k : Nat) : Nat := ([100, 117, 115, 107] : List Nat).getD k 0
theorem sd_16 (hp : HP) : EJ0_coder_7d493 [.ref 2016] hp = some 0 := rfl
theorem sl_16 (hp : HP) : EJ0_length_8abf5 [.ref 2016] hp = some (nI 4) := by
  show oCal 1 (some 99) EJ0_coder_7d493 fI (oishr oIretP) [(0, .ref 2016)] [.ref 2016, .int (nI 4)] hp = _
  rw [cal_eq (sd_16 hp) rfl rfl (chk_rf _ _ _)]
  rfl
theorem si_16 (hp : HP) : EJ0_isLatin1_aae02 [.ref 2016] hp = some true := rfl
theorem sb_16_0 (hp : HP) : EJ1_charAt_3b067 [.ref 3016, .int (nI 0)] hp = some (nI 100) := by
  show oCal 2 none EJ0_checkIndex_df160 fU (oAld 0 (oIld 1 (oSat (oConst (.int 255) (oiand (oi2c (oCretP))))))) [(0, .ref 3016), (1, .int (nI 0))] [.int (nI 4), .int (nI 0)] hp = _
  rw [cal_eq (sj_ck hp (j := nI 0) (n := nI 4) (by decide) (by decide)) rfl rfl (chk_rf _ _ _)]
  rfl
theorem sc_16_0 (hp : HP) : EJ0_charAt_5068e [.ref 2016, .int (nI 0)] hp = some (nI 100) := by
  show oCal 1 (some 99) EJ0_isLatin1_aae02 fZ (oIfeq (kN) (oAld 0 (oSvl (oIld 1 (oCal 2 none EJ1_charAt_3b067 fI (oCretP)))))) [(0, .ref 2016), (1, .int (nI 0))] [.ref 2016] hp = _
  rw [cal_eq (si_16 hp) rfl rfl (chk_rf _ _ _)]
  show oCal 2 none EJ1_charAt_3b067 fI (oCretP) [(0, .ref 2016), (1, .int (nI 0))] [.int (nI 0), .ref 3016] hp = _
  rw [cal_eq (sb_16_0 hp) rfl rfl (chk_rf _ _ _)]
  rfl
theorem sb_16_1 (hp : HP) : EJ1_charAt_3b067 [.ref 3016, .int (nI 1)] hp = some (nI 117) := by
  show oCal 2 none EJ0_checkIndex_df160 fU (oAld 0 (oIld 1 (oSat (oConst (.int 255) (oiand (oi2c (oCretP))))))) [(0, .ref 3016), (1, .int (nI 1))] [.int (nI 4), .int (nI 1)] hp = _
  rw [cal_eq (sj_ck hp (j := nI 1) (n := nI 4) (by decide) (by decide)) rfl rfl (chk_rf _ _ _)]
  rfl
theorem sc_16_1 (hp : HP) : EJ0_charAt_5068e [.ref 2016, .int (nI 1)] hp = some (nI 117) := by
  show oCal 1 (some 99) EJ0_isLatin1_aae02 fZ (oIfeq (kN) (oAld 0 (oSvl (oIld 1 (oCal 2 none EJ1_charAt_3b067 fI (oCretP)))))) [(0, .ref 2016), (1, .int (nI 1))] [.ref 2016] hp = _
  rw [cal_eq (si_16 hp) rfl rfl (chk_rf _ _ _)]
  show oCal 2 none EJ1_charAt_3b067 fI (oCretP) [(0, .ref 2016), (1, .int (nI 1))] [.int (nI 1), .ref 3016] hp = _
  rw [cal_eq (sb_16_1 hp) rfl rfl (chk_rf _ _ _)]
  rfl
theorem sb_16_2 (hp : HP) : EJ1_charAt_3b067 [.ref 3016, .int (nI 2)] hp = some (nI 115) := by
  show oCal 2 none EJ0_checkIndex_df160 fU (oAld 0 (oIld 1 (oSat (oConst (.int 255) (oiand (oi2c (oCretP))))))) [(0, .ref 3016), (1, .int (nI 2))] [.int (nI 4), .int (nI 2)] hp = _
  rw [cal_eq (sj_ck hp (j := nI 2) (n := nI 4) (by decide) (by decide)) rfl rfl (chk_rf _ _ _)]
  rfl
theorem sc_16_2 (hp : HP) : EJ0_charAt_5068e [.ref 2016, .int (nI 2)] hp = some (nI 115) := by
  show oCal 1 (some 99) EJ0_isLatin1_aae02 fZ (oIfeq (kN) (oAld 0 (oSvl (oIld 1 (oCal 2 none EJ1_charAt_3b067 fI (oCretP)))))) [(0, .ref 2016), (1, .int (nI 2))] [.ref 2016] hp = _
  rw [cal_eq (si_16 hp) rfl rfl (chk_rf _ _ _)]
  show oCal 2 none EJ1_charAt_3b067 fI (oCretP) [(0, .ref 2016), (1, .int (nI 2))] [.int (nI 2), .ref 3016] hp = _
  rw [cal_eq (sb_16_2 hp) rfl rfl (chk_rf _ _ _)]
  rfl
theorem sb_16_3 (hp : HP) : EJ1_charAt_3b067 [.ref 3016, .int (nI 3)] hp = some (nI 107) := by
  show oCal 2 none EJ0_checkIndex_df160 fU (oAld 0 (oIld 1 (oSat (oConst (.int 255) (oiand (oi2c (oCretP))))))) [(0, .ref 3016), (1, .int (nI 3))] [.int (nI 4), .int (nI 3)] hp = _
  rw [cal_eq (sj_ck hp (j := nI 3) (n := nI 4) (by decide) (by decide)) rfl rfl (chk_rf _ _ _)]
  rfl
theorem sc_16_3 (hp : HP) : EJ0_charAt_5068e [.ref 2016, .int (nI 3)] hp = some (nI 107) := by
  show oCal 1 (some 99) EJ0_isLatin1_aae02 fZ (oIfeq (kN) (oAld 0 (oSvl (oIld 1 (oCal 2 none EJ1_charAt_3b067 fI (oCretP)))))) [(0, .ref 2016), (1, .int (nI 3))] [.ref 2016] hp = _
  rw [cal_eq (si_16 hp) rfl rfl (chk_rf _ _ _)]
  show oCal 2 none EJ1_charAt_3b067 fI (oCretP) [(0, .ref 2016), (1, .int (nI 3))] [.int (nI 3), .ref 3016] hp = _
  rw [cal_eq (sb_16_3 hp) rfl rfl (chk_rf _ _ _)]
  rfl
theorem sc_16 (hp : HP) : ∀ k, k < 4 → EJ0_charAt_5068e [.ref 2016, .int (nI k)] hp = some (nI (sx_16 k)) := fun k hk => by
  rcases (by omega : k = 0 ∨ k = 1 ∨ k = 2 ∨ k = 3) with rfl | rfl | rfl | rfl
  · exact sc_16_0 hp
  · exact sc_16_1 hp
  · exact sc_16_2 hp
  · exact sc_16_3 hp
def sx_17 (k : Nat) : Nat := ([112, 97, 121, 115] : List Nat).getD k 0
theorem sd_17 (hp : HP) : EJ0_coder_7d493 [.ref 2017] hp = some 0 := rfl
theorem sl_17 (hp : HP) : EJ0_length_8abf5 [.ref 2017] hp = some (nI 4) := by
  show oCal 1 (some 99) EJ0_coder_7d493 fI (oishr oIretP) [(0, .ref 2017)] [.ref 2017, .int (nI 4)] hp = _
  rw [cal_eq (sd_17 hp) rfl rfl (chk_rf _ _ _)]
  rfl
theorem si_17 (hp : HP) : EJ0_isLatin1_aae02 [.ref 2017] hp = some true := rfl
theorem sb_17_0 (hp : HP) : EJ1_charAt_3b067 [.ref 3017, .int (nI 0)] hp = some (nI 112) := by
  show oCal 2 none EJ0_checkIndex_df160 fU (oAld 0 (oIld 1 (oSat (oConst (.int 255) (oiand (oi2c (oCretP))))))) [(0, .ref 3017), (1, .int (nI 0))] [.int (nI 4), .int (nI 0)] hp = _
  rw [cal_eq (sj_ck hp (j := nI 0) (n := nI 4) (by decide) (by decide)) rfl rfl (chk_rf _ _ _)]
  rfl
theorem sc_17_0 (hp : HP) : EJ0_charAt_5068e [.ref 2017, .int (nI 0)] hp = some (nI 112) := by
  show oCal 1 (some 99) EJ0_isLatin1_aae02 fZ (oIfeq (kN) (oAld 0 (oSvl (oIld 1 (oCal 2 none EJ1_charAt_3b067 fI (oCretP)))))) [(0, .ref 2017), (1, .int (nI 0))] [.ref 2017] hp = _
  rw [cal_eq (si_17 hp) rfl rfl (chk_rf _ _ _)]
  show oCal 2 none EJ1_charAt_3b067 fI (oCretP) [(0, .ref 2017), (1, .int (nI 0))] [.int (nI 0), .ref 3017] hp = _
  rw [cal_eq (sb_17_0 hp) rfl rfl (chk_rf _ _ _)]
  rfl
theorem sb_17_1 (hp : HP) : EJ1_charAt_3b067 [.ref 3017, .int (nI 1)] hp = some (nI 97) := by
  show oCal 2 none EJ0_checkIndex_df160 fU (oAld 0 (oIld 1 (oSat (oConst (.int 255) (oiand (oi2c (oCretP))))))) [(0, .ref 3017), (1, .int (nI 1))] [.int (nI 4), .int (nI 1)] hp = _
  rw [cal_eq (sj_ck hp (j := nI 1) (n := nI 4) (by decide) (by decide)) rfl rfl (chk_rf _ _ _)]
  rfl
theorem sc_17_1 (hp : HP) : EJ0_charAt_5068e [.ref 2017, .int (nI 1)] hp = some (nI 97) := by
  show oCal 1 (some 99) EJ0_isLatin1_aae02 fZ (oIfeq (kN) (oAld 0 (oSvl (oIld 1 (oCal 2 none EJ1_charAt_3b067 fI (oCretP)))))) [(0, .ref 2017), (1, .int (nI 1))] [.ref 2017] hp = _
  rw [cal_eq (si_17 hp) rfl rfl (chk_rf _ _ _)]
  show oCal 2 none EJ1_charAt_3b067 fI (oCretP) [(0, .ref 2017), (1, .int (nI 1))] [.int (nI 1), .ref 3017] hp = _
  rw [cal_eq (sb_17_1 hp) rfl rfl (chk_rf _ _ _)]
  rfl
theorem sb_17_2 (hp : HP) : EJ1_charAt_3b067 [.ref 3017, .int (nI 2)] hp = some (nI 121) := by
  show oCal 2 none EJ0_checkIndex_df160 fU (oAld 0 (oIld 1 (oSat (oConst (.int 255) (oiand (oi2c (oCretP))))))) [(0, .ref 3017), (1, .int (nI 2))] [.int (nI 4), .int (nI 2)] hp = _
  rw [cal_eq (sj_ck hp (j := nI 2) (n := nI 4) (by decide) (by decide)) rfl rfl (chk_rf _ _ _)]
  rfl
theorem sc_17_2 (hp : HP) : EJ0_charAt_5068e [.ref 2017, .int (nI 2)] hp = some (nI 121) := by
  show oCal 1 (some 99) EJ0_isLatin1_aae02 fZ (oIfeq (kN) (oAld 0 (oSvl (oIld 1 (oCal 2 none EJ1_charAt_3b067 fI (oCretP)))))) [(0, .ref 2017), (1, .int (nI 2))] [.ref 2017] hp = _
  rw [cal_eq (si_17 hp) rfl rfl (chk_rf _ _ _)]
  show oCal 2 none EJ1_charAt_3b067 fI (oCretP) [(0, .ref 2017), (1, .int (nI 2))] [.int (nI 2), .ref 3017] hp = _
  rw [cal_eq (sb_17_2 hp) rfl rfl (chk_rf _ _ _)]
  rfl
theorem sb_17_3 (hp : HP) : EJ1_charAt_3b067 [.ref 3017, .int (nI 3)] hp = some (nI 115) := by
  show oCal 2 none EJ0_checkIndex_df160 fU (oAld 0 (oIld 1 (oSat (oConst (.int 255) (oiand (oi2c (oCretP))))))) [(0, .ref 3017), (1, .int (nI 3))] [.int (nI 4), .int (nI 3)] hp = _
  rw [cal_eq (sj_ck hp (j := nI 3) (n := nI 4) (by decide) (by decide)) rfl rfl (chk_rf _ _ _)]
  rfl
theorem sc_17_3 (hp : HP) : EJ0_charAt_5068e [.ref 2017, .int (nI 3)] hp = some (nI 115) := by
  show oCal 1 (some 99) EJ0_isLatin1_aae02 fZ (oIfeq (kN) (oAld 0 (oSvl (oIld 1 (oCal 2 none EJ1_charAt_3b067 fI (oCretP)))))) [(0, .ref 2017), (1, .int (nI 3))] [.ref 2017] hp = _
  rw [cal_eq (si_17 hp) rfl rfl (chk_rf _ _ _)]
  show oCal 2 none EJ1_charAt_3b067 fI (oCretP) [(0, .ref 2017), (1, .int (nI 3))] [.int (nI 3), .ref 3017] hp = _
  rw [cal_eq (sb_17_3 hp) rfl rfl (chk_rf _ _ _)]
  rfl
theorem sc_17 (hp : HP) : ∀ k, k < 4 → EJ0_charAt_5068e [.ref 2017, .int (nI k)] hp = some (nI (sx_17 k)) := fun k hk => by
  rcases (by omega : k = 0 ∨ k = 1 ∨ k = 2 ∨ k = 3) with rfl | rfl | rfl | rfl
  · exact sc_17_0 hp
  · exact sc_17_1 hp
  · exact sc_17_2 hp
  · exact sc_17_3 hp
def sx_18 (k : Nat) : Nat := ([115, 104, 117, 116, 115] : List Nat).getD k 0
theorem sd_18 (hp : HP) : EJ0_coder_7d493 [.ref 2018] hp = some 0 := rfl
theorem sl_18 (hp : HP) : EJ0_length_8abf5 [.ref 2018] hp = some (nI 5) := by
  show oCal 1 (some 99) EJ0_coder_7d493 fI (oishr oIretP) [(0, .ref 2018)] [.ref 2018, .int (nI 5)] hp = _
  rw [cal_eq (sd_18 hp) rfl rfl (chk_rf _ _ _)]
  rfl
theorem si_18 (hp : HP) : EJ0_isLatin1_aae02 [.ref 2018] hp = some true := rfl
theorem sb_18_0 (hp : HP) : EJ1_charAt_3b067 [.ref 3018, .int (nI 0)] hp = some (nI 115) := by
  show oCal 2 none EJ0_checkIndex_df160 fU (oAld 0 (oIld 1 (oSat (oConst (.int 255) (oiand (oi2c (oCretP))))))) [(0, .ref 3018), (1, .int (nI 0))] [.int (nI 5), .int (nI 0)] hp = _
  rw [cal_eq (sj_ck hp (j := nI 0) (n := nI 5) (by decide) (by decide)) rfl rfl (chk_rf _ _ _)]
  rfl
theorem sc_18_0 (hp : HP) : EJ0_charAt_5068e [.ref 2018, .int (nI 0)] hp = some (nI 115) := by
  show oCal 1 (some 99) EJ0_isLatin1_aae02 fZ (oIfeq (kN) (oAld 0 (oSvl (oIld 1 (oCal 2 none EJ1_charAt_3b067 fI (oCretP)))))) [(0, .ref 2018), (1, .int (nI 0))] [.ref 2018] hp = _
  rw [cal_eq (si_18 hp) rfl rfl (chk_rf _ _ _)]
  show oCal 2 none EJ1_charAt_3b067 fI (oCretP) [(0, .ref 2018), (1, .int (nI 0))] [.int (nI 0), .ref 3018] hp = _
  rw [cal_eq (sb_18_0 hp) rfl rfl (chk_rf _ _ _)]
  rfl
theorem sb_18_1 (hp : HP) : EJ1_charAt_3b067 [.ref 3018, .int (nI 1)] hp = some (nI 104) := by
  show oCal 2 none EJ0_checkIndex_df160 fU (oAld 0 (oIld 1 (oSat (oConst (.int 255) (oiand (oi2c (oCretP))))))) [(0, .ref 3018), (1, .int (nI 1))] [.int (nI 5), .int (nI 1)] hp = _
  rw [cal_eq (sj_ck hp (j := nI 1) (n := nI 5) (by decide) (by decide)) rfl rfl (chk_rf _ _ _)]
  rfl
theorem sc_18_1 (hp : HP) : EJ0_charAt_5068e [.ref 2018, .int (nI 1)] hp = some (nI 104) := by
  show oCal 1 (some 99) EJ0_isLatin1_aae02 fZ (oIfeq (kN) (oAld 0 (oSvl (oIld 1 (oCal 2 none EJ1_charAt_3b067 fI (oCretP)))))) [(0, .ref 2018), (1, .int (nI 1))] [.ref 2018] hp = _
  rw [cal_eq (si_18 hp) rfl rfl (chk_rf _ _ _)]
  show oCal 2 none EJ1_charAt_3b067 fI (oCretP) [(0, .ref 2018), (1, .int (nI 1))] [.int (nI 1), .ref 3018] hp = _
  rw [cal_eq (sb_18_1 hp) rfl rfl (chk_rf _ _ _)]
  rfl
theorem sb_18_2 (hp : HP) : EJ1_charAt_3b067 [.ref 3018, .int (nI 2)] hp = some (nI 117) := by
  show oCal 2 none EJ0_checkIndex_df160 fU (oAld 0 (oIld 1 (oSat (oConst (.int 255) (oiand (oi2c (oCretP))))))) [(0, .ref 3018), (1, .int (nI 2))] [.int (nI 5), .int (nI 2)] hp = _
  rw [cal_eq (sj_ck hp (j := nI 2) (n := nI 5) (by decide) (by decide)) rfl rfl (chk_rf _ _ _)]
  rfl
theorem sc_18_2 (hp : HP) : EJ0_charAt_5068e [.ref 2018, .int (nI 2)] hp = some (nI 117) := by
  show oCal 1 (some 99) EJ0_isLatin1_aae02 fZ (oIfeq (kN) (oAld 0 (oSvl (oIld 1 (oCal 2 none EJ1_charAt_3b067 fI (oCretP)))))) [(0, .ref 2018), (1, .int (nI 2))] [.ref 2018] hp = _
  rw [cal_eq (si_18 hp) rfl rfl (chk_rf _ _ _)]
  show oCal 2 none EJ1_charAt_3b067 fI (oCretP) [(0, .ref 2018), (1, .int (nI 2))] [.int (nI 2), .ref 3018] hp = _
  rw [cal_eq (sb_18_2 hp) rfl rfl (chk_rf _ _ _)]
  rfl
theorem sb_18_3 (hp : HP) : EJ1_charAt_3b067 [.ref 3018, .int (nI 3)] hp = some (nI 116) := by
  show oCal 2 none EJ0_checkIndex_df160 fU (oAld 0 (oIld 1 (oSat (oConst (.int 255) (oiand (oi2c (oCretP))))))) [(0, .ref 3018), (1, .int (nI 3))] [.int (nI 5), .int (nI 3)] hp = _
  rw [cal_eq (sj_ck hp (j := nI 3) (n := nI 5) (by decide) (by decide)) rfl rfl (chk_rf _ _ _)]
  rfl
theorem sc_18_3 (hp : HP) : EJ0_charAt_5068e [.ref 2018, .int (nI 3)] hp = some (nI 116) := by
  show oCal 1 (some 99) EJ0_isLatin1_aae02 fZ (oIfeq (kN) (oAld 0 (oSvl (oIld 1 (oCal 2 none EJ1_charAt_3b067 fI (oCretP)))))) [(0, .ref 2018), (1, .int (nI 3))] [.ref 2018] hp = _
  rw [cal_eq (si_18 hp) rfl rfl (chk_rf _ _ _)]
  show oCal 2 none EJ1_charAt_3b067 fI (oCretP) [(0, .ref 2018), (1, .int (nI 3))] [.int (nI 3), .ref 3018] hp = _
  rw [cal_eq (sb_18_3 hp) rfl rfl (chk_rf _ _ _)]
  rfl
theorem sb_18_4 (hp : HP) : EJ1_charAt_3b067 [.ref 3018, .int (nI 4)] hp = some (nI 115) := by
  show oCal 2 none EJ0_checkIndex_df160 fU (oAld 0 (oIld 1 (oSat (oConst (.int 255) (oiand (oi2c (oCretP))))))) [(0, .ref 3018), (1, .int (nI 4))] [.int (nI 5), .int (nI 4)] hp = _
  rw [cal_eq (sj_ck hp (j := nI 4) (n := nI 5) (by decide) (by decide)) rfl rfl (chk_rf _ _ _)]
  rfl
theorem sc_18_4 (hp : HP) : EJ0_charAt_5068e [.ref 2018, .int (nI 4)] hp = some (nI 115) := by
  show oCal 1 (some 99) EJ0_isLatin1_aae02 fZ (oIfeq (kN) (oAld 0 (oSvl (oIld 1 (oCal 2 none EJ1_charAt_3b067 fI (oCretP)))))) [(0, .ref 2018), (1, .int (nI 4))] [.ref 2018] hp = _
  rw [cal_eq (si_18 hp) rfl rfl (chk_rf _ _ _)]
  show oCal 2 none EJ1_charAt_3b067 fI (oCretP) [(0, .ref 2018), (1, .int (nI 4))] [.int (nI 4), .ref 3018] hp = _
  rw [cal_eq (sb_18_4 hp) rfl rfl (chk_rf _ _ _)]
  rfl
theorem sc_18 (hp : HP) : ∀ k, k < 5 → EJ0_charAt_5068e [.ref 2018, .int (nI k)] hp = some (nI (sx_18 k)) := fun k hk => by
  rcases (by omega : k = 0 ∨ k = 1 ∨ k = 2 ∨ k = 3 ∨ k = 4) with rfl | rfl | rfl | rfl | rfl
  · exact sc_18_0 hp
  · exact sc_18_1 hp
  · exact sc_18_2 hp
  · exact sc_18_3 hp
  · exact sc_18_4 hp
def sx_19 (k : Nat) : Nat := ([114, 111, 119] : List Nat).getD k 0
theorem sd_19 (hp : HP) : EJ0_coder_7d493 [.ref 2019] hp = some 0 := rfl
theorem sl_19 (hp : HP) : EJ0_length_8abf5 [.ref 2019] hp = some (nI 3) := by
  show oCal 1 (some 99) EJ0_coder_7d493 fI (oishr oIretP) [(0, .ref 2019)] [.ref 2019, .int (nI 3)] hp = _
  rw [cal_eq (sd_19 hp) rfl rfl (chk_rf _ _ _)]
  rfl
theorem si_19 (hp : HP) : EJ0_isLatin1_aae02 [.ref 2019] hp = some true := rfl
theorem sb_19_0 (hp : HP) : EJ1_charAt_3b067 [.ref 3019, .int (nI 0)] hp = some (nI 114) := by
  show oCal 2 none EJ0_checkIndex_df160 fU (oAld 0 (oIld 1 (oSat (oConst (.int 255) (oiand (oi2c (oCretP))))))) [(0, .ref 3019), (1, .int (nI 0))] [.int (nI 3), .int (nI 0)] hp = _
  rw [cal_eq (sj_ck hp (j := nI 0) (n := nI 3) (by decide) (by decide)) rfl rfl (chk_rf _ _ _)]
  rfl
theorem sc_19_0 (hp : HP) : EJ0_charAt_5068e [.ref 2019, .int (nI 0)] hp = some (nI 114) := by
  show oCal 1 (some 99) EJ0_isLatin1_aae02 fZ (oIfeq (kN) (oAld 0 (oSvl (oIld 1 (oCal 2 none EJ1_charAt_3b067 fI (oCretP)))))) [(0, .ref 2019), (1, .int (nI 0))] [.ref 2019] hp = _
  rw [cal_eq (si_19 hp) rfl rfl (chk_rf _ _ _)]
  show oCal 2 none EJ1_charAt_3b067 fI (oCretP) [(0, .ref 2019), (1, .int (nI 0))] [.int (nI 0), .ref 3019] hp = _
  rw [cal_eq (sb_19_0 hp) rfl rfl (chk_rf _ _ _)]
  rfl
theorem sb_19_1 (hp : HP) : EJ1_charAt_3b067 [.ref 3019, .int (nI 1)] hp = some (nI 111) := by
  show oCal 2 none EJ0_checkIndex_df160 fU (oAld 0 (oIld 1 (oSat (oConst (.int 255) (oiand (oi2c (oCretP))))))) [(0, .ref 3019), (1, .int (nI 1))] [.int (nI 3), .int (nI 1)] hp = _
  rw [cal_eq (sj_ck hp (j := nI 1) (n := nI 3) (by decide) (by decide)) rfl rfl (chk_rf _ _ _)]
  rfl
theorem sc_19_1 (hp : HP) : EJ0_charAt_5068e [.ref 2019, .int (nI 1)] hp = some (nI 111) := by
  show oCal 1 (some 99) EJ0_isLatin1_aae02 fZ (oIfeq (kN) (oAld 0 (oSvl (oIld 1 (oCal 2 none EJ1_charAt_3b067 fI (oCretP)))))) [(0, .ref 2019), (1, .int (nI 1))] [.ref 2019] hp = _
  rw [cal_eq (si_19 hp) rfl rfl (chk_rf _ _ _)]
  show oCal 2 none EJ1_charAt_3b067 fI (oCretP) [(0, .ref 2019), (1, .int (nI 1))] [.int (nI 1), .ref 3019] hp = _
  rw [cal_eq (sb_19_1 hp) rfl rfl (chk_rf _ _ _)]
  rfl
theorem sb_19_2 (hp : HP) : EJ1_charAt_3b067 [.ref 3019, .int (nI 2)] hp = some (nI 119) := by
  show oCal 2 none EJ0_checkIndex_df160 fU (oAld 0 (oIld 1 (oSat (oConst (.int 255) (oiand (oi2c (oCretP))))))) [(0, .ref 3019), (1, .int (nI 2))] [.int (nI 3), .int (nI 2)] hp = _
  rw [cal_eq (sj_ck hp (j := nI 2) (n := nI 3) (by decide) (by decide)) rfl rfl (chk_rf _ _ _)]
  rfl
theorem sc_19_2 (hp : HP) : EJ0_charAt_5068e [.ref 2019, .int (nI 2)] hp = some (nI 119) := by
  show oCal 1 (some 99) EJ0_isLatin1_aae02 fZ (oIfeq (kN) (oAld 0 (oSvl (oIld 1 (oCal 2 none EJ1_charAt_3b067 fI (oCretP)))))) [(0, .ref 2019), (1, .int (nI 2))] [.ref 2019] hp = _
  rw [cal_eq (si_19 hp) rfl rfl (chk_rf _ _ _)]
  show oCal 2 none EJ1_charAt_3b067 fI (oCretP) [(0, .ref 2019), (1, .int (nI 2))] [.int (nI 2), .ref 3019] hp = _
  rw [cal_eq (sb_19_2 hp) rfl rfl (chk_rf _ _ _)]
  rfl
theorem sc_19 (hp : HP) : ∀ k, k < 3 → EJ0_charAt_5068e [.ref 2019, .int (nI k)] hp = some (nI (sx_19 k)) := fun k hk => by
  rcases (by omega : k = 0 ∨ k = 1 ∨ k = 2) with rfl | rfl | rfl
  · exact sc_19_0 hp
  · exact sc_19_1 hp
  · exact sc_19_2 hp
def sx_20 (k : Nat) : Nat := ([119, 97, 110, 116] : List Nat).getD k 0
theorem sd_20 (hp : HP) : EJ0_coder_7d493 [.ref 2020] hp = some 0 := rfl
theorem sl_20 (hp : HP) : EJ0_length_8abf5 [.ref 2020] hp = some (nI 4) := by
  show oCal 1 (some 99) EJ0_coder_7d493 fI (oishr oIretP) [(0, .ref 2020)] [.ref 2020, .int (nI 4)] hp = _
  rw [cal_eq (sd_20 hp) rfl rfl (chk_rf _ _ _)]
  rfl
theorem si_20 (hp : HP) : EJ0_isLatin1_aae02 [.ref 2020] hp = some true := rfl
theorem sb_20_0 (hp : HP) : EJ1_charAt_3b067 [.ref 3020, .int (nI 0)] hp = some (nI 119) := by
  show oCal 2 none EJ0_checkIndex_df160 fU (oAld 0 (oIld 1 (oSat (oConst (.int 255) (oiand (oi2c (oCretP))))))) [(0, .ref 3020), (1, .int (nI 0))] [.int (nI 4), .int (nI 0)] hp = _
  rw [cal_eq (sj_ck hp (j := nI 0) (n := nI 4) (by decide) (by decide)) rfl rfl (chk_rf _ _ _)]
  rfl
theorem sc_20_0 (hp : HP) : EJ0_charAt_5068e [.ref 2020, .int (nI 0)] hp = some (nI 119) := by
  show oCal 1 (some 99) EJ0_isLatin1_aae02 fZ (oIfeq (kN) (oAld 0 (oSvl (oIld 1 (oCal 2 none EJ1_charAt_3b067 fI (oCretP)))))) [(0, .ref 2020), (1, .int (nI 0))] [.ref 2020] hp = _
  rw [cal_eq (si_20 hp) rfl rfl (chk_rf _ _ _)]
  show oCal 2 none EJ1_charAt_3b067 fI (oCretP) [(0, .ref 2020), (1, .int (nI 0))] [.int (nI 0), .ref 3020] hp = _
  rw [cal_eq (sb_20_0 hp) rfl rfl (chk_rf _ _ _)]
  rfl
theorem sb_20_1 (hp : HP) : EJ1_charAt_3b067 [.ref 3020, .int (nI 1)] hp = some (nI 97) := by
  show oCal 2 none EJ0_checkIndex_df160 fU (oAld 0 (oIld 1 (oSat (oConst (.int 255) (oiand (oi2c (oCretP))))))) [(0, .ref 3020), (1, .int (nI 1))] [.int (nI 4), .int (nI 1)] hp = _
  rw [cal_eq (sj_ck hp (j := nI 1) (n := nI 4) (by decide) (by decide)) rfl rfl (chk_rf _ _ _)]
  rfl
theorem sc_20_1 (hp : HP) : EJ0_charAt_5068e [.ref 2020, .int (nI 1)] hp = some (nI 97) := by
  show oCal 1 (some 99) EJ0_isLatin1_aae02 fZ (oIfeq (kN) (oAld 0 (oSvl (oIld 1 (oCal 2 none EJ1_charAt_3b067 fI (oCretP)))))) [(0, .ref 2020), (1, .int (nI 1))] [.ref 2020] hp = _
  rw [cal_eq (si_20 hp) rfl rfl (chk_rf _ _ _)]
  show oCal 2 none EJ1_charAt_3b067 fI (oCretP) [(0, .ref 2020), (1, .int (nI 1))] [.int (nI 1), .ref 3020] hp = _
  rw [cal_eq (sb_20_1 hp) rfl rfl (chk_rf _ _ _)]
  rfl
theorem sb_20_2 (hp : HP) : EJ1_charAt_3b067 [.ref 3020, .int (nI 2)] hp = some (nI 110) := by
  show oCal 2 none EJ0_checkIndex_df160 fU (oAld 0 (oIld 1 (oSat (oConst (.int 255) (oiand (oi2c (oCretP))))))) [(0, .ref 3020), (1, .int (nI 2))] [.int (nI 4), .int (nI 2)] hp = _
  rw [cal_eq (sj_ck hp (j := nI 2) (n := nI 4) (by decide) (by decide)) rfl rfl (chk_rf _ _ _)]
  rfl
theorem sc_20_2 (hp : HP) : EJ0_charAt_5068e [.ref 2020, .int (nI 2)] hp = some (nI 110) := by
  show oCal 1 (some 99) EJ0_isLatin1_aae02 fZ (oIfeq (kN) (oAld 0 (oSvl (oIld 1 (oCal 2 none EJ1_charAt_3b067 fI (oCretP)))))) [(0, .ref 2020), (1, .int (nI 2))] [.ref 2020] hp = _
  rw [cal_eq (si_20 hp) rfl rfl (chk_rf _ _ _)]
  show oCal 2 none EJ1_charAt_3b067 fI (oCretP) [(0, .ref 2020), (1, .int (nI 2))] [.int (nI 2), .ref 3020] hp = _
  rw [cal_eq (sb_20_2 hp) rfl rfl (chk_rf _ _ _)]
  rfl
theorem sb_20_3 (hp : HP) : EJ1_charAt_3b067 [.ref 3020, .int (nI 3)] hp = some (nI 116) := by
  show oCal 2 none EJ0_checkIndex_df160 fU (oAld 0 (oIld 1 (oSat (oConst (.int 255) (oiand (oi2c (oCretP))))))) [(0, .ref 3020), (1, .int (nI 3))] [.int (nI 4), .int (nI 3)] hp = _
  rw [cal_eq (sj_ck hp (j := nI 3) (n := nI 4) (by decide) (by decide)) rfl rfl (chk_rf _ _ _)]
  rfl
theorem sc_20_3 (hp : HP) : EJ0_charAt_5068e [.ref 2020, .int (nI 3)] hp = some (nI 116) := by
  show oCal 1 (some 99) EJ0_isLatin1_aae02 fZ (oIfeq (kN) (oAld 0 (oSvl (oIld 1 (oCal 2 none EJ1_charAt_3b067 fI (oCretP)))))) [(0, .ref 2020), (1, .int (nI 3))] [.ref 2020] hp = _
  rw [cal_eq (si_20 hp) rfl rfl (chk_rf _ _ _)]
  show oCal 2 none EJ1_charAt_3b067 fI (oCretP) [(0, .ref 2020), (1, .int (nI 3))] [.int (nI 3), .ref 3020] hp = _
  rw [cal_eq (sb_20_3 hp) rfl rfl (chk_rf _ _ _)]
  rfl
theorem sc_20 (hp : HP) : ∀ k, k < 4 → EJ0_charAt_5068e [.ref 2020, .int (nI k)] hp = some (nI (sx_20 k)) := fun k hk => by
  rcases (by omega : k = 0 ∨ k = 1 ∨ k = 2 ∨ k = 3) with rfl | rfl | rfl | rfl
  · exact sc_20_0 hp
  · exact sc_20_1 hp
  · exact sc_20_2 hp
  · exact sc_20_3 hp
def sx_21 (k : Nat) : Nat := ([109, 111, 111, 110] : List Nat).getD k 0
theorem sd_21 (hp : HP) : EJ0_coder_7d493 [.ref 2021] hp = some 0 := rfl
theorem sl_21 (hp : HP) : EJ0_length_8abf5 [.ref 2021] hp = some (nI 4) := by
  show oCal 1 (some 99) EJ0_coder_7d493 fI (oishr oIretP) [(0, .ref 2021)] [.ref 2021, .int (nI 4)] hp = _
  rw [cal_eq (sd_21 hp) rfl rfl (chk_rf _ _ _)]
  rfl
theorem si_21 (hp : HP) : EJ0_isLatin1_aae02 [.ref 2021] hp = some true := rfl
theorem sb_21_0 (hp : HP) : EJ1_charAt_3b067 [.ref 3021, .int (nI 0)] hp = some (nI 109) := by
  show oCal 2 none EJ0_checkIndex_df160 fU (oAld 0 (oIld 1 (oSat (oConst (.int 255) (oiand (oi2c (oCretP))))))) [(0, .ref 3021), (1, .int (nI 0))] [.int (nI 4), .int (nI 0)] hp = _
  rw [cal_eq (sj_ck hp (j := nI 0) (n := nI 4) (by decide) (by decide)) rfl rfl (chk_rf _ _ _)]
  rfl
theorem sc_21_0 (hp : HP) : EJ0_charAt_5068e [.ref 2021, .int (nI 0)] hp = some (nI 109) := by
  show oCal 1 (some 99) EJ0_isLatin1_aae02 fZ (oIfeq (kN) (oAld 0 (oSvl (oIld 1 (oCal 2 none EJ1_charAt_3b067 fI (oCretP)))))) [(0, .ref 2021), (1, .int (nI 0))] [.ref 2021] hp = _
  rw [cal_eq (si_21 hp) rfl rfl (chk_rf _ _ _)]
  show oCal 2 none EJ1_charAt_3b067 fI (oCretP) [(0, .ref 2021), (1, .int (nI 0))] [.int (nI 0), .ref 3021] hp = _
  rw [cal_eq (sb_21_0 hp) rfl rfl (chk_rf _ _ _)]
  rfl
theorem sb_21_1 (hp : HP) : EJ1_charAt_3b067 [.ref 3021, .int (nI 1)] hp = some (nI 111) := by
  show oCal 2 none EJ0_checkIndex_df160 fU (oAld 0 (oIld 1 (oSat (oConst (.int 255) (oiand (oi2c (oCretP))))))) [(0, .ref 3021), (1, .int (nI 1))] [.int (nI 4), .int (nI 1)] hp = _
  rw [cal_eq (sj_ck hp (j := nI 1) (n := nI 4) (by decide) (by decide)) rfl rfl (chk_rf _ _ _)]
  rfl
theorem sc_21_1 (hp : HP) : EJ0_charAt_5068e [.ref 2021, .int (nI 1)] hp = some (nI 111) := by
  show oCal 1 (some 99) EJ0_isLatin1_aae02 fZ (oIfeq (kN) (oAld 0 (oSvl (oIld 1 (oCal 2 none EJ1_charAt_3b067 fI (oCretP)))))) [(0, .ref 2021), (1, .int (nI 1))] [.ref 2021] hp = _
  rw [cal_eq (si_21 hp) rfl rfl (chk_rf _ _ _)]
  show oCal 2 none EJ1_charAt_3b067 fI (oCretP) [(0, .ref 2021), (1, .int (nI 1))] [.int (nI 1), .ref 3021] hp = _
  rw [cal_eq (sb_21_1 hp) rfl rfl (chk_rf _ _ _)]
  rfl
theorem sb_21_2 (hp : HP) : EJ1_charAt_3b067 [.ref 3021, .int (nI 2)] hp = some (nI 111) := by
  show oCal 2 none EJ0_checkIndex_df160 fU (oAld 0 (oIld 1 (oSat (oConst (.int 255) (oiand (oi2c (oCretP))))))) [(0, .ref 3021), (1, .int (nI 2))] [.int (nI 4), .int (nI 2)] hp = _
  rw [cal_eq (sj_ck hp (j := nI 2) (n := nI 4) (by decide) (by decide)) rfl rfl (chk_rf _ _ _)]
  rfl
theorem sc_21_2 (hp : HP) : EJ0_charAt_5068e [.ref 2021, .int (nI 2)] hp = some (nI 111) := by
  show oCal 1 (some 99) EJ0_isLatin1_aae02 fZ (oIfeq (kN) (oAld 0 (oSvl (oIld 1 (oCal 2 none EJ1_charAt_3b067 fI (oCretP)))))) [(0, .ref 2021), (1, .int (nI 2))] [.ref 2021] hp = _
  rw [cal_eq (si_21 hp) rfl rfl (chk_rf _ _ _)]
  show oCal 2 none EJ1_charAt_3b067 fI (oCretP) [(0, .ref 2021), (1, .int (nI 2))] [.int (nI 2), .ref 3021] hp = _
  rw [cal_eq (sb_21_2 hp) rfl rfl (chk_rf _ _ _)]
  rfl
theorem sb_21_3 (hp : HP) : EJ1_charAt_3b067 [.ref 3021, .int (nI 3)] hp = some (nI 110) := by
  show oCal 2 none EJ0_checkIndex_df160 fU (oAld 0 (oIld 1 (oSat (oConst (.int 255) (oiand (oi2c (oCretP))))))) [(0, .ref 3021), (1, .int (nI 3))] [.int (nI 4), .int (nI 3)] hp = _
  rw [cal_eq (sj_ck hp (j := nI 3) (n := nI 4) (by decide) (by decide)) rfl rfl (chk_rf _ _ _)]
  rfl
theorem sc_21_3 (hp : HP) : EJ0_charAt_5068e [.ref 2021, .int (nI 3)] hp = some (nI 110) := by
  show oCal 1 (some 99) EJ0_isLatin1_aae02 fZ (oIfeq (kN) (oAld 0 (oSvl (oIld 1 (oCal 2 none EJ1_charAt_3b067 fI (oCretP)))))) [(0, .ref 2021), (1, .int (nI 3))] [.ref 2021] hp = _
  rw [cal_eq (si_21 hp) rfl rfl (chk_rf _ _ _)]
  show oCal 2 none EJ1_charAt_3b067 fI (oCretP) [(0, .ref 2021), (1, .int (nI 3))] [.int (nI 3), .ref 3021] hp = _
  rw [cal_eq (sb_21_3 hp) rfl rfl (chk_rf _ _ _)]
  rfl
theorem sc_21 (hp : HP) : ∀ k, k < 4 → EJ0_charAt_5068e [.ref 2021, .int (nI k)] hp = some (nI (sx_21 k)) := fun k hk => by
  rcases (by omega : k = 0 ∨ k = 1 ∨ k = 2 ∨ k = 3) with rfl | rfl | rfl | rfl
  · exact sc_21_0 hp
  · exact sc_21_1 hp
  · exact sc_21_2 hp
  · exact sc_21_3 hp
def sx_22 (k : Nat) : Nat := ([103, 97, 116, 101] : List Nat).getD k 0
theorem sd_22 (hp : HP) : EJ0_coder_7d493 [.ref 2022] hp = some 0 := rfl
theorem sl_22 (hp : HP) : EJ0_length_8abf5 [.ref 2022] hp = some (nI 4) := by
  show oCal 1 (some 99) EJ0_coder_7d493 fI (oishr oIretP) [(0, .ref 2022)] [.ref 2022, .int (nI 4)] hp = _
  rw [cal_eq (sd_22 hp) rfl rfl (chk_rf _ _ _)]
  rfl
theorem si_22 (hp : HP) : EJ0_isLatin1_aae02 [.ref 2022] hp = some true := rfl
theorem sb_22_0 (hp : HP) : EJ1_charAt_3b067 [.ref 3022, .int (nI 0)] hp = some (nI 103) := by
  show oCal 2 none EJ0_checkIndex_df160 fU (oAld 0 (oIld 1 (oSat (oConst (.int 255) (oiand (oi2c (oCretP))))))) [(0, .ref 3022), (1, .int (nI 0))] [.int (nI 4), .int (nI 0)] hp = _
  rw [cal_eq (sj_ck hp (j := nI 0) (n := nI 4) (by decide) (by decide)) rfl rfl (chk_rf _ _ _)]
  rfl
theorem sc_22_0 (hp : HP) : EJ0_charAt_5068e [.ref 2022, .int (nI 0)] hp = some (nI 103) := by
  show oCal 1 (some 99) EJ0_isLatin1_aae02 fZ (oIfeq (kN) (oAld 0 (oSvl (oIld 1 (oCal 2 none EJ1_charAt_3b067 fI (oCretP)))))) [(0, .ref 2022), (1, .int (nI 0))] [.ref 2022] hp = _
  rw [cal_eq (si_22 hp) rfl rfl (chk_rf _ _ _)]
  show oCal 2 none EJ1_charAt_3b067 fI (oCretP) [(0, .ref 2022), (1, .int (nI 0))] [.int (nI 0), .ref 3022] hp = _
  rw [cal_eq (sb_22_0 hp) rfl rfl (chk_rf _ _ _)]
  rfl
theorem sb_22_1 (hp : HP) : EJ1_charAt_3b067 [.ref 3022, .int (nI 1)] hp = some (nI 97) := by
  show oCal 2 none EJ0_checkIndex_df160 fU (oAld 0 (oIld 1 (oSat (oConst (.int 255) (oiand (oi2c (oCretP))))))) [(0, .ref 3022), (1, .int (nI 1))] [.int (nI 4), .int (nI 1)] hp = _
  rw [cal_eq (sj_ck hp (j := nI 1) (n := nI 4) (by decide) (by decide)) rfl rfl (chk_rf _ _ _)]
  rfl
theorem sc_22_1 (hp : HP) : EJ0_charAt_5068e [.ref 2022, .int (nI 1)] hp = some (nI 97) := by
  show oCal 1 (some 99) EJ0_isLatin1_aae02 fZ (oIfeq (kN) (oAld 0 (oSvl (oIld 1 (oCal 2 none EJ1_charAt_3b067 fI (oCretP)))))) [(0, .ref 2022), (1, .int (nI 1))] [.ref 2022] hp = _
  rw [cal_eq (si_22 hp) rfl rfl (chk_rf _ _ _)]
  show oCal 2 none EJ1_charAt_3b067 fI (oCretP) [(0, .ref 2022), (1, .int (nI 1))] [.int (nI 1), .ref 3022] hp = _
  rw [cal_eq (sb_22_1 hp) rfl rfl (chk_rf _ _ _)]
  rfl
theorem sb_22_2 (hp : HP) : EJ1_charAt_3b067 [.ref 3022, .int (nI 2)] hp = some (nI 116) := by
  show oCal 2 none EJ0_checkIndex_df160 fU (oAld 0 (oIld 1 (oSat (oConst (.int 255) (oiand (oi2c (oCretP))))))) [(0, .ref 3022), (1, .int (nI 2))] [.int (nI 4), .int (nI 2)] hp = _
  rw [cal_eq (sj_ck hp (j := nI 2) (n := nI 4) (by decide) (by decide)) rfl rfl (chk_rf _ _ _)]
  rfl
theorem sc_22_2 (hp : HP) : EJ0_charAt_5068e [.ref 2022, .int (nI 2)] hp = some (nI 116) := by
  show oCal 1 (some 99) EJ0_isLatin1_aae02 fZ (oIfeq (kN) (oAld 0 (oSvl (oIld 1 (oCal 2 none EJ1_charAt_3b067 fI (oCretP)))))) [(0, .ref 2022), (1, .int (nI 2))] [.ref 2022] hp = _
  rw [cal_eq (si_22 hp) rfl rfl (chk_rf _ _ _)]
  show oCal 2 none EJ1_charAt_3b067 fI (oCretP) [(0, .ref 2022), (1, .int (nI 2))] [.int (nI 2), .ref 3022] hp = _
  rw [cal_eq (sb_22_2 hp) rfl rfl (chk_rf _ _ _)]
  rfl
theorem sb_22_3 (hp : HP) : EJ1_charAt_3b067 [.ref 3022, .int (nI 3)] hp = some (nI 101) := by
  show oCal 2 none EJ0_checkIndex_df160 fU (oAld 0 (oIld 1 (oSat (oConst (.int 255) (oiand (oi2c (oCretP))))))) [(0, .ref 3022), (1, .int (nI 3))] [.int (nI 4), .int (nI 3)] hp = _
  rw [cal_eq (sj_ck hp (j := nI 3) (n := nI 4) (by decide) (by decide)) rfl rfl (chk_rf _ _ _)]
  rfl
theorem sc_22_3 (hp : HP) : EJ0_charAt_5068e [.ref 2022, .int (nI 3)] hp = some (nI 101) := by
  show oCal 1 (some 99) EJ0_isLatin1_aae02 fZ (oIfeq (kN) (oAld 0 (oSvl (oIld 1 (oCal 2 none EJ1_charAt_3b067 fI (oCretP)))))) [(0, .ref 2022), (1, .int (nI 3))] [.ref 2022] hp = _
  rw [cal_eq (si_22 hp) rfl rfl (chk_rf _ _ _)]
  show oCal 2 none EJ1_charAt_3b067 fI (oCretP) [(0, .ref 2022), (1, .int (nI 3))] [.int (nI 3), .ref 3022] hp = _
  rw [cal_eq (sb_22_3 hp) rfl rfl (chk_rf _ _ _)]
  rfl
theorem sc_22 (hp : HP) : ∀ k, k < 4 → EJ0_charAt_5068e [.ref 2022, .int (nI k)] hp = some (nI (sx_22 k)) := fun k hk => by
  rcases (by omega : k = 0 ∨ k = 1 ∨ k = 2 ∨ k = 3) with rfl | rfl | rfl | rfl
  · exact sc_22_0 hp
  · exact sc_22_1 hp
  · exact sc_22_2 hp
  · exact sc_22_3 hp
def sx_23 (k : Nat) : Nat := ([110, 111, 105, 115, 101] : List Nat).getD k 0
theorem sd_23 (hp : HP) : EJ0_coder_7d493 [.ref 2023] hp = some 0 := rfl
theorem sl_23 (hp : HP) : EJ0_length_8abf5 [.ref 2023] hp = some (nI 5) := by
  show oCal 1 (some 99) EJ0_coder_7d493 fI (oishr oIretP) [(0, .ref 2023)] [.ref 2023, .int (nI 5)] hp = _
  rw [cal_eq (sd_23 hp) rfl rfl (chk_rf _ _ _)]
  rfl
theorem si_23 (hp : HP) : EJ0_isLatin1_aae02 [.ref 2023] hp = some true := rfl
theorem sb_23_0 (hp : HP) : EJ1_charAt_3b067 [.ref 3023, .int (nI 0)] hp = some (nI 110) := by
  show oCal 2 none EJ0_checkIndex_df160 fU (oAld 0 (oIld 1 (oSat (oConst (.int 255) (oiand (oi2c (oCretP))))))) [(0, .ref 3023), (1, .int (nI 0))] [.int (nI 5), .int (nI 0)] hp = _
  rw [cal_eq (sj_ck hp (j := nI 0) (n := nI 5) (by decide) (by decide)) rfl rfl (chk_rf _ _ _)]
  rfl
theorem sc_23_0 (hp : HP) : EJ0_charAt_5068e [.ref 2023, .int (nI 0)] hp = some (nI 110) := by
  show oCal 1 (some 99) EJ0_isLatin1_aae02 fZ (oIfeq (kN) (oAld 0 (oSvl (oIld 1 (oCal 2 none EJ1_charAt_3b067 fI (oCretP)))))) [(0, .ref 2023), (1, .int (nI 0))] [.ref 2023] hp = _
  rw [cal_eq (si_23 hp) rfl rfl (chk_rf _ _ _)]
  show oCal 2 none EJ1_charAt_3b067 fI (oCretP) [(0, .ref 2023), (1, .int (nI 0))] [.int (nI 0), .ref 3023] hp = _
  rw [cal_eq (sb_23_0 hp) rfl rfl (chk_rf _ _ _)]
  rfl
theorem sb_23_1 (hp : HP) : EJ1_charAt_3b067 [.ref 3023, .int (nI 1)] hp = some (nI 111) := by
  show oCal 2 none EJ0_checkIndex_df160 fU (oAld 0 (oIld 1 (oSat (oConst (.int 255) (oiand (oi2c (oCretP))))))) [(0, .ref 3023), (1, .int (nI 1))] [.int (nI 5), .int (nI 1)] hp = _
  rw [cal_eq (sj_ck hp (j := nI 1) (n := nI 5) (by decide) (by decide)) rfl rfl (chk_rf _ _ _)]
  rfl
theorem sc_23_1 (hp : HP) : EJ0_charAt_5068e [.ref 2023, .int (nI 1)] hp = some (nI 111) := by
  show oCal 1 (some 99) EJ0_isLatin1_aae02 fZ (oIfeq (kN) (oAld 0 (oSvl (oIld 1 (oCal 2 none EJ1_charAt_3b067 fI (oCretP)))))) [(0, .ref 2023), (1, .int (nI 1))] [.ref 2023] hp = _
  rw [cal_eq (si_23 hp) rfl rfl (chk_rf _ _ _)]
  show oCal 2 none EJ1_charAt_3b067 fI (oCretP) [(0, .ref 2023), (1, .int (nI 1))] [.int (nI 1), .ref 3023] hp = _
  rw [cal_eq (sb_23_1 hp) rfl rfl (chk_rf _ _ _)]
  rfl
theorem sb_23_2 (hp : HP) : EJ1_charAt_3b067 [.ref 3023, .int (nI 2)] hp = some (nI 105) := by
  show oCal 2 none EJ0_checkIndex_df160 fU (oAld 0 (oIld 1 (oSat (oConst (.int 255) (oiand (oi2c (oCretP))))))) [(0, .ref 3023), (1, .int (nI 2))] [.int (nI 5), .int (nI 2)] hp = _
  rw [cal_eq (sj_ck hp (j := nI 2) (n := nI 5) (by decide) (by decide)) rfl rfl (chk_rf _ _ _)]
  rfl
theorem sc_23_2 (hp : HP) : EJ0_charAt_5068e [.ref 2023, .int (nI 2)] hp = some (nI 105) := by
  show oCal 1 (some 99) EJ0_isLatin1_aae02 fZ (oIfeq (kN) (oAld 0 (oSvl (oIld 1 (oCal 2 none EJ1_charAt_3b067 fI (oCretP)))))) [(0, .ref 2023), (1, .int (nI 2))] [.ref 2023] hp = _
  rw [cal_eq (si_23 hp) rfl rfl (chk_rf _ _ _)]
  show oCal 2 none EJ1_charAt_3b067 fI (oCretP) [(0, .ref 2023), (1, .int (nI 2))] [.int (nI 2), .ref 3023] hp = _
  rw [cal_eq (sb_23_2 hp) rfl rfl (chk_rf _ _ _)]
  rfl
theorem sb_23_3 (hp : HP) : EJ1_charAt_3b067 [.ref 3023, .int (nI 3)] hp = some (nI 115) := by
  show oCal 2 none EJ0_checkIndex_df160 fU (oAld 0 (oIld 1 (oSat (oConst (.int 255) (oiand (oi2c (oCretP))))))) [(0, .ref 3023), (1, .int (nI 3))] [.int (nI 5), .int (nI 3)] hp = _
  rw [cal_eq (sj_ck hp (j := nI 3) (n := nI 5) (by decide) (by decide)) rfl rfl (chk_rf _ _ _)]
  rfl
theorem sc_23_3 (hp : HP) : EJ0_charAt_5068e [.ref 2023, .int (nI 3)] hp = some (nI 115) := by
  show oCal 1 (some 99) EJ0_isLatin1_aae02 fZ (oIfeq (kN) (oAld 0 (oSvl (oIld 1 (oCal 2 none EJ1_charAt_3b067 fI (oCretP)))))) [(0, .ref 2023), (1, .int (nI 3))] [.ref 2023] hp = _
  rw [cal_eq (si_23 hp) rfl rfl (chk_rf _ _ _)]
  show oCal 2 none EJ1_charAt_3b067 fI (oCretP) [(0, .ref 2023), (1, .int (nI 3))] [.int (nI 3), .ref 3023] hp = _
  rw [cal_eq (sb_23_3 hp) rfl rfl (chk_rf _ _ _)]
  rfl
theorem sb_23_4 (hp : HP) : EJ1_charAt_3b067 [.ref 3023, .int (nI 4)] hp = some (nI 101) := by
  show oCal 2 none EJ0_checkIndex_df160 fU (oAld 0 (oIld 1 (oSat (oConst (.int 255) (oiand (oi2c (oCretP))))))) [(0, .ref 3023), (1, .int (nI 4))] [.int (nI 5), .int (nI 4)] hp = _
  rw [cal_eq (sj_ck hp (j := nI 4) (n := nI 5) (by decide) (by decide)) rfl rfl (chk_rf _ _ _)]
  rfl
theorem sc_23_4 (hp : HP) : EJ0_charAt_5068e [.ref 2023, .int (nI 4)] hp = some (nI 101) := by
  show oCal 1 (some 99) EJ0_isLatin1_aae02 fZ (oIfeq (kN) (oAld 0 (oSvl (oIld 1 (oCal 2 none EJ1_charAt_3b067 fI (oCretP)))))) [(0, .ref 2023), (1, .int (nI 4))] [.ref 2023] hp = _
  rw [cal_eq (si_23 hp) rfl rfl (chk_rf _ _ _)]
  show oCal 2 none EJ1_charAt_3b067 fI (oCretP) [(0, .ref 2023), (1, .int (nI 4))] [.int (nI 4), .ref 3023] hp = _
  rw [cal_eq (sb_23_4 hp) rfl rfl (chk_rf _ _ _)]
  rfl
theorem sc_23 (hp : HP) : ∀ k, k < 5 → EJ0_charAt_5068e [.ref 2023, .int (nI k)] hp = some (nI (sx_23 k)) := fun k hk => by
  rcases (by omega : k = 0 ∨ k = 1 ∨ k = 2 ∨ k = 3 ∨ k = 4) with rfl | rfl | rfl | rfl | rfl
  · exact sc_23_0 hp
  · exact sc_23_1 hp
  · exact sc_23_2 hp
  · exact sc_23_3 hp
  · exact sc_23_4 hp
def sx_24 (k : Nat) : Nat := ([104, 101, 97, 114, 100] : List Nat).getD k 0
theorem sd_24 (hp : HP) : EJ0_coder_7d493 [.ref 2024] hp = some 0 := rfl
theorem sl_24 (hp : HP) : EJ0_length_8abf5 [.ref 2024] hp = some (nI 5) := by
  show oCal 1 (some 99) EJ0_coder_7d493 fI (oishr oIretP) [(0, .ref 2024)] [.ref 2024, .int (nI 5)] hp = _
  rw [cal_eq (sd_24 hp) rfl rfl (chk_rf _ _ _)]
  rfl
theorem si_24 (hp : HP) : EJ0_isLatin1_aae02 [.ref 2024] hp = some true := rfl
theorem sb_24_0 (hp : HP) : EJ1_charAt_3b067 [.ref 3024, .int (nI 0)] hp = some (nI 104) := by
  show oCal 2 none EJ0_checkIndex_df160 fU (oAld 0 (oIld 1 (oSat (oConst (.int 255) (oiand (oi2c (oCretP))))))) [(0, .ref 3024), (1, .int (nI 0))] [.int (nI 5), .int (nI 0)] hp = _
  rw [cal_eq (sj_ck hp (j := nI 0) (n := nI 5) (by decide) (by decide)) rfl rfl (chk_rf _ _ _)]
  rfl
theorem sc_24_0 (hp : HP) : EJ0_charAt_5068e [.ref 2024, .int (nI 0)] hp = some (nI 104) := by
  show oCal 1 (some 99) EJ0_isLatin1_aae02 fZ (oIfeq (kN) (oAld 0 (oSvl (oIld 1 (oCal 2 none EJ1_charAt_3b067 fI (oCretP)))))) [(0, .ref 2024), (1, .int (nI 0))] [.ref 2024] hp = _
  rw [cal_eq (si_24 hp) rfl rfl (chk_rf _ _ _)]
  show oCal 2 none EJ1_charAt_3b067 fI (oCretP) [(0, .ref 2024), (1, .int (nI 0))] [.int (nI 0), .ref 3024] hp = _
  rw [cal_eq (sb_24_0 hp) rfl rfl (chk_rf _ _ _)]
  rfl
theorem sb_24_1 (hp : HP) : EJ1_charAt_3b067 [.ref 3024, .int (nI 1)] hp = some (nI 101) := by
  show oCal 2 none EJ0_checkIndex_df160 fU (oAld 0 (oIld 1 (oSat (oConst (.int 255) (oiand (oi2c (oCretP))))))) [(0, .ref 3024), (1, .int (nI 1))] [.int (nI 5), .int (nI 1)] hp = _
  rw [cal_eq (sj_ck hp (j := nI 1) (n := nI 5) (by decide) (by decide)) rfl rfl (chk_rf _ _ _)]
  rfl
theorem sc_24_1 (hp : HP) : EJ0_charAt_5068e [.ref 2024, .int (nI 1)] hp = some (nI 101) := by
  show oCal 1 (some 99) EJ0_isLatin1_aae02 fZ (oIfeq (kN) (oAld 0 (oSvl (oIld 1 (oCal 2 none EJ1_charAt_3b067 fI (oCretP)))))) [(0, .ref 2024), (1, .int (nI 1))] [.ref 2024] hp = _
  rw [cal_eq (si_24 hp) rfl rfl (chk_rf _ _ _)]
  show oCal 2 none EJ1_charAt_3b067 fI (oCretP) [(0, .ref 2024), (1, .int (nI 1))] [.int (nI 1), .ref 3024] hp = _
  rw [cal_eq (sb_24_1 hp) rfl rfl (chk_rf _ _ _)]
  rfl
theorem sb_24_2 (hp : HP) : EJ1_charAt_3b067 [.ref 3024, .int (nI 2)] hp = some (nI 97) := by
  show oCal 2 none EJ0_checkIndex_df160 fU (oAld 0 (oIld 1 (oSat (oConst (.int 255) (oiand (oi2c (oCretP))))))) [(0, .ref 3024), (1, .int (nI 2))] [.int (nI 5), .int (nI 2)] hp = _
  rw [cal_eq (sj_ck hp (j := nI 2) (n := nI 5) (by decide) (by decide)) rfl rfl (chk_rf _ _ _)]
  rfl
theorem sc_24_2 (hp : HP) : EJ0_charAt_5068e [.ref 2024, .int (nI 2)] hp = some (nI 97) := by
  show oCal 1 (some 99) EJ0_isLatin1_aae02 fZ (oIfeq (kN) (oAld 0 (oSvl (oIld 1 (oCal 2 none EJ1_charAt_3b067 fI (oCretP)))))) [(0, .ref 2024), (1, .int (nI 2))] [.ref 2024] hp = _
  rw [cal_eq (si_24 hp) rfl rfl (chk_rf _ _ _)]
  show oCal 2 none EJ1_charAt_3b067 fI (oCretP) [(0, .ref 2024), (1, .int (nI 2))] [.int (nI 2), .ref 3024] hp = _
  rw [cal_eq (sb_24_2 hp) rfl rfl (chk_rf _ _ _)]
  rfl
theorem sb_24_3 (hp : HP) : EJ1_charAt_3b067 [.ref 3024, .int (nI 3)] hp = some (nI 114) := by
  show oCal 2 none EJ0_checkIndex_df160 fU (oAld 0 (oIld 1 (oSat (oConst (.int 255) (oiand (oi2c (oCretP))))))) [(0, .ref 3024), (1, .int (nI 3))] [.int (nI 5), .int (nI 3)] hp = _
  rw [cal_eq (sj_ck hp (j := nI 3) (n := nI 5) (by decide) (by decide)) rfl rfl (chk_rf _ _ _)]
  rfl
theorem sc_24_3 (hp : HP) : EJ0_charAt_5068e [.ref 2024, .int (nI 3)] hp = some (nI 114) := by
  show oCal 1 (some 99) EJ0_isLatin1_aae02 fZ (oIfeq (kN) (oAld 0 (oSvl (oIld 1 (oCal 2 none EJ1_charAt_3b067 fI (oCretP)))))) [(0, .ref 2024), (1, .int (nI 3))] [.ref 2024] hp = _
  rw [cal_eq (si_24 hp) rfl rfl (chk_rf _ _ _)]
  show oCal 2 none EJ1_charAt_3b067 fI (oCretP) [(0, .ref 2024), (1, .int (nI 3))] [.int (nI 3), .ref 3024] hp = _
  rw [cal_eq (sb_24_3 hp) rfl rfl (chk_rf _ _ _)]
  rfl
theorem sb_24_4 (hp : HP) : EJ1_charAt_3b067 [.ref 3024, .int (nI 4)] hp = some (nI 100) := by
  show oCal 2 none EJ0_checkIndex_df160 fU (oAld 0 (oIld 1 (oSat (oConst (.int 255) (oiand (oi2c (oCretP))))))) [(0, .ref 3024), (1, .int (nI 4))] [.int (nI 5), .int (nI 4)] hp = _
  rw [cal_eq (sj_ck hp (j := nI 4) (n := nI 5) (by decide) (by decide)) rfl rfl (chk_rf _ _ _)]
  rfl
theorem sc_24_4 (hp : HP) : EJ0_charAt_5068e [.ref 2024, .int (nI 4)] hp = some (nI 100) := by
  show oCal 1 (some 99) EJ0_isLatin1_aae02 fZ (oIfeq (kN) (oAld 0 (oSvl (oIld 1 (oCal 2 none EJ1_charAt_3b067 fI (oCretP)))))) [(0, .ref 2024), (1, .int (nI 4))] [.ref 2024] hp = _
  rw [cal_eq (si_24 hp) rfl rfl (chk_rf _ _ _)]
  show oCal 2 none EJ1_charAt_3b067 fI (oCretP) [(0, .ref 2024), (1, .int (nI 4))] [.int (nI 4), .ref 3024] hp = _
  rw [cal_eq (sb_24_4 hp) rfl rfl (chk_rf _ _ _)]
  rfl
theorem sc_24 (hp : HP) : ∀ k, k < 5 → EJ0_charAt_5068e [.ref 2024, .int (nI k)] hp = some (nI (sx_24 k)) := fun k hk => by
  rcases (by omega : k = 0 ∨ k = 1 ∨ k = 2 ∨ k = 3 ∨ k = 4) with rfl | rfl | rfl | rfl | rfl
  · exact sc_24_0 hp
  · exact sc_24_1 hp
  · exact sc_24_2 hp
  · exact sc_24_3 hp
  · exact sc_24_4 hp
def sx_25 (k : Nat) : Nat := ([102, 114, 111, 109] : List Nat).getD k 0
theorem sd_25 (hp : HP) : EJ0_coder_7d493 [.ref 2025] hp = some 0 := rfl
theorem sl_25 (hp : HP) : EJ0_length_8abf5 [.ref 2025] hp = some (nI 4) := by
  show oCal 1 (some 99) EJ0_coder_7d493 fI (oishr oIretP) [(0, .ref 2025)] [.ref 2025, .int (nI 4)] hp = _
  rw [cal_eq (sd_25 hp) rfl rfl (chk_rf _ _ _)]
  rfl
theorem si_25 (hp : HP) : EJ0_isLatin1_aae02 [.ref 2025] hp = some true := rfl
theorem sb_25_0 (hp : HP) : EJ1_charAt_3b067 [.ref 3025, .int (nI 0)] hp = some (nI 102) := by
  show oCal 2 none EJ0_checkIndex_df160 fU (oAld 0 (oIld 1 (oSat (oConst (.int 255) (oiand (oi2c (oCretP))))))) [(0, .ref 3025), (1, .int (nI 0))] [.int (nI 4), .int (nI 0)] hp = _
  rw [cal_eq (sj_ck hp (j := nI 0) (n := nI 4) (by decide) (by decide)) rfl rfl (chk_rf _ _ _)]
  rfl
theorem sc_25_0 (hp : HP) : EJ0_charAt_5068e [.ref 2025, .int (nI 0)] hp = some (nI 102) := by
  show oCal 1 (some 99) EJ0_isLatin1_aae02 fZ (oIfeq (kN) (oAld 0 (oSvl (oIld 1 (oCal 2 none EJ1_charAt_3b067 fI (oCretP)))))) [(0, .ref 2025), (1, .int (nI 0))] [.ref 2025] hp = _
  rw [cal_eq (si_25 hp) rfl rfl (chk_rf _ _ _)]
  show oCal 2 none EJ1_charAt_3b067 fI (oCretP) [(0, .ref 2025), (1, .int (nI 0))] [.int (nI 0), .ref 3025] hp = _
  rw [cal_eq (sb_25_0 hp) rfl rfl (chk_rf _ _ _)]
  rfl
theorem sb_25_1 (hp : HP) : EJ1_charAt_3b067 [.ref 3025, .int (nI 1)] hp = some (nI 114) := by
  show oCal 2 none EJ0_checkIndex_df160 fU (oAld 0 (oIld 1 (oSat (oConst (.int 255) (oiand (oi2c (oCretP))))))) [(0, .ref 3025), (1, .int (nI 1))] [.int (nI 4), .int (nI 1)] hp = _
  rw [cal_eq (sj_ck hp (j := nI 1) (n := nI 4) (by decide) (by decide)) rfl rfl (chk_rf _ _ _)]
  rfl
theorem sc_25_1 (hp : HP) : EJ0_charAt_5068e [.ref 2025, .int (nI 1)] hp = some (nI 114) := by
  show oCal 1 (some 99) EJ0_isLatin1_aae02 fZ (oIfeq (kN) (oAld 0 (oSvl (oIld 1 (oCal 2 none EJ1_charAt_3b067 fI (oCretP)))))) [(0, .ref 2025), (1, .int (nI 1))] [.ref 2025] hp = _
  rw [cal_eq (si_25 hp) rfl rfl (chk_rf _ _ _)]
  show oCal 2 none EJ1_charAt_3b067 fI (oCretP) [(0, .ref 2025), (1, .int (nI 1))] [.int (nI 1), .ref 3025] hp = _
  rw [cal_eq (sb_25_1 hp) rfl rfl (chk_rf _ _ _)]
  rfl
theorem sb_25_2 (hp : HP) : EJ1_charAt_3b067 [.ref 3025, .int (nI 2)] hp = some (nI 111) := by
  show oCal 2 none EJ0_checkIndex_df160 fU (oAld 0 (oIld 1 (oSat (oConst (.int 255) (oiand (oi2c (oCretP))))))) [(0, .ref 3025), (1, .int (nI 2))] [.int (nI 4), .int (nI 2)] hp = _
  rw [cal_eq (sj_ck hp (j := nI 2) (n := nI 4) (by decide) (by decide)) rfl rfl (chk_rf _ _ _)]
  rfl
theorem sc_25_2 (hp : HP) : EJ0_charAt_5068e [.ref 2025, .int (nI 2)] hp = some (nI 111) := by
  show oCal 1 (some 99) EJ0_isLatin1_aae02 fZ (oIfeq (kN) (oAld 0 (oSvl (oIld 1 (oCal 2 none EJ1_charAt_3b067 fI (oCretP)))))) [(0, .ref 2025), (1, .int (nI 2))] [.ref 2025] hp = _
  rw [cal_eq (si_25 hp) rfl rfl (chk_rf _ _ _)]
  show oCal 2 none EJ1_charAt_3b067 fI (oCretP) [(0, .ref 2025), (1, .int (nI 2))] [.int (nI 2), .ref 3025] hp = _
  rw [cal_eq (sb_25_2 hp) rfl rfl (chk_rf _ _ _)]
  rfl
theorem sb_25_3 (hp : HP) : EJ1_charAt_3b067 [.ref 3025, .int (nI 3)] hp = some (nI 109) := by
  show oCal 2 none EJ0_checkIndex_df160 fU (oAld 0 (oIld 1 (oSat (oConst (.int 255) (oiand (oi2c (oCretP))))))) [(0, .ref 3025), (1, .int (nI 3))] [.int (nI 4), .int (nI 3)] hp = _
  rw [cal_eq (sj_ck hp (j := nI 3) (n := nI 4) (by decide) (by decide)) rfl rfl (chk_rf _ _ _)]
  rfl
theorem sc_25_3 (hp : HP) : EJ0_charAt_5068e [.ref 2025, .int (nI 3)] hp = some (nI 109) := by
  show oCal 1 (some 99) EJ0_isLatin1_aae02 fZ (oIfeq (kN) (oAld 0 (oSvl (oIld 1 (oCal 2 none EJ1_charAt_3b067 fI (oCretP)))))) [(0, .ref 2025), (1, .int (nI 3))] [.ref 2025] hp = _
  rw [cal_eq (si_25 hp) rfl rfl (chk_rf _ _ _)]
  show oCal 2 none EJ1_charAt_3b067 fI (oCretP) [(0, .ref 2025), (1, .int (nI 3))] [.int (nI 3), .ref 3025] hp = _
  rw [cal_eq (sb_25_3 hp) rfl rfl (chk_rf _ _ _)]
  rfl
theorem sc_25 (hp : HP) : ∀ k, k < 4 → EJ0_charAt_5068e [.ref 2025, .int (nI k)] hp = some (nI (sx_25 k)) := fun k hk => by
  rcases (by omega : k = 0 ∨ k = 1 ∨ k = 2 ∨ k = 3) with rfl | rfl | rfl | rfl
  · exact sc_25_0 hp
  · exact sc_25_1 hp
  · exact sc_25_2 hp
  · exact sc_25_3 hp
def sx_26 (k : Nat) : Nat := ([119, 97, 108, 107, 101, 114] : List Nat).getD k 0
theorem sd_26 (hp : HP) : EJ0_coder_7d493 [.ref 2026] hp = some 0 := rfl
theorem sl_26 (hp : HP) : EJ0_length_8abf5 [.ref 2026] hp = some (nI 6) := by
  show oCal 1 (some 99) EJ0_coder_7d493 fI (oishr oIretP) [(0, .ref 2026)] [.ref 2026, .int (nI 6)] hp = _
  rw [cal_eq (sd_26 hp) rfl rfl (chk_rf _ _ _)]
  rfl
theorem si_26 (hp : HP) : EJ0_isLatin1_aae02 [.ref 2026] hp = some true := rfl
theorem sb_26_0 (hp : HP) : EJ1_charAt_3b067 [.ref 3026, .int (nI 0)] hp = some (nI 119) := by
  show oCal 2 none EJ0_checkIndex_df160 fU (oAld 0 (oIld 1 (oSat (oConst (.int 255) (oiand (oi2c (oCretP))))))) [(0, .ref 3026), (1, .int (nI 0))] [.int (nI 6), .int (nI 0)] hp = _
  rw [cal_eq (sj_ck hp (j := nI 0) (n := nI 6) (by decide) (by decide)) rfl rfl (chk_rf _ _ _)]
  rfl
theorem sc_26_0 (hp : HP) : EJ0_charAt_5068e [.ref 2026, .int (nI 0)] hp = some (nI 119) := by
  show oCal 1 (some 99) EJ0_isLatin1_aae02 fZ (oIfeq (kN) (oAld 0 (oSvl (oIld 1 (oCal 2 none EJ1_charAt_3b067 fI (oCretP)))))) [(0, .ref 2026), (1, .int (nI 0))] [.ref 2026] hp = _
  rw [cal_eq (si_26 hp) rfl rfl (chk_rf _ _ _)]
  show oCal 2 none EJ1_charAt_3b067 fI (oCretP) [(0, .ref 2026), (1, .int (nI 0))] [.int (nI 0), .ref 3026] hp = _
  rw [cal_eq (sb_26_0 hp) rfl rfl (chk_rf _ _ _)]
  rfl
theorem sb_26_1 (hp : HP) : EJ1_charAt_3b067 [.ref 3026, .int (nI 1)] hp = some (nI 97) := by
  show oCal 2 none EJ0_checkIndex_df160 fU (oAld 0 (oIld 1 (oSat (oConst (.int 255) (oiand (oi2c (oCretP))))))) [(0, .ref 3026), (1, .int (nI 1))] [.int (nI 6), .int (nI 1)] hp = _
  rw [cal_eq (sj_ck hp (j := nI 1) (n := nI 6) (by decide) (by decide)) rfl rfl (chk_rf _ _ _)]
  rfl
theorem sc_26_1 (hp : HP) : EJ0_charAt_5068e [.ref 2026, .int (nI 1)] hp = some (nI 97) := by
  show oCal 1 (some 99) EJ0_isLatin1_aae02 fZ (oIfeq (kN) (oAld 0 (oSvl (oIld 1 (oCal 2 none EJ1_charAt_3b067 fI (oCretP)))))) [(0, .ref 2026), (1, .int (nI 1))] [.ref 2026] hp = _
  rw [cal_eq (si_26 hp) rfl rfl (chk_rf _ _ _)]
  show oCal 2 none EJ1_charAt_3b067 fI (oCretP) [(0, .ref 2026), (1, .int (nI 1))] [.int (nI 1), .ref 3026] hp = _
  rw [cal_eq (sb_26_1 hp) rfl rfl (chk_rf _ _ _)]
  rfl
theorem sb_26_2 (hp : HP) : EJ1_charAt_3b067 [.ref 3026, .int (nI 2)] hp = some (nI 108) := by
  show oCal 2 none EJ0_checkIndex_df160 fU (oAld 0 (oIld 1 (oSat (oConst (.int 255) (oiand (oi2c (oCretP))))))) [(0, .ref 3026), (1, .int (nI 2))] [.int (nI 6), .int (nI 2)] hp = _
  rw [cal_eq (sj_ck hp (j := nI 2) (n := nI 6) (by decide) (by decide)) rfl rfl (chk_rf _ _ _)]
  rfl
theorem sc_26_2 (hp : HP) : EJ0_charAt_5068e [.ref 2026, .int (nI 2)] hp = some (nI 108) := by
  show oCal 1 (some 99) EJ0_isLatin1_aae02 fZ (oIfeq (kN) (oAld 0 (oSvl (oIld 1 (oCal 2 none EJ1_charAt_3b067 fI (oCretP)))))) [(0, .ref 2026), (1, .int (nI 2))] [.ref 2026] hp = _
  rw [cal_eq (si_26 hp) rfl rfl (chk_rf _ _ _)]
  show oCal 2 none EJ1_charAt_3b067 fI (oCretP) [(0, .ref 2026), (1, .int (nI 2))] [.int (nI 2), .ref 3026] hp = _
  rw [cal_eq (sb_26_2 hp) rfl rfl (chk_rf _ _ _)]
  rfl
theorem sb_26_3 (hp : HP) : EJ1_charAt_3b067 [.ref 3026, .int (nI 3)] hp = some (nI 107) := by
  show oCal 2 none EJ0_checkIndex_df160 fU (oAld 0 (oIld 1 (oSat (oConst (.int 255) (oiand (oi2c (oCretP))))))) [(0, .ref 3026), (1, .int (nI 3))] [.int (nI 6), .int (nI 3)] hp = _
  rw [cal_eq (sj_ck hp (j := nI 3) (n := nI 6) (by decide) (by decide)) rfl rfl (chk_rf _ _ _)]
  rfl
theorem sc_26_3 (hp : HP) : EJ0_charAt_5068e [.ref 2026, .int (nI 3)] hp = some (nI 107) := by
  show oCal 1 (some 99) EJ0_isLatin1_aae02 fZ (oIfeq (kN) (oAld 0 (oSvl (oIld 1 (oCal 2 none EJ1_charAt_3b067 fI (oCretP)))))) [(0, .ref 2026), (1, .int (nI 3))] [.ref 2026] hp = _
  rw [cal_eq (si_26 hp) rfl rfl (chk_rf _ _ _)]
  show oCal 2 none EJ1_charAt_3b067 fI (oCretP) [(0, .ref 2026), (1, .int (nI 3))] [.int (nI 3), .ref 3026] hp = _
  rw [cal_eq (sb_26_3 hp) rfl rfl (chk_rf _ _ _)]
  rfl
theorem sb_26_4 (hp : HP) : EJ1_charAt_3b067 [.ref 3026, .int (nI 4)] hp = some (nI 101) := by
  show oCal 2 none EJ0_checkIndex_df160 fU (oAld 0 (oIld 1 (oSat (oConst (.int 255) (oiand (oi2c (oCretP))))))) [(0, .ref 3026), (1, .int (nI 4))] [.int (nI 6), .int (nI 4)] hp = _
  rw [cal_eq (sj_ck hp (j := nI 4) (n := nI 6) (by decide) (by decide)) rfl rfl (chk_rf _ _ _)]
  rfl
theorem sc_26_4 (hp : HP) : EJ0_charAt_5068e [.ref 2026, .int (nI 4)] hp = some (nI 101) := by
  show oCal 1 (some 99) EJ0_isLatin1_aae02 fZ (oIfeq (kN) (oAld 0 (oSvl (oIld 1 (oCal 2 none EJ1_charAt_3b067 fI (oCretP)))))) [(0, .ref 2026), (1, .int (nI 4))] [.ref 2026] hp = _
  rw [cal_eq (si_26 hp) rfl rfl (chk_rf _ _ _)]
  show oCal 2 none EJ1_charAt_3b067 fI (oCretP) [(0, .ref 2026), (1, .int (nI 4))] [.int (nI 4), .ref 3026] hp = _
  rw [cal_eq (sb_26_4 hp) rfl rfl (chk_rf _ _ _)]
  rfl
theorem sb_26_5 (hp : HP) : EJ1_charAt_3b067 [.ref 3026, .int (nI 5)] hp = some (nI 114) := by
  show oCal 2 none EJ0_checkIndex_df160 fU (oAld 0 (oIld 1 (oSat (oConst (.int 255) (oiand (oi2c (oCretP))))))) [(0, .ref 3026), (1, .int (nI 5))] [.int (nI 6), .int (nI 5)] hp = _
  rw [cal_eq (sj_ck hp (j := nI 5) (n := nI 6) (by decide) (by decide)) rfl rfl (chk_rf _ _ _)]
  rfl
theorem sc_26_5 (hp : HP) : EJ0_charAt_5068e [.ref 2026, .int (nI 5)] hp = some (nI 114) := by
  show oCal 1 (some 99) EJ0_isLatin1_aae02 fZ (oIfeq (kN) (oAld 0 (oSvl (oIld 1 (oCal 2 none EJ1_charAt_3b067 fI (oCretP)))))) [(0, .ref 2026), (1, .int (nI 5))] [.ref 2026] hp = _
  rw [cal_eq (si_26 hp) rfl rfl (chk_rf _ _ _)]
  show oCal 2 none EJ1_charAt_3b067 fI (oCretP) [(0, .ref 2026), (1, .int (nI 5))] [.int (nI 5), .ref 3026] hp = _
  rw [cal_eq (sb_26_5 hp) rfl rfl (chk_rf _ _ _)]
  rfl
theorem sc_26 (hp : HP) : ∀ k, k < 6 → EJ0_charAt_5068e [.ref 2026, .int (nI k)] hp = some (nI (sx_26 k)) := fun k hk => by
  rcases (by omega : k = 0 ∨ k = 1 ∨ k = 2 ∨ k = 3 ∨ k = 4 ∨ k = 5) with rfl | rfl | rfl | rfl | rfl | rfl
  · exact sc_26_0 hp
  · exact sc_26_1 hp
  · exact sc_26_2 hp
  · exact sc_26_3 hp
  · exact sc_26_4 hp
  · exact sc_26_5 hp
def sx_27 (k : Nat) : Nat := ([108, 101, 102, 116] : List Nat).getD k 0
theorem sd_27 (hp : HP) : EJ0_coder_7d493 [.ref 2027] hp = some 0 := rfl
theorem sl_27 (hp : HP) : EJ0_length_8abf5 [.ref 2027] hp = some (nI 4) := by
  show oCal 1 (some 99) EJ0_coder_7d493 fI (oishr oIretP) [(0, .ref 2027)] [.ref 2027, .int (nI 4)] hp = _
  rw [cal_eq (sd_27 hp) rfl rfl (chk_rf _ _ _)]
  rfl
theorem si_27 (hp : HP) : EJ0_isLatin1_aae02 [.ref 2027] hp = some true := rfl
theorem sb_27_0 (hp : HP) : EJ1_charAt_3b067 [.ref 3027, .int (nI 0)] hp = some (nI 108) := by
  show oCal 2 none EJ0_checkIndex_df160 fU (oAld 0 (oIld 1 (oSat (oConst (.int 255) (oiand (oi2c (oCretP))))))) [(0, .ref 3027), (1, .int (nI 0))] [.int (nI 4), .int (nI 0)] hp = _
  rw [cal_eq (sj_ck hp (j := nI 0) (n := nI 4) (by decide) (by decide)) rfl rfl (chk_rf _ _ _)]
  rfl
theorem sc_27_0 (hp : HP) : EJ0_charAt_5068e [.ref 2027, .int (nI 0)] hp = some (nI 108) := by
  show oCal 1 (some 99) EJ0_isLatin1_aae02 fZ (oIfeq (kN) (oAld 0 (oSvl (oIld 1 (oCal 2 none EJ1_charAt_3b067 fI (oCretP)))))) [(0, .ref 2027), (1, .int (nI 0))] [.ref 2027] hp = _
  rw [cal_eq (si_27 hp) rfl rfl (chk_rf _ _ _)]
  show oCal 2 none EJ1_charAt_3b067 fI (oCretP) [(0, .ref 2027), (1, .int (nI 0))] [.int (nI 0), .ref 3027] hp = _
  rw [cal_eq (sb_27_0 hp) rfl rfl (chk_rf _ _ _)]
  rfl
theorem sb_27_1 (hp : HP) : EJ1_charAt_3b067 [.ref 3027, .int (nI 1)] hp = some (nI 101) := by
  show oCal 2 none EJ0_checkIndex_df160 fU (oAld 0 (oIld 1 (oSat (oConst (.int 255) (oiand (oi2c (oCretP))))))) [(0, .ref 3027), (1, .int (nI 1))] [.int (nI 4), .int (nI 1)] hp = _
  rw [cal_eq (sj_ck hp (j := nI 1) (n := nI 4) (by decide) (by decide)) rfl rfl (chk_rf _ _ _)]
  rfl
theorem sc_27_1 (hp : HP) : EJ0_charAt_5068e [.ref 2027, .int (nI 1)] hp = some (nI 101) := by
  show oCal 1 (some 99) EJ0_isLatin1_aae02 fZ (oIfeq (kN) (oAld 0 (oSvl (oIld 1 (oCal 2 none EJ1_charAt_3b067 fI (oCretP)))))) [(0, .ref 2027), (1, .int (nI 1))] [.ref 2027] hp = _
  rw [cal_eq (si_27 hp) rfl rfl (chk_rf _ _ _)]
  show oCal 2 none EJ1_charAt_3b067 fI (oCretP) [(0, .ref 2027), (1, .int (nI 1))] [.int (nI 1), .ref 3027] hp = _
  rw [cal_eq (sb_27_1 hp) rfl rfl (chk_rf _ _ _)]
  rfl
theorem sb_27_2 (hp : HP) : EJ1_charAt_3b067 [.ref 3027, .int (nI 2)] hp = some (nI 102) := by
  show oCal 2 none EJ0_checkIndex_df160 fU (oAld 0 (oIld 1 (oSat (oConst (.int 255) (oiand (oi2c (oCretP))))))) [(0, .ref 3027), (1, .int (nI 2))] [.int (nI 4), .int (nI 2)] hp = _
  rw [cal_eq (sj_ck hp (j := nI 2) (n := nI 4) (by decide) (by decide)) rfl rfl (chk_rf _ _ _)]
  rfl
theorem sc_27_2 (hp : HP) : EJ0_charAt_5068e [.ref 2027, .int (nI 2)] hp = some (nI 102) := by
  show oCal 1 (some 99) EJ0_isLatin1_aae02 fZ (oIfeq (kN) (oAld 0 (oSvl (oIld 1 (oCal 2 none EJ1_charAt_3b067 fI (oCretP)))))) [(0, .ref 2027), (1, .int (nI 2))] [.ref 2027] hp = _
  rw [cal_eq (si_27 hp) rfl rfl (chk_rf _ _ _)]
  show oCal 2 none EJ1_charAt_3b067 fI (oCretP) [(0, .ref 2027), (1, .int (nI 2))] [.int (nI 2), .ref 3027] hp = _
  rw [cal_eq (sb_27_2 hp) rfl rfl (chk_rf _ _ _)]
  rfl
theorem sb_27_3 (hp : HP) : EJ1_charAt_3b067 [.ref 3027, .int (nI 3)] hp = some (nI 116) := by
  show oCal 2 none EJ0_checkIndex_df160 fU (oAld 0 (oIld 1 (oSat (oConst (.int 255) (oiand (oi2c (oCretP))))))) [(0, .ref 3027), (1, .int (nI 3))] [.int (nI 4), .int (nI 3)] hp = _
  rw [cal_eq (sj_ck hp (j := nI 3) (n := nI 4) (by decide) (by decide)) rfl rfl (chk_rf _ _ _)]
  rfl
theorem sc_27_3 (hp : HP) : EJ0_charAt_5068e [.ref 2027, .int (nI 3)] hp = some (nI 116) := by
  show oCal 1 (some 99) EJ0_isLatin1_aae02 fZ (oIfeq (kN) (oAld 0 (oSvl (oIld 1 (oCal 2 none EJ1_charAt_3b067 fI (oCretP)))))) [(0, .ref 2027), (1, .int (nI 3))] [.ref 2027] hp = _
  rw [cal_eq (si_27 hp) rfl rfl (chk_rf _ _ _)]
  show oCal 2 none EJ1_charAt_3b067 fI (oCretP) [(0, .ref 2027), (1, .int (nI 3))] [.int (nI 3), .ref 3027] hp = _
  rw [cal_eq (sb_27_3 hp) rfl rfl (chk_rf _ _ _)]
  rfl
theorem sc_27 (hp : HP) : ∀ k, k < 4 → EJ0_charAt_5068e [.ref 2027, .int (nI k)] hp = some (nI (sx_27 k)) := fun k hk => by
  rcases (by omega : k = 0 ∨ k = 1 ∨ k = 2 ∨ k = 3) with rfl | rfl | rfl | rfl
  · exact sc_27_0 hp
  · exact sc_27_1 hp
  · exact sc_27_2 hp
  · exact sc_27_3 hp
def sx_28 (k : Nat) : Nat := ([114, 105, 103, 104, 116] : List Nat).getD k 0
theorem sd_28 (hp : HP) : EJ0_coder_7d493 [.ref 2028] hp = some 0 := rfl
theorem sl_28 (hp : HP) : EJ0_length_8abf5 [.ref 2028] hp = some (nI 5) := by
  show oCal 1 (some 99) EJ0_coder_7d493 fI (oishr oIretP) [(0, .ref 2028)] [.ref 2028, .int (nI 5)] hp = _
  rw [cal_eq (sd_28 hp) rfl rfl (chk_rf _ _ _)]
  rfl
theorem si_28 (hp : HP) : EJ0_isLatin1_aae02 [.ref 2028] hp = some true := rfl
theorem sb_28_0 (hp : HP) : EJ1_charAt_3b067 [.ref 3028, .int (nI 0)] hp = some (nI 114) := by
  show oCal 2 none EJ0_checkIndex_df160 fU (oAld 0 (oIld 1 (oSat (oConst (.int 255) (oiand (oi2c (oCretP))))))) [(0, .ref 3028), (1, .int (nI 0))] [.int (nI 5), .int (nI 0)] hp = _
  rw [cal_eq (sj_ck hp (j := nI 0) (n := nI 5) (by decide) (by decide)) rfl rfl (chk_rf _ _ _)]
  rfl
theorem sc_28_0 (hp : HP) : EJ0_charAt_5068e [.ref 2028, .int (nI 0)] hp = some (nI 114) := by
  show oCal 1 (some 99) EJ0_isLatin1_aae02 fZ (oIfeq (kN) (oAld 0 (oSvl (oIld 1 (oCal 2 none EJ1_charAt_3b067 fI (oCretP)))))) [(0, .ref 2028), (1, .int (nI 0))] [.ref 2028] hp = _
  rw [cal_eq (si_28 hp) rfl rfl (chk_rf _ _ _)]
  show oCal 2 none EJ1_charAt_3b067 fI (oCretP) [(0, .ref 2028), (1, .int (nI 0))] [.int (nI 0), .ref 3028] hp = _
  rw [cal_eq (sb_28_0 hp) rfl rfl (chk_rf _ _ _)]
  rfl
theorem sb_28_1 (hp : HP) : EJ1_charAt_3b067 [.ref 3028, .int (nI 1)] hp = some (nI 105) := by
  show oCal 2 none EJ0_checkIndex_df160 fU (oAld 0 (oIld 1 (oSat (oConst (.int 255) (oiand (oi2c (oCretP))))))) [(0, .ref 3028), (1, .int (nI 1))] [.int (nI 5), .int (nI 1)] hp = _
  rw [cal_eq (sj_ck hp (j := nI 1) (n := nI 5) (by decide) (by decide)) rfl rfl (chk_rf _ _ _)]
  rfl
theorem sc_28_1 (hp : HP) : EJ0_charAt_5068e [.ref 2028, .int (nI 1)] hp = some (nI 105) := by
  show oCal 1 (some 99) EJ0_isLatin1_aae02 fZ (oIfeq (kN) (oAld 0 (oSvl (oIld 1 (oCal 2 none EJ1_charAt_3b067 fI (oCretP)))))) [(0, .ref 2028), (1, .int (nI 1))] [.ref 2028] hp = _
  rw [cal_eq (si_28 hp) rfl rfl (chk_rf _ _ _)]
  show oCal 2 none EJ1_charAt_3b067 fI (oCretP) [(0, .ref 2028), (1, .int (nI 1))] [.int (nI 1), .ref 3028] hp = _
  rw [cal_eq (sb_28_1 hp) rfl rfl (chk_rf _ _ _)]
  rfl
theorem sb_28_2 (hp : HP) : EJ1_charAt_3b067 [.ref 3028, .int (nI 2)] hp = some (nI 103) := by
  show oCal 2 none EJ0_checkIndex_df160 fU (oAld 0 (oIld 1 (oSat (oConst (.int 255) (oiand (oi2c (oCretP))))))) [(0, .ref 3028), (1, .int (nI 2))] [.int (nI 5), .int (nI 2)] hp = _
  rw [cal_eq (sj_ck hp (j := nI 2) (n := nI 5) (by decide) (by decide)) rfl rfl (chk_rf _ _ _)]
  rfl
theorem sc_28_2 (hp : HP) : EJ0_charAt_5068e [.ref 2028, .int (nI 2)] hp = some (nI 103) := by
  show oCal 1 (some 99) EJ0_isLatin1_aae02 fZ (oIfeq (kN) (oAld 0 (oSvl (oIld 1 (oCal 2 none EJ1_charAt_3b067 fI (oCretP)))))) [(0, .ref 2028), (1, .int (nI 2))] [.ref 2028] hp = _
  rw [cal_eq (si_28 hp) rfl rfl (chk_rf _ _ _)]
  show oCal 2 none EJ1_charAt_3b067 fI (oCretP) [(0, .ref 2028), (1, .int (nI 2))] [.int (nI 2), .ref 3028] hp = _
  rw [cal_eq (sb_28_2 hp) rfl rfl (chk_rf _ _ _)]
  rfl
theorem sb_28_3 (hp : HP) : EJ1_charAt_3b067 [.ref 3028, .int (nI 3)] hp = some (nI 104) := by
  show oCal 2 none EJ0_checkIndex_df160 fU (oAld 0 (oIld 1 (oSat (oConst (.int 255) (oiand (oi2c (oCretP))))))) [(0, .ref 3028), (1, .int (nI 3))] [.int (nI 5), .int (nI 3)] hp = _
  rw [cal_eq (sj_ck hp (j := nI 3) (n := nI 5) (by decide) (by decide)) rfl rfl (chk_rf _ _ _)]
  rfl
theorem sc_28_3 (hp : HP) : EJ0_charAt_5068e [.ref 2028, .int (nI 3)] hp = some (nI 104) := by
  show oCal 1 (some 99) EJ0_isLatin1_aae02 fZ (oIfeq (kN) (oAld 0 (oSvl (oIld 1 (oCal 2 none EJ1_charAt_3b067 fI (oCretP)))))) [(0, .ref 2028), (1, .int (nI 3))] [.ref 2028] hp = _
  rw [cal_eq (si_28 hp) rfl rfl (chk_rf _ _ _)]
  show oCal 2 none EJ1_charAt_3b067 fI (oCretP) [(0, .ref 2028), (1, .int (nI 3))] [.int (nI 3), .ref 3028] hp = _
  rw [cal_eq (sb_28_3 hp) rfl rfl (chk_rf _ _ _)]
  rfl
theorem sb_28_4 (hp : HP) : EJ1_charAt_3b067 [.ref 3028, .int (nI 4)] hp = some (nI 116) := by
  show oCal 2 none EJ0_checkIndex_df160 fU (oAld 0 (oIld 1 (oSat (oConst (.int 255) (oiand (oi2c (oCretP))))))) [(0, .ref 3028), (1, .int (nI 4))] [.int (nI 5), .int (nI 4)] hp = _
  rw [cal_eq (sj_ck hp (j := nI 4) (n := nI 5) (by decide) (by decide)) rfl rfl (chk_rf _ _ _)]
  rfl
theorem sc_28_4 (hp : HP) : EJ0_charAt_5068e [.ref 2028, .int (nI 4)] hp = some (nI 116) := by
  show oCal 1 (some 99) EJ0_isLatin1_aae02 fZ (oIfeq (kN) (oAld 0 (oSvl (oIld 1 (oCal 2 none EJ1_charAt_3b067 fI (oCretP)))))) [(0, .ref 2028), (1, .int (nI 4))] [.ref 2028] hp = _
  rw [cal_eq (si_28 hp) rfl rfl (chk_rf _ _ _)]
  show oCal 2 none EJ1_charAt_3b067 fI (oCretP) [(0, .ref 2028), (1, .int (nI 4))] [.int (nI 4), .ref 3028] hp = _
  rw [cal_eq (sb_28_4 hp) rfl rfl (chk_rf _ _ _)]
  rfl
theorem sc_28 (hp : HP) : ∀ k, k < 5 → EJ0_charAt_5068e [.ref 2028, .int (nI k)] hp = some (nI (sx_28 k)) := fun k hk => by
  rcases (by omega : k = 0 ∨ k = 1 ∨ k = 2 ∨ k = 3 ∨ k = 4) with rfl | rfl | rfl | rfl | rfl
  · exact sc_28_0 hp
  · exact sc_28_1 hp
  · exact sc_28_2 hp
  · exact sc_28_3 hp
  · exact sc_28_4 hp
def sx_29 (k : Nat) : Nat := ([111, 110, 99, 101] : List Nat).getD k 0
theorem sd_29 (hp : HP) : EJ0_coder_7d493 [.ref 2029] hp = some 0 := rfl
theorem sl_29 (hp : HP) : EJ0_length_8abf5 [.ref 2029] hp = some (nI 4) := by
  show oCal 1 (some 99) EJ0_coder_7d493 fI (oishr oIretP) [(0, .ref 2029)] [.ref 2029, .int (nI 4)] hp = _
  rw [cal_eq (sd_29 hp) rfl rfl (chk_rf _ _ _)]
  rfl
theorem si_29 (hp : HP) : EJ0_isLatin1_aae02 [.ref 2029] hp = some true := rfl
theorem sb_29_0 (hp : HP) : EJ1_charAt_3b067 [.ref 3029, .int (nI 0)] hp = some (nI 111) := by
  show oCal 2 none EJ0_checkIndex_df160 fU (oAld 0 (oIld 1 (oSat (oConst (.int 255) (oiand (oi2c (oCretP))))))) [(0, .ref 3029), (1, .int (nI 0))] [.int (nI 4), .int (nI 0)] hp = _
  rw [cal_eq (sj_ck hp (j := nI 0) (n := nI 4) (by decide) (by decide)) rfl rfl (chk_rf _ _ _)]
  rfl
theorem sc_29_0 (hp : HP) : EJ0_charAt_5068e [.ref 2029, .int (nI 0)] hp = some (nI 111) := by
  show oCal 1 (some 99) EJ0_isLatin1_aae02 fZ (oIfeq (kN) (oAld 0 (oSvl (oIld 1 (oCal 2 none EJ1_charAt_3b067 fI (oCretP)))))) [(0, .ref 2029), (1, .int (nI 0))] [.ref 2029] hp = _
  rw [cal_eq (si_29 hp) rfl rfl (chk_rf _ _ _)]
  show oCal 2 none EJ1_charAt_3b067 fI (oCretP) [(0, .ref 2029), (1, .int (nI 0))] [.int (nI 0), .ref 3029] hp = _
  rw [cal_eq (sb_29_0 hp) rfl rfl (chk_rf _ _ _)]
  rfl
theorem sb_29_1 (hp : HP) : EJ1_charAt_3b067 [.ref 3029, .int (nI 1)] hp = some (nI 110) := by
  show oCal 2 none EJ0_checkIndex_df160 fU (oAld 0 (oIld 1 (oSat (oConst (.int 255) (oiand (oi2c (oCretP))))))) [(0, .ref 3029), (1, .int (nI 1))] [.int (nI 4), .int (nI 1)] hp = _
  rw [cal_eq (sj_ck hp (j := nI 1) (n := nI 4) (by decide) (by decide)) rfl rfl (chk_rf _ _ _)]
  rfl
theorem sc_29_1 (hp : HP) : EJ0_charAt_5068e [.ref 2029, .int (nI 1)] hp = some (nI 110) := by
  show oCal 1 (some 99) EJ0_isLatin1_aae02 fZ (oIfeq (kN) (oAld 0 (oSvl (oIld 1 (oCal 2 none EJ1_charAt_3b067 fI (oCretP)))))) [(0, .ref 2029), (1, .int (nI 1))] [.ref 2029] hp = _
  rw [cal_eq (si_29 hp) rfl rfl (chk_rf _ _ _)]
  show oCal 2 none EJ1_charAt_3b067 fI (oCretP) [(0, .ref 2029), (1, .int (nI 1))] [.int (nI 1), .ref 3029] hp = _
  rw [cal_eq (sb_29_1 hp) rfl rfl (chk_rf _ _ _)]
  rfl
theorem sb_29_2 (hp : HP) : EJ1_charAt_3b067 [.ref 3029, .int (nI 2)] hp = some (nI 99) := by
  show oCal 2 none EJ0_checkIndex_df160 fU (oAld 0 (oIld 1 (oSat (oConst (.int 255) (oiand (oi2c (oCretP))))))) [(0, .ref 3029), (1, .int (nI 2))] [.int (nI 4), .int (nI 2)] hp = _
  rw [cal_eq (sj_ck hp (j := nI 2) (n := nI 4) (by decide) (by decide)) rfl rfl (chk_rf _ _ _)]
  rfl
theorem sc_29_2 (hp : HP) : EJ0_charAt_5068e [.ref 2029, .int (nI 2)] hp = some (nI 99) := by
  show oCal 1 (some 99) EJ0_isLatin1_aae02 fZ (oIfeq (kN) (oAld 0 (oSvl (oIld 1 (oCal 2 none EJ1_charAt_3b067 fI (oCretP)))))) [(0, .ref 2029), (1, .int (nI 2))] [.ref 2029] hp = _
  rw [cal_eq (si_29 hp) rfl rfl (chk_rf _ _ _)]
  show oCal 2 none EJ1_charAt_3b067 fI (oCretP) [(0, .ref 2029), (1, .int (nI 2))] [.int (nI 2), .ref 3029] hp = _
  rw [cal_eq (sb_29_2 hp) rfl rfl (chk_rf _ _ _)]
  rfl
theorem sb_29_3 (hp : HP) : EJ1_charAt_3b067 [.ref 3029, .int (nI 3)] hp = some (nI 101) := by
  show oCal 2 none EJ0_checkIndex_df160 fU (oAld 0 (oIld 1 (oSat (oConst (.int 255) (oiand (oi2c (oCretP))))))) [(0, .ref 3029), (1, .int (nI 3))] [.int (nI 4), .int (nI 3)] hp = _
  rw [cal_eq (sj_ck hp (j := nI 3) (n := nI 4) (by decide) (by decide)) rfl rfl (chk_rf _ _ _)]
  rfl
theorem sc_29_3 (hp : HP) : EJ0_charAt_5068e [.ref 2029, .int (nI 3)] hp = some (nI 101) := by
  show oCal 1 (some 99) EJ0_isLatin1_aae02 fZ (oIfeq (kN) (oAld 0 (oSvl (oIld 1 (oCal 2 none EJ1_charAt_3b067 fI (oCretP)))))) [(0, .ref 2029), (1, .int (nI 3))] [.ref 2029] hp = _
  rw [cal_eq (si_29 hp) rfl rfl (chk_rf _ _ _)]
  show oCal 2 none EJ1_charAt_3b067 fI (oCretP) [(0, .ref 2029), (1, .int (nI 3))] [.int (nI 3), .ref 3029] hp = _
  rw [cal_eq (sb_29_3 hp) rfl rfl (chk_rf _ _ _)]
  rfl
theorem sc_29 (hp : HP) : ∀ k, k < 4 → EJ0_charAt_5068e [.ref 2029, .int (nI k)] hp = some (nI (sx_29 k)) := fun k hk => by
  rcases (by omega : k = 0 ∨ k = 1 ∨ k = 2 ∨ k = 3) with rfl | rfl | rfl | rfl
  · exact sc_29_0 hp
  · exact sc_29_1 hp
  · exact sc_29_2 hp
  · exact sc_29_3 hp
def sx_30 (k : Nat) : Nat := ([99, 111, 119] : List Nat).getD k 0
theorem sd_30 (hp : HP) : EJ0_coder_7d493 [.ref 2030] hp = some 0 := rfl
theorem sl_30 (hp : HP) : EJ0_length_8abf5 [.ref 2030] hp = some (nI 3) := by
  show oCal 1 (some 99) EJ0_coder_7d493 fI (oishr oIretP) [(0, .ref 2030)] [.ref 2030, .int (nI 3)] hp = _
  rw [cal_eq (sd_30 hp) rfl rfl (chk_rf _ _ _)]
  rfl
theorem si_30 (hp : HP) : EJ0_isLatin1_aae02 [.ref 2030] hp = some true := rfl
theorem sb_30_0 (hp : HP) : EJ1_charAt_3b067 [.ref 3030, .int (nI 0)] hp = some (nI 99) := by
  show oCal 2 none EJ0_checkIndex_df160 fU (oAld 0 (oIld 1 (oSat (oConst (.int 255) (oiand (oi2c (oCretP))))))) [(0, .ref 3030), (1, .int (nI 0))] [.int (nI 3), .int (nI 0)] hp = _
  rw [cal_eq (sj_ck hp (j := nI 0) (n := nI 3) (by decide) (by decide)) rfl rfl (chk_rf _ _ _)]
  rfl
theorem sc_30_0 (hp : HP) : EJ0_charAt_5068e [.ref 2030, .int (nI 0)] hp = some (nI 99) := by
  show oCal 1 (some 99) EJ0_isLatin1_aae02 fZ (oIfeq (kN) (oAld 0 (oSvl (oIld 1 (oCal 2 none EJ1_charAt_3b067 fI (oCretP)))))) [(0, .ref 2030), (1, .int (nI 0))] [.ref 2030] hp = _
  rw [cal_eq (si_30 hp) rfl rfl (chk_rf _ _ _)]
  show oCal 2 none EJ1_charAt_3b067 fI (oCretP) [(0, .ref 2030), (1, .int (nI 0))] [.int (nI 0), .ref 3030] hp = _
  rw [cal_eq (sb_30_0 hp) rfl rfl (chk_rf _ _ _)]
  rfl
theorem sb_30_1 (hp : HP) : EJ1_charAt_3b067 [.ref 3030, .int (nI 1)] hp = some (nI 111) := by
  show oCal 2 none EJ0_checkIndex_df160 fU (oAld 0 (oIld 1 (oSat (oConst (.int 255) (oiand (oi2c (oCretP))))))) [(0, .ref 3030), (1, .int (nI 1))] [.int (nI 3), .int (nI 1)] hp = _
  rw [cal_eq (sj_ck hp (j := nI 1) (n := nI 3) (by decide) (by decide)) rfl rfl (chk_rf _ _ _)]
  rfl
theorem sc_30_1 (hp : HP) : EJ0_charAt_5068e [.ref 2030, .int (nI 1)] hp = some (nI 111) := by
  show oCal 1 (some 99) EJ0_isLatin1_aae02 fZ (oIfeq (kN) (oAld 0 (oSvl (oIld 1 (oCal 2 none EJ1_charAt_3b067 fI (oCretP)))))) [(0, .ref 2030), (1, .int (nI 1))] [.ref 2030] hp = _
  rw [cal_eq (si_30 hp) rfl rfl (chk_rf _ _ _)]
  show oCal 2 none EJ1_charAt_3b067 fI (oCretP) [(0, .ref 2030), (1, .int (nI 1))] [.int (nI 1), .ref 3030] hp = _
  rw [cal_eq (sb_30_1 hp) rfl rfl (chk_rf _ _ _)]
  rfl
theorem sb_30_2 (hp : HP) : EJ1_charAt_3b067 [.ref 3030, .int (nI 2)] hp = some (nI 119) := by
  show oCal 2 none EJ0_checkIndex_df160 fU (oAld 0 (oIld 1 (oSat (oConst (.int 255) (oiand (oi2c (oCretP))))))) [(0, .ref 3030), (1, .int (nI 2))] [.int (nI 3), .int (nI 2)] hp = _
  rw [cal_eq (sj_ck hp (j := nI 2) (n := nI 3) (by decide) (by decide)) rfl rfl (chk_rf _ _ _)]
  rfl
theorem sc_30_2 (hp : HP) : EJ0_charAt_5068e [.ref 2030, .int (nI 2)] hp = some (nI 119) := by
  show oCal 1 (some 99) EJ0_isLatin1_aae02 fZ (oIfeq (kN) (oAld 0 (oSvl (oIld 1 (oCal 2 none EJ1_charAt_3b067 fI (oCretP)))))) [(0, .ref 2030), (1, .int (nI 2))] [.ref 2030] hp = _
  rw [cal_eq (si_30 hp) rfl rfl (chk_rf _ _ _)]
  show oCal 2 none EJ1_charAt_3b067 fI (oCretP) [(0, .ref 2030), (1, .int (nI 2))] [.int (nI 2), .ref 3030] hp = _
  rw [cal_eq (sb_30_2 hp) rfl rfl (chk_rf _ _ _)]
  rfl
theorem sc_30 (hp : HP) : ∀ k, k < 3 → EJ0_charAt_5068e [.ref 2030, .int (nI k)] hp = some (nI (sx_30 k)) := fun k hk => by
  rcases (by omega : k = 0 ∨ k = 1 ∨ k = 2) with rfl | rfl | rfl
  · exact sc_30_0 hp
  · exact sc_30_1 hp
  · exact sc_30_2 hp
def sx_31 (k : Nat) : Nat := ([108, 111, 116] : List Nat).getD k 0
theorem sd_31 (hp : HP) : EJ0_coder_7d493 [.ref 2031] hp = some 0 := rfl
theorem sl_31 (hp : HP) : EJ0_length_8abf5 [.ref 2031] hp = some (nI 3) := by
  show oCal 1 (some 99) EJ0_coder_7d493 fI (oishr oIretP) [(0, .ref 2031)] [.ref 2031, .int (nI 3)] hp = _
  rw [cal_eq (sd_31 hp) rfl rfl (chk_rf _ _ _)]
  rfl
theorem si_31 (hp : HP) : EJ0_isLatin1_aae02 [.ref 2031] hp = some true := rfl
theorem sb_31_0 (hp : HP) : EJ1_charAt_3b067 [.ref 3031, .int (nI 0)] hp = some (nI 108) := by
  show oCal 2 none EJ0_checkIndex_df160 fU (oAld 0 (oIld 1 (oSat (oConst (.int 255) (oiand (oi2c (oCretP))))))) [(0, .ref 3031), (1, .int (nI 0))] [.int (nI 3), .int (nI 0)] hp = _
  rw [cal_eq (sj_ck hp (j := nI 0) (n := nI 3) (by decide) (by decide)) rfl rfl (chk_rf _ _ _)]
  rfl
theorem sc_31_0 (hp : HP) : EJ0_charAt_5068e [.ref 2031, .int (nI 0)] hp = some (nI 108) := by
  show oCal 1 (some 99) EJ0_isLatin1_aae02 fZ (oIfeq (kN) (oAld 0 (oSvl (oIld 1 (oCal 2 none EJ1_charAt_3b067 fI (oCretP)))))) [(0, .ref 2031), (1, .int (nI 0))] [.ref 2031] hp = _
  rw [cal_eq (si_31 hp) rfl rfl (chk_rf _ _ _)]
  show oCal 2 none EJ1_charAt_3b067 fI (oCretP) [(0, .ref 2031), (1, .int (nI 0))] [.int (nI 0), .ref 3031] hp = _
  rw [cal_eq (sb_31_0 hp) rfl rfl (chk_rf _ _ _)]
  rfl
theorem sb_31_1 (hp : HP) : EJ1_charAt_3b067 [.ref 3031, .int (nI 1)] hp = some (nI 111) := by
  show oCal 2 none EJ0_checkIndex_df160 fU (oAld 0 (oIld 1 (oSat (oConst (.int 255) (oiand (oi2c (oCretP))))))) [(0, .ref 3031), (1, .int (nI 1))] [.int (nI 3), .int (nI 1)] hp = _
  rw [cal_eq (sj_ck hp (j := nI 1) (n := nI 3) (by decide) (by decide)) rfl rfl (chk_rf _ _ _)]
  rfl
theorem sc_31_1 (hp : HP) : EJ0_charAt_5068e [.ref 2031, .int (nI 1)] hp = some (nI 111) := by
  show oCal 1 (some 99) EJ0_isLatin1_aae02 fZ (oIfeq (kN) (oAld 0 (oSvl (oIld 1 (oCal 2 none EJ1_charAt_3b067 fI (oCretP)))))) [(0, .ref 2031), (1, .int (nI 1))] [.ref 2031] hp = _
  rw [cal_eq (si_31 hp) rfl rfl (chk_rf _ _ _)]
  show oCal 2 none EJ1_charAt_3b067 fI (oCretP) [(0, .ref 2031), (1, .int (nI 1))] [.int (nI 1), .ref 3031] hp = _
  rw [cal_eq (sb_31_1 hp) rfl rfl (chk_rf _ _ _)]
  rfl
theorem sb_31_2 (hp : HP) : EJ1_charAt_3b067 [.ref 3031, .int (nI 2)] hp = some (nI 116) := by
  show oCal 2 none EJ0_checkIndex_df160 fU (oAld 0 (oIld 1 (oSat (oConst (.int 255) (oiand (oi2c (oCretP))))))) [(0, .ref 3031), (1, .int (nI 2))] [.int (nI 3), .int (nI 2)] hp = _
  rw [cal_eq (sj_ck hp (j := nI 2) (n := nI 3) (by decide) (by decide)) rfl rfl (chk_rf _ _ _)]
  rfl
theorem sc_31_2 (hp : HP) : EJ0_charAt_5068e [.ref 2031, .int (nI 2)] hp = some (nI 116) := by
  show oCal 1 (some 99) EJ0_isLatin1_aae02 fZ (oIfeq (kN) (oAld 0 (oSvl (oIld 1 (oCal 2 none EJ1_charAt_3b067 fI (oCretP)))))) [(0, .ref 2031), (1, .int (nI 2))] [.ref 2031] hp = _
  rw [cal_eq (si_31 hp) rfl rfl (chk_rf _ _ _)]
  show oCal 2 none EJ1_charAt_3b067 fI (oCretP) [(0, .ref 2031), (1, .int (nI 2))] [.int (nI 2), .ref 3031] hp = _
  rw [cal_eq (sb_31_2 hp) rfl rfl (chk_rf _ _ _)]
  rfl
theorem sc_31 (hp : HP) : ∀ k, k < 3 → EJ0_charAt_5068e [.ref 2031, .int (nI k)] hp = some (nI (sx_31 k)) := fun k hk => by
  rcases (by omega : k = 0 ∨ k = 1 ∨ k = 2) with rfl | rfl | rfl
  · exact sc_31_0 hp
  · exact sc_31_1 hp
  · exact sc_31_2 hp
def sx_32 (k : Nat) : Nat := ([97, 116] : List Nat).getD k 0
theorem sd_32 (hp : HP) : EJ0_coder_7d493 [.ref 2032] hp = some 0 := rfl
theorem sl_32 (hp : HP) : EJ0_length_8abf5 [.ref 2032] hp = some (nI 2) := by
  show oCal 1 (some 99) EJ0_coder_7d493 fI (oishr oIretP) [(0, .ref 2032)] [.ref 2032, .int (nI 2)] hp = _
  rw [cal_eq (sd_32 hp) rfl rfl (chk_rf _ _ _)]
  rfl
theorem si_32 (hp : HP) : EJ0_isLatin1_aae02 [.ref 2032] hp = some true := rfl
theorem sb_32_0 (hp : HP) : EJ1_charAt_3b067 [.ref 3032, .int (nI 0)] hp = some (nI 97) := by
  show oCal 2 none EJ0_checkIndex_df160 fU (oAld 0 (oIld 1 (oSat (oConst (.int 255) (oiand (oi2c (oCretP))))))) [(0, .ref 3032), (1, .int (nI 0))] [.int (nI 2), .int (nI 0)] hp = _
  rw [cal_eq (sj_ck hp (j := nI 0) (n := nI 2) (by decide) (by decide)) rfl rfl (chk_rf _ _ _)]
  rfl
theorem sc_32_0 (hp : HP) : EJ0_charAt_5068e [.ref 2032, .int (nI 0)] hp = some (nI 97) := by
  show oCal 1 (some 99) EJ0_isLatin1_aae02 fZ (oIfeq (kN) (oAld 0 (oSvl (oIld 1 (oCal 2 none EJ1_charAt_3b067 fI (oCretP)))))) [(0, .ref 2032), (1, .int (nI 0))] [.ref 2032] hp = _
  rw [cal_eq (si_32 hp) rfl rfl (chk_rf _ _ _)]
  show oCal 2 none EJ1_charAt_3b067 fI (oCretP) [(0, .ref 2032), (1, .int (nI 0))] [.int (nI 0), .ref 3032] hp = _
  rw [cal_eq (sb_32_0 hp) rfl rfl (chk_rf _ _ _)]
  rfl
theorem sb_32_1 (hp : HP) : EJ1_charAt_3b067 [.ref 3032, .int (nI 1)] hp = some (nI 116) := by
  show oCal 2 none EJ0_checkIndex_df160 fU (oAld 0 (oIld 1 (oSat (oConst (.int 255) (oiand (oi2c (oCretP))))))) [(0, .ref 3032), (1, .int (nI 1))] [.int (nI 2), .int (nI 1)] hp = _
  rw [cal_eq (sj_ck hp (j := nI 1) (n := nI 2) (by decide) (by decide)) rfl rfl (chk_rf _ _ _)]
  rfl
theorem sc_32_1 (hp : HP) : EJ0_charAt_5068e [.ref 2032, .int (nI 1)] hp = some (nI 116) := by
  show oCal 1 (some 99) EJ0_isLatin1_aae02 fZ (oIfeq (kN) (oAld 0 (oSvl (oIld 1 (oCal 2 none EJ1_charAt_3b067 fI (oCretP)))))) [(0, .ref 2032), (1, .int (nI 1))] [.ref 2032] hp = _
  rw [cal_eq (si_32 hp) rfl rfl (chk_rf _ _ _)]
  show oCal 2 none EJ1_charAt_3b067 fI (oCretP) [(0, .ref 2032), (1, .int (nI 1))] [.int (nI 1), .ref 3032] hp = _
  rw [cal_eq (sb_32_1 hp) rfl rfl (chk_rf _ _ _)]
  rfl
theorem sc_32 (hp : HP) : ∀ k, k < 2 → EJ0_charAt_5068e [.ref 2032, .int (nI k)] hp = some (nI (sx_32 k)) := fun k hk => by
  rcases (by omega : k = 0 ∨ k = 1) with rfl | rfl
  · exact sc_32_0 hp
  · exact sc_32_1 hp
def sx_33 (k : Nat) : Nat := ([102, 97, 99, 101, 115] : List Nat).getD k 0
theorem sd_33 (hp : HP) : EJ0_coder_7d493 [.ref 2033] hp = some 0 := rfl
theorem sl_33 (hp : HP) : EJ0_length_8abf5 [.ref 2033] hp = some (nI 5) := by
  show oCal 1 (some 99) EJ0_coder_7d493 fI (oishr oIretP) [(0, .ref 2033)] [.ref 2033, .int (nI 5)] hp = _
  rw [cal_eq (sd_33 hp) rfl rfl (chk_rf _ _ _)]
  rfl
theorem si_33 (hp : HP) : EJ0_isLatin1_aae02 [.ref 2033] hp = some true := rfl
theorem sb_33_0 (hp : HP) : EJ1_charAt_3b067 [.ref 3033, .int (nI 0)] hp = some (nI 102) := by
  show oCal 2 none EJ0_checkIndex_df160 fU (oAld 0 (oIld 1 (oSat (oConst (.int 255) (oiand (oi2c (oCretP))))))) [(0, .ref 3033), (1, .int (nI 0))] [.int (nI 5), .int (nI 0)] hp = _
  rw [cal_eq (sj_ck hp (j := nI 0) (n := nI 5) (by decide) (by decide)) rfl rfl (chk_rf _ _ _)]
  rfl
theorem sc_33_0 (hp : HP) : EJ0_charAt_5068e [.ref 2033, .int (nI 0)] hp = some (nI 102) := by
  show oCal 1 (some 99) EJ0_isLatin1_aae02 fZ (oIfeq (kN) (oAld 0 (oSvl (oIld 1 (oCal 2 none EJ1_charAt_3b067 fI (oCretP)))))) [(0, .ref 2033), (1, .int (nI 0))] [.ref 2033] hp = _
  rw [cal_eq (si_33 hp) rfl rfl (chk_rf _ _ _)]
  show oCal 2 none EJ1_charAt_3b067 fI (oCretP) [(0, .ref 2033), (1, .int (nI 0))] [.int (nI 0), .ref 3033] hp = _
  rw [cal_eq (sb_33_0 hp) rfl rfl (chk_rf _ _ _)]
  rfl
theorem sb_33_1 (hp : HP) : EJ1_charAt_3b067 [.ref 3033, .int (nI 1)] hp = some (nI 97) := by
  show oCal 2 none EJ0_checkIndex_df160 fU (oAld 0 (oIld 1 (oSat (oConst (.int 255) (oiand (oi2c (oCretP))))))) [(0, .ref 3033), (1, .int (nI 1))] [.int (nI 5), .int (nI 1)] hp = _
  rw [cal_eq (sj_ck hp (j := nI 1) (n := nI 5) (by decide) (by decide)) rfl rfl (chk_rf _ _ _)]
  rfl
theorem sc_33_1 (hp : HP) : EJ0_charAt_5068e [.ref 2033, .int (nI 1)] hp = some (nI 97) := by
  show oCal 1 (some 99) EJ0_isLatin1_aae02 fZ (oIfeq (kN) (oAld 0 (oSvl (oIld 1 (oCal 2 none EJ1_charAt_3b067 fI (oCretP)))))) [(0, .ref 2033), (1, .int (nI 1))] [.ref 2033] hp = _
  rw [cal_eq (si_33 hp) rfl rfl (chk_rf _ _ _)]
  show oCal 2 none EJ1_charAt_3b067 fI (oCretP) [(0, .ref 2033), (1, .int (nI 1))] [.int (nI 1), .ref 3033] hp = _
  rw [cal_eq (sb_33_1 hp) rfl rfl (chk_rf _ _ _)]
  rfl
theorem sb_33_2 (hp : HP) : EJ1_charAt_3b067 [.ref 3033, .int (nI 2)] hp = some (nI 99) := by
  show oCal 2 none EJ0_checkIndex_df160 fU (oAld 0 (oIld 1 (oSat (oConst (.int 255) (oiand (oi2c (oCretP))))))) [(0, .ref 3033), (1, .int (nI 2))] [.int (nI 5), .int (nI 2)] hp = _
  rw [cal_eq (sj_ck hp (j := nI 2) (n := nI 5) (by decide) (by decide)) rfl rfl (chk_rf _ _ _)]
  rfl
theorem sc_33_2 (hp : HP) : EJ0_charAt_5068e [.ref 2033, .int (nI 2)] hp = some (nI 99) := by
  show oCal 1 (some 99) EJ0_isLatin1_aae02 fZ (oIfeq (kN) (oAld 0 (oSvl (oIld 1 (oCal 2 none EJ1_charAt_3b067 fI (oCretP)))))) [(0, .ref 2033), (1, .int (nI 2))] [.ref 2033] hp = _
  rw [cal_eq (si_33 hp) rfl rfl (chk_rf _ _ _)]
  show oCal 2 none EJ1_charAt_3b067 fI (oCretP) [(0, .ref 2033), (1, .int (nI 2))] [.int (nI 2), .ref 3033] hp = _
  rw [cal_eq (sb_33_2 hp) rfl rfl (chk_rf _ _ _)]
  rfl
theorem sb_33_3 (hp : HP) : EJ1_charAt_3b067 [.ref 3033, .int (nI 3)] hp = some (nI 101) := by
  show oCal 2 none EJ0_checkIndex_df160 fU (oAld 0 (oIld 1 (oSat (oConst (.int 255) (oiand (oi2c (oCretP))))))) [(0, .ref 3033), (1, .int (nI 3))] [.int (nI 5), .int (nI 3)] hp = _
  rw [cal_eq (sj_ck hp (j := nI 3) (n := nI 5) (by decide) (by decide)) rfl rfl (chk_rf _ _ _)]
  rfl
theorem sc_33_3 (hp : HP) : EJ0_charAt_5068e [.ref 2033, .int (nI 3)] hp = some (nI 101) := by
  show oCal 1 (some 99) EJ0_isLatin1_aae02 fZ (oIfeq (kN) (oAld 0 (oSvl (oIld 1 (oCal 2 none EJ1_charAt_3b067 fI (oCretP)))))) [(0, .ref 2033), (1, .int (nI 3))] [.ref 2033] hp = _
  rw [cal_eq (si_33 hp) rfl rfl (chk_rf _ _ _)]
  show oCal 2 none EJ1_charAt_3b067 fI (oCretP) [(0, .ref 2033), (1, .int (nI 3))] [.int (nI 3), .ref 3033] hp = _
  rw [cal_eq (sb_33_3 hp) rfl rfl (chk_rf _ _ _)]
  rfl
theorem sb_33_4 (hp : HP) : EJ1_charAt_3b067 [.ref 3033, .int (nI 4)] hp = some (nI 115) := by
  show oCal 2 none EJ0_checkIndex_df160 fU (oAld 0 (oIld 1 (oSat (oConst (.int 255) (oiand (oi2c (oCretP))))))) [(0, .ref 3033), (1, .int (nI 4))] [.int (nI 5), .int (nI 4)] hp = _
  rw [cal_eq (sj_ck hp (j := nI 4) (n := nI 5) (by decide) (by decide)) rfl rfl (chk_rf _ _ _)]
  rfl
theorem sc_33_4 (hp : HP) : EJ0_charAt_5068e [.ref 2033, .int (nI 4)] hp = some (nI 115) := by
  show oCal 1 (some 99) EJ0_isLatin1_aae02 fZ (oIfeq (kN) (oAld 0 (oSvl (oIld 1 (oCal 2 none EJ1_charAt_3b067 fI (oCretP)))))) [(0, .ref 2033), (1, .int (nI 4))] [.ref 2033] hp = _
  rw [cal_eq (si_33 hp) rfl rfl (chk_rf _ _ _)]
  show oCal 2 none EJ1_charAt_3b067 fI (oCretP) [(0, .ref 2033), (1, .int (nI 4))] [.int (nI 4), .ref 3033] hp = _
  rw [cal_eq (sb_33_4 hp) rfl rfl (chk_rf _ _ _)]
  rfl
theorem sc_33 (hp : HP) : ∀ k, k < 5 → EJ0_charAt_5068e [.ref 2033, .int (nI k)] hp = some (nI (sx_33 k)) := fun k hk => by
  rcases (by omega : k = 0 ∨ k = 1 ∨ k = 2 ∨ k = 3 ∨ k = 4) with rfl | rfl | rfl | rfl | rfl
  · exact sc_33_0 hp
  · exact sc_33_1 hp
  · exact sc_33_2 hp
  · exact sc_33_3 hp
  · exact sc_33_4 hp
def sx_34 (k : Nat) : Nat := ([110, 111, 114, 116, 104] : List Nat).getD k 0
theorem sd_34 (hp : HP) : EJ0_coder_7d493 [.ref 2034] hp = some 0 := rfl
theorem sl_34 (hp : HP) : EJ0_length_8abf5 [.ref 2034] hp = some (nI 5) := by
  show oCal 1 (some 99) EJ0_coder_7d493 fI (oishr oIretP) [(0, .ref 2034)] [.ref 2034, .int (nI 5)] hp = _
  rw [cal_eq (sd_34 hp) rfl rfl (chk_rf _ _ _)]
  rfl
theorem si_34 (hp : HP) : EJ0_isLatin1_aae02 [.ref 2034] hp = some true := rfl
theorem sb_34_0 (hp : HP) : EJ1_charAt_3b067 [.ref 3034, .int (nI 0)] hp = some (nI 110) := by
  show oCal 2 none EJ0_checkIndex_df160 fU (oAld 0 (oIld 1 (oSat (oConst (.int 255) (oiand (oi2c (oCretP))))))) [(0, .ref 3034), (1, .int (nI 0))] [.int (nI 5), .int (nI 0)] hp = _
  rw [cal_eq (sj_ck hp (j := nI 0) (n := nI 5) (by decide) (by decide)) rfl rfl (chk_rf _ _ _)]
  rfl
theorem sc_34_0 (hp : HP) : EJ0_charAt_5068e [.ref 2034, .int (nI 0)] hp = some (nI 110) := by
  show oCal 1 (some 99) EJ0_isLatin1_aae02 fZ (oIfeq (kN) (oAld 0 (oSvl (oIld 1 (oCal 2 none EJ1_charAt_3b067 fI (oCretP)))))) [(0, .ref 2034), (1, .int (nI 0))] [.ref 2034] hp = _
  rw [cal_eq (si_34 hp) rfl rfl (chk_rf _ _ _)]
  show oCal 2 none EJ1_charAt_3b067 fI (oCretP) [(0, .ref 2034), (1, .int (nI 0))] [.int (nI 0), .ref 3034] hp = _
  rw [cal_eq (sb_34_0 hp) rfl rfl (chk_rf _ _ _)]
  rfl
theorem sb_34_1 (hp : HP) : EJ1_charAt_3b067 [.ref 3034, .int (nI 1)] hp = some (nI 111) := by
  show oCal 2 none EJ0_checkIndex_df160 fU (oAld 0 (oIld 1 (oSat (oConst (.int 255) (oiand (oi2c (oCretP))))))) [(0, .ref 3034), (1, .int (nI 1))] [.int (nI 5), .int (nI 1)] hp = _
  rw [cal_eq (sj_ck hp (j := nI 1) (n := nI 5) (by decide) (by decide)) rfl rfl (chk_rf _ _ _)]
  rfl
theorem sc_34_1 (hp : HP) : EJ0_charAt_5068e [.ref 2034, .int (nI 1)] hp = some (nI 111) := by
  show oCal 1 (some 99) EJ0_isLatin1_aae02 fZ (oIfeq (kN) (oAld 0 (oSvl (oIld 1 (oCal 2 none EJ1_charAt_3b067 fI (oCretP)))))) [(0, .ref 2034), (1, .int (nI 1))] [.ref 2034] hp = _
  rw [cal_eq (si_34 hp) rfl rfl (chk_rf _ _ _)]
  show oCal 2 none EJ1_charAt_3b067 fI (oCretP) [(0, .ref 2034), (1, .int (nI 1))] [.int (nI 1), .ref 3034] hp = _
  rw [cal_eq (sb_34_1 hp) rfl rfl (chk_rf _ _ _)]
  rfl
theorem sb_34_2 (hp : HP) : EJ1_charAt_3b067 [.ref 3034, .int (nI 2)] hp = some (nI 114) := by
  show oCal 2 none EJ0_checkIndex_df160 fU (oAld 0 (oIld 1 (oSat (oConst (.int 255) (oiand (oi2c (oCretP))))))) [(0, .ref 3034), (1, .int (nI 2))] [.int (nI 5), .int (nI 2)] hp = _
  rw [cal_eq (sj_ck hp (j := nI 2) (n := nI 5) (by decide) (by decide)) rfl rfl (chk_rf _ _ _)]
  rfl
theorem sc_34_2 (hp : HP) : EJ0_charAt_5068e [.ref 2034, .int (nI 2)] hp = some (nI 114) := by
  show oCal 1 (some 99) EJ0_isLatin1_aae02 fZ (oIfeq (kN) (oAld 0 (oSvl (oIld 1 (oCal 2 none EJ1_charAt_3b067 fI (oCretP)))))) [(0, .ref 2034), (1, .int (nI 2))] [.ref 2034] hp = _
  rw [cal_eq (si_34 hp) rfl rfl (chk_rf _ _ _)]
  show oCal 2 none EJ1_charAt_3b067 fI (oCretP) [(0, .ref 2034), (1, .int (nI 2))] [.int (nI 2), .ref 3034] hp = _
  rw [cal_eq (sb_34_2 hp) rfl rfl (chk_rf _ _ _)]
  rfl
theorem sb_34_3 (hp : HP) : EJ1_charAt_3b067 [.ref 3034, .int (nI 3)] hp = some (nI 116) := by
  show oCal 2 none EJ0_checkIndex_df160 fU (oAld 0 (oIld 1 (oSat (oConst (.int 255) (oiand (oi2c (oCretP))))))) [(0, .ref 3034), (1, .int (nI 3))] [.int (nI 5), .int (nI 3)] hp = _
  rw [cal_eq (sj_ck hp (j := nI 3) (n := nI 5) (by decide) (by decide)) rfl rfl (chk_rf _ _ _)]
  rfl
theorem sc_34_3 (hp : HP) : EJ0_charAt_5068e [.ref 2034, .int (nI 3)] hp = some (nI 116) := by
  show oCal 1 (some 99) EJ0_isLatin1_aae02 fZ (oIfeq (kN) (oAld 0 (oSvl (oIld 1 (oCal 2 none EJ1_charAt_3b067 fI (oCretP)))))) [(0, .ref 2034), (1, .int (nI 3))] [.ref 2034] hp = _
  rw [cal_eq (si_34 hp) rfl rfl (chk_rf _ _ _)]
  show oCal 2 none EJ1_charAt_3b067 fI (oCretP) [(0, .ref 2034), (1, .int (nI 3))] [.int (nI 3), .ref 3034] hp = _
  rw [cal_eq (sb_34_3 hp) rfl rfl (chk_rf _ _ _)]
  rfl
theorem sb_34_4 (hp : HP) : EJ1_charAt_3b067 [.ref 3034, .int (nI 4)] hp = some (nI 104) := by
  show oCal 2 none EJ0_checkIndex_df160 fU (oAld 0 (oIld 1 (oSat (oConst (.int 255) (oiand (oi2c (oCretP))))))) [(0, .ref 3034), (1, .int (nI 4))] [.int (nI 5), .int (nI 4)] hp = _
  rw [cal_eq (sj_ck hp (j := nI 4) (n := nI 5) (by decide) (by decide)) rfl rfl (chk_rf _ _ _)]
  rfl
theorem sc_34_4 (hp : HP) : EJ0_charAt_5068e [.ref 2034, .int (nI 4)] hp = some (nI 104) := by
  show oCal 1 (some 99) EJ0_isLatin1_aae02 fZ (oIfeq (kN) (oAld 0 (oSvl (oIld 1 (oCal 2 none EJ1_charAt_3b067 fI (oCretP)))))) [(0, .ref 2034), (1, .int (nI 4))] [.ref 2034] hp = _
  rw [cal_eq (si_34 hp) rfl rfl (chk_rf _ _ _)]
  show oCal 2 none EJ1_charAt_3b067 fI (oCretP) [(0, .ref 2034), (1, .int (nI 4))] [.int (nI 4), .ref 3034] hp = _
  rw [cal_eq (sb_34_4 hp) rfl rfl (chk_rf _ _ _)]
  rfl
theorem sc_34 (hp : HP) : ∀ k, k < 5 → EJ0_charAt_5068e [.ref 2034, .int (nI k)] hp = some (nI (sx_34 k)) := fun k hk => by
  rcases (by omega : k = 0 ∨ k = 1 ∨ k = 2 ∨ k = 3 ∨ k = 4) with rfl | rfl | rfl | rfl | rfl
  · exact sc_34_0 hp
  · exact sc_34_1 hp
  · exact sc_34_2 hp
  · exact sc_34_3 hp
  · exact sc_34_4 hp
def sx_35 (k : Nat) : Nat := ([101, 97, 115, 116] : List Nat).getD k 0
theorem sd_35 (hp : HP) : EJ0_coder_7d493 [.ref 2035] hp = some 0 := rfl
theorem sl_35 (hp : HP) : EJ0_length_8abf5 [.ref 2035] hp = some (nI 4) := by
  show oCal 1 (some 99) EJ0_coder_7d493 fI (oishr oIretP) [(0, .ref 2035)] [.ref 2035, .int (nI 4)] hp = _
  rw [cal_eq (sd_35 hp) rfl rfl (chk_rf _ _ _)]
  rfl
theorem si_35 (hp : HP) : EJ0_isLatin1_aae02 [.ref 2035] hp = some true := rfl
theorem sb_35_0 (hp : HP) : EJ1_charAt_3b067 [.ref 3035, .int (nI 0)] hp = some (nI 101) := by
  show oCal 2 none EJ0_checkIndex_df160 fU (oAld 0 (oIld 1 (oSat (oConst (.int 255) (oiand (oi2c (oCretP))))))) [(0, .ref 3035), (1, .int (nI 0))] [.int (nI 4), .int (nI 0)] hp = _
  rw [cal_eq (sj_ck hp (j := nI 0) (n := nI 4) (by decide) (by decide)) rfl rfl (chk_rf _ _ _)]
  rfl
theorem sc_35_0 (hp : HP) : EJ0_charAt_5068e [.ref 2035, .int (nI 0)] hp = some (nI 101) := by
  show oCal 1 (some 99) EJ0_isLatin1_aae02 fZ (oIfeq (kN) (oAld 0 (oSvl (oIld 1 (oCal 2 none EJ1_charAt_3b067 fI (oCretP)))))) [(0, .ref 2035), (1, .int (nI 0))] [.ref 2035] hp = _
  rw [cal_eq (si_35 hp) rfl rfl (chk_rf _ _ _)]
  show oCal 2 none EJ1_charAt_3b067 fI (oCretP) [(0, .ref 2035), (1, .int (nI 0))] [.int (nI 0), .ref 3035] hp = _
  rw [cal_eq (sb_35_0 hp) rfl rfl (chk_rf _ _ _)]
  rfl
theorem sb_35_1 (hp : HP) : EJ1_charAt_3b067 [.ref 3035, .int (nI 1)] hp = some (nI 97) := by
  show oCal 2 none EJ0_checkIndex_df160 fU (oAld 0 (oIld 1 (oSat (oConst (.int 255) (oiand (oi2c (oCretP))))))) [(0, .ref 3035), (1, .int (nI 1))] [.int (nI 4), .int (nI 1)] hp = _
  rw [cal_eq (sj_ck hp (j := nI 1) (n := nI 4) (by decide) (by decide)) rfl rfl (chk_rf _ _ _)]
  rfl
theorem sc_35_1 (hp : HP) : EJ0_charAt_5068e [.ref 2035, .int (nI 1)] hp = some (nI 97) := by
  show oCal 1 (some 99) EJ0_isLatin1_aae02 fZ (oIfeq (kN) (oAld 0 (oSvl (oIld 1 (oCal 2 none EJ1_charAt_3b067 fI (oCretP)))))) [(0, .ref 2035), (1, .int (nI 1))] [.ref 2035] hp = _
  rw [cal_eq (si_35 hp) rfl rfl (chk_rf _ _ _)]
  show oCal 2 none EJ1_charAt_3b067 fI (oCretP) [(0, .ref 2035), (1, .int (nI 1))] [.int (nI 1), .ref 3035] hp = _
  rw [cal_eq (sb_35_1 hp) rfl rfl (chk_rf _ _ _)]
  rfl
theorem sb_35_2 (hp : HP) : EJ1_charAt_3b067 [.ref 3035, .int (nI 2)] hp = some (nI 115) := by
  show oCal 2 none EJ0_checkIndex_df160 fU (oAld 0 (oIld 1 (oSat (oConst (.int 255) (oiand (oi2c (oCretP))))))) [(0, .ref 3035), (1, .int (nI 2))] [.int (nI 4), .int (nI 2)] hp = _
  rw [cal_eq (sj_ck hp (j := nI 2) (n := nI 4) (by decide) (by decide)) rfl rfl (chk_rf _ _ _)]
  rfl
theorem sc_35_2 (hp : HP) : EJ0_charAt_5068e [.ref 2035, .int (nI 2)] hp = some (nI 115) := by
  show oCal 1 (some 99) EJ0_isLatin1_aae02 fZ (oIfeq (kN) (oAld 0 (oSvl (oIld 1 (oCal 2 none EJ1_charAt_3b067 fI (oCretP)))))) [(0, .ref 2035), (1, .int (nI 2))] [.ref 2035] hp = _
  rw [cal_eq (si_35 hp) rfl rfl (chk_rf _ _ _)]
  show oCal 2 none EJ1_charAt_3b067 fI (oCretP) [(0, .ref 2035), (1, .int (nI 2))] [.int (nI 2), .ref 3035] hp = _
  rw [cal_eq (sb_35_2 hp) rfl rfl (chk_rf _ _ _)]
  rfl
theorem sb_35_3 (hp : HP) : EJ1_charAt_3b067 [.ref 3035, .int (nI 3)] hp = some (nI 116) := by
  show oCal 2 none EJ0_checkIndex_df160 fU (oAld 0 (oIld 1 (oSat (oConst (.int 255) (oiand (oi2c (oCretP))))))) [(0, .ref 3035), (1, .int (nI 3))] [.int (nI 4), .int (nI 3)] hp = _
  rw [cal_eq (sj_ck hp (j := nI 3) (n := nI 4) (by decide) (by decide)) rfl rfl (chk_rf _ _ _)]
  rfl
theorem sc_35_3 (hp : HP) : EJ0_charAt_5068e [.ref 2035, .int (nI 3)] hp = some (nI 116) := by
  show oCal 1 (some 99) EJ0_isLatin1_aae02 fZ (oIfeq (kN) (oAld 0 (oSvl (oIld 1 (oCal 2 none EJ1_charAt_3b067 fI (oCretP)))))) [(0, .ref 2035), (1, .int (nI 3))] [.ref 2035] hp = _
  rw [cal_eq (si_35 hp) rfl rfl (chk_rf _ _ _)]
  show oCal 2 none EJ1_charAt_3b067 fI (oCretP) [(0, .ref 2035), (1, .int (nI 3))] [.int (nI 3), .ref 3035] hp = _
  rw [cal_eq (sb_35_3 hp) rfl rfl (chk_rf _ _ _)]
  rfl
theorem sc_35 (hp : HP) : ∀ k, k < 4 → EJ0_charAt_5068e [.ref 2035, .int (nI k)] hp = some (nI (sx_35 k)) := fun k hk => by
  rcases (by omega : k = 0 ∨ k = 1 ∨ k = 2 ∨ k = 3) with rfl | rfl | rfl | rfl
  · exact sc_35_0 hp
  · exact sc_35_1 hp
  · exact sc_35_2 hp
  · exact sc_35_3 hp
def sx_36 (k : Nat) : Nat := ([115, 111, 117, 116, 104] : List Nat).getD k 0
theorem sd_36 (hp : HP) : EJ0_coder_7d493 [.ref 2036] hp = some 0 := rfl
theorem sl_36 (hp : HP) : EJ0_length_8abf5 [.ref 2036] hp = some (nI 5) := by
  show oCal 1 (some 99) EJ0_coder_7d493 fI (oishr oIretP) [(0, .ref 2036)] [.ref 2036, .int (nI 5)] hp = _
  rw [cal_eq (sd_36 hp) rfl rfl (chk_rf _ _ _)]
  rfl
theorem si_36 (hp : HP) : EJ0_isLatin1_aae02 [.ref 2036] hp = some true := rfl
theorem sb_36_0 (hp : HP) : EJ1_charAt_3b067 [.ref 3036, .int (nI 0)] hp = some (nI 115) := by
  show oCal 2 none EJ0_checkIndex_df160 fU (oAld 0 (oIld 1 (oSat (oConst (.int 255) (oiand (oi2c (oCretP))))))) [(0, .ref 3036), (1, .int (nI 0))] [.int (nI 5), .int (nI 0)] hp = _
  rw [cal_eq (sj_ck hp (j := nI 0) (n := nI 5) (by decide) (by decide)) rfl rfl (chk_rf _ _ _)]
  rfl
theorem sc_36_0 (hp : HP) : EJ0_charAt_5068e [.ref 2036, .int (nI 0)] hp = some (nI 115) := by
  show oCal 1 (some 99) EJ0_isLatin1_aae02 fZ (oIfeq (kN) (oAld 0 (oSvl (oIld 1 (oCal 2 none EJ1_charAt_3b067 fI (oCretP)))))) [(0, .ref 2036), (1, .int (nI 0))] [.ref 2036] hp = _
  rw [cal_eq (si_36 hp) rfl rfl (chk_rf _ _ _)]
  show oCal 2 none EJ1_charAt_3b067 fI (oCretP) [(0, .ref 2036), (1, .int (nI 0))] [.int (nI 0), .ref 3036] hp = _
  rw [cal_eq (sb_36_0 hp) rfl rfl (chk_rf _ _ _)]
  rfl
theorem sb_36_1 (hp : HP) : EJ1_charAt_3b067 [.ref 3036, .int (nI 1)] hp = some (nI 111) := by
  show oCal 2 none EJ0_checkIndex_df160 fU (oAld 0 (oIld 1 (oSat (oConst (.int 255) (oiand (oi2c (oCretP))))))) [(0, .ref 3036), (1, .int (nI 1))] [.int (nI 5), .int (nI 1)] hp = _
  rw [cal_eq (sj_ck hp (j := nI 1) (n := nI 5) (by decide) (by decide)) rfl rfl (chk_rf _ _ _)]
  rfl
theorem sc_36_1 (hp : HP) : EJ0_charAt_5068e [.ref 2036, .int (nI 1)] hp = some (nI 111) := by
  show oCal 1 (some 99) EJ0_isLatin1_aae02 fZ (oIfeq (kN) (oAld 0 (oSvl (oIld 1 (oCal 2 none EJ1_charAt_3b067 fI (oCretP)))))) [(0, .ref 2036), (1, .int (nI 1))] [.ref 2036] hp = _
  rw [cal_eq (si_36 hp) rfl rfl (chk_rf _ _ _)]
  show oCal 2 none EJ1_charAt_3b067 fI (oCretP) [(0, .ref 2036), (1, .int (nI 1))] [.int (nI 1), .ref 3036] hp = _
  rw [cal_eq (sb_36_1 hp) rfl rfl (chk_rf _ _ _)]
  rfl
theorem sb_36_2 (hp : HP) : EJ1_charAt_3b067 [.ref 3036, .int (nI 2)] hp = some (nI 117) := by
  show oCal 2 none EJ0_checkIndex_df160 fU (oAld 0 (oIld 1 (oSat (oConst (.int 255) (oiand (oi2c (oCretP))))))) [(0, .ref 3036), (1, .int (nI 2))] [.int (nI 5), .int (nI 2)] hp = _
  rw [cal_eq (sj_ck hp (j := nI 2) (n := nI 5) (by decide) (by decide)) rfl rfl (chk_rf _ _ _)]
  rfl
theorem sc_36_2 (hp : HP) : EJ0_charAt_5068e [.ref 2036, .int (nI 2)] hp = some (nI 117) := by
  show oCal 1 (some 99) EJ0_isLatin1_aae02 fZ (oIfeq (kN) (oAld 0 (oSvl (oIld 1 (oCal 2 none EJ1_charAt_3b067 fI (oCretP)))))) [(0, .ref 2036), (1, .int (nI 2))] [.ref 2036] hp = _
  rw [cal_eq (si_36 hp) rfl rfl (chk_rf _ _ _)]
  show oCal 2 none EJ1_charAt_3b067 fI (oCretP) [(0, .ref 2036), (1, .int (nI 2))] [.int (nI 2), .ref 3036] hp = _
  rw [cal_eq (sb_36_2 hp) rfl rfl (chk_rf _ _ _)]
  rfl
theorem sb_36_3 (hp : HP) : EJ1_charAt_3b067 [.ref 3036, .int (nI 3)] hp = some (nI 116) := by
  show oCal 2 none EJ0_checkIndex_df160 fU (oAld 0 (oIld 1 (oSat (oConst (.int 255) (oiand (oi2c (oCretP))))))) [(0, .ref 3036), (1, .int (nI 3))] [.int (nI 5), .int (nI 3)] hp = _
  rw [cal_eq (sj_ck hp (j := nI 3) (n := nI 5) (by decide) (by decide)) rfl rfl (chk_rf _ _ _)]
  rfl
theorem sc_36_3 (hp : HP) : EJ0_charAt_5068e [.ref 2036, .int (nI 3)] hp = some (nI 116) := by
  show oCal 1 (some 99) EJ0_isLatin1_aae02 fZ (oIfeq (kN) (oAld 0 (oSvl (oIld 1 (oCal 2 none EJ1_charAt_3b067 fI (oCretP)))))) [(0, .ref 2036), (1, .int (nI 3))] [.ref 2036] hp = _
  rw [cal_eq (si_36 hp) rfl rfl (chk_rf _ _ _)]
  show oCal 2 none EJ1_charAt_3b067 fI (oCretP) [(0, .ref 2036), (1, .int (nI 3))] [.int (nI 3), .ref 3036] hp = _
  rw [cal_eq (sb_36_3 hp) rfl rfl (chk_rf _ _ _)]
  rfl
theorem sb_36_4 (hp : HP) : EJ1_charAt_3b067 [.ref 3036, .int (nI 4)] hp = some (nI 104) := by
  show oCal 2 none EJ0_checkIndex_df160 fU (oAld 0 (oIld 1 (oSat (oConst (.int 255) (oiand (oi2c (oCretP))))))) [(0, .ref 3036), (1, .int (nI 4))] [.int (nI 5), .int (nI 4)] hp = _
  rw [cal_eq (sj_ck hp (j := nI 4) (n := nI 5) (by decide) (by decide)) rfl rfl (chk_rf _ _ _)]
  rfl
theorem sc_36_4 (hp : HP) : EJ0_charAt_5068e [.ref 2036, .int (nI 4)] hp = some (nI 104) := by
  show oCal 1 (some 99) EJ0_isLatin1_aae02 fZ (oIfeq (kN) (oAld 0 (oSvl (oIld 1 (oCal 2 none EJ1_charAt_3b067 fI (oCretP)))))) [(0, .ref 2036), (1, .int (nI 4))] [.ref 2036] hp = _
  rw [cal_eq (si_36 hp) rfl rfl (chk_rf _ _ _)]
  show oCal 2 none EJ1_charAt_3b067 fI (oCretP) [(0, .ref 2036), (1, .int (nI 4))] [.int (nI 4), .ref 3036] hp = _
  rw [cal_eq (sb_36_4 hp) rfl rfl (chk_rf _ _ _)]
  rfl
theorem sc_36 (hp : HP) : ∀ k, k < 5 → EJ0_charAt_5068e [.ref 2036, .int (nI k)] hp = some (nI (sx_36 k)) := fun k hk => by
  rcases (by omega : k = 0 ∨ k = 1 ∨ k = 2 ∨ k = 3 ∨ k = 4) with rfl | rfl | rfl | rfl | rfl
  · exact sc_36_0 hp
  · exact sc_36_1 hp
  · exact sc_36_2 hp
  · exact sc_36_3 hp
  · exact sc_36_4 hp
def sx_37 (k : Nat) : Nat := ([119, 101, 115, 116] : List Nat).getD k 0
theorem sd_37 (hp : HP) : EJ0_coder_7d493 [.ref 2037] hp = some 0 := rfl
theorem sl_37 (hp : HP) : EJ0_length_8abf5 [.ref 2037] hp = some (nI 4) := by
  show oCal 1 (some 99) EJ0_coder_7d493 fI (oishr oIretP) [(0, .ref 2037)] [.ref 2037, .int (nI 4)] hp = _
  rw [cal_eq (sd_37 hp) rfl rfl (chk_rf _ _ _)]
  rfl
theorem si_37 (hp : HP) : EJ0_isLatin1_aae02 [.ref 2037] hp = some true := rfl
theorem sb_37_0 (hp : HP) : EJ1_charAt_3b067 [.ref 3037, .int (nI 0)] hp = some (nI 119) := by
  show oCal 2 none EJ0_checkIndex_df160 fU (oAld 0 (oIld 1 (oSat (oConst (.int 255) (oiand (oi2c (oCretP))))))) [(0, .ref 3037), (1, .int (nI 0))] [.int (nI 4), .int (nI 0)] hp = _
  rw [cal_eq (sj_ck hp (j := nI 0) (n := nI 4) (by decide) (by decide)) rfl rfl (chk_rf _ _ _)]
  rfl
theorem sc_37_0 (hp : HP) : EJ0_charAt_5068e [.ref 2037, .int (nI 0)] hp = some (nI 119) := by
  show oCal 1 (some 99) EJ0_isLatin1_aae02 fZ (oIfeq (kN) (oAld 0 (oSvl (oIld 1 (oCal 2 none EJ1_charAt_3b067 fI (oCretP)))))) [(0, .ref 2037), (1, .int (nI 0))] [.ref 2037] hp = _
  rw [cal_eq (si_37 hp) rfl rfl (chk_rf _ _ _)]
  show oCal 2 none EJ1_charAt_3b067 fI (oCretP) [(0, .ref 2037), (1, .int (nI 0))] [.int (nI 0), .ref 3037] hp = _
  rw [cal_eq (sb_37_0 hp) rfl rfl (chk_rf _ _ _)]
  rfl
theorem sb_37_1 (hp : HP) : EJ1_charAt_3b067 [.ref 3037, .int (nI 1)] hp = some (nI 101) := by
  show oCal 2 none EJ0_checkIndex_df160 fU (oAld 0 (oIld 1 (oSat (oConst (.int 255) (oiand (oi2c (oCretP))))))) [(0, .ref 3037), (1, .int (nI 1))] [.int (nI 4), .int (nI 1)] hp = _
  rw [cal_eq (sj_ck hp (j := nI 1) (n := nI 4) (by decide) (by decide)) rfl rfl (chk_rf _ _ _)]
  rfl
theorem sc_37_1 (hp : HP) : EJ0_charAt_5068e [.ref 2037, .int (nI 1)] hp = some (nI 101) := by
  show oCal 1 (some 99) EJ0_isLatin1_aae02 fZ (oIfeq (kN) (oAld 0 (oSvl (oIld 1 (oCal 2 none EJ1_charAt_3b067 fI (oCretP)))))) [(0, .ref 2037), (1, .int (nI 1))] [.ref 2037] hp = _
  rw [cal_eq (si_37 hp) rfl rfl (chk_rf _ _ _)]
  show oCal 2 none EJ1_charAt_3b067 fI (oCretP) [(0, .ref 2037), (1, .int (nI 1))] [.int (nI 1), .ref 3037] hp = _
  rw [cal_eq (sb_37_1 hp) rfl rfl (chk_rf _ _ _)]
  rfl
theorem sb_37_2 (hp : HP) : EJ1_charAt_3b067 [.ref 3037, .int (nI 2)] hp = some (nI 115) := by
  show oCal 2 none EJ0_checkIndex_df160 fU (oAld 0 (oIld 1 (oSat (oConst (.int 255) (oiand (oi2c (oCretP))))))) [(0, .ref 3037), (1, .int (nI 2))] [.int (nI 4), .int (nI 2)] hp = _
  rw [cal_eq (sj_ck hp (j := nI 2) (n := nI 4) (by decide) (by decide)) rfl rfl (chk_rf _ _ _)]
  rfl
theorem sc_37_2 (hp : HP) : EJ0_charAt_5068e [.ref 2037, .int (nI 2)] hp = some (nI 115) := by
  show oCal 1 (some 99) EJ0_isLatin1_aae02 fZ (oIfeq (kN) (oAld 0 (oSvl (oIld 1 (oCal 2 none EJ1_charAt_3b067 fI (oCretP)))))) [(0, .ref 2037), (1, .int (nI 2))] [.ref 2037] hp = _
  rw [cal_eq (si_37 hp) rfl rfl (chk_rf _ _ _)]
  show oCal 2 none EJ1_charAt_3b067 fI (oCretP) [(0, .ref 2037), (1, .int (nI 2))] [.int (nI 2), .ref 3037] hp = _
  rw [cal_eq (sb_37_2 hp) rfl rfl (chk_rf _ _ _)]
  rfl
theorem sb_37_3 (hp : HP) : EJ1_charAt_3b067 [.ref 3037, .int (nI 3)] hp = some (nI 116) := by
  show oCal 2 none EJ0_checkIndex_df160 fU (oAld 0 (oIld 1 (oSat (oConst (.int 255) (oiand (oi2c (oCretP))))))) [(0, .ref 3037), (1, .int (nI 3))] [.int (nI 4), .int (nI 3)] hp = _
  rw [cal_eq (sj_ck hp (j := nI 3) (n := nI 4) (by decide) (by decide)) rfl rfl (chk_rf _ _ _)]
  rfl
theorem sc_37_3 (hp : HP) : EJ0_charAt_5068e [.ref 2037, .int (nI 3)] hp = some (nI 116) := by
  show oCal 1 (some 99) EJ0_isLatin1_aae02 fZ (oIfeq (kN) (oAld 0 (oSvl (oIld 1 (oCal 2 none EJ1_charAt_3b067 fI (oCretP)))))) [(0, .ref 2037), (1, .int (nI 3))] [.ref 2037] hp = _
  rw [cal_eq (si_37 hp) rfl rfl (chk_rf _ _ _)]
  show oCal 2 none EJ1_charAt_3b067 fI (oCretP) [(0, .ref 2037), (1, .int (nI 3))] [.int (nI 3), .ref 3037] hp = _
  rw [cal_eq (sb_37_3 hp) rfl rfl (chk_rf _ _ _)]
  rfl
theorem sc_37 (hp : HP) : ∀ k, k < 4 → EJ0_charAt_5068e [.ref 2037, .int (nI k)] hp = some (nI (sx_37 k)) := fun k hk => by
  rcases (by omega : k = 0 ∨ k = 1 ∨ k = 2 ∨ k = 3) with rfl | rfl | rfl | rfl
  · exact sc_37_0 hp
  · exact sc_37_1 hp
  · exact sc_37_2 hp
  · exact sc_37_3 hp
def sx_38 (k : Nat) : Nat := ([108, 101, 97, 118, 101, 115] : List Nat).getD k 0
theorem sd_38 (hp : HP) : EJ0_coder_7d493 [.ref 2038] hp = some 0 := rfl
theorem sl_38 (hp : HP) : EJ0_length_8abf5 [.ref 2038] hp = some (nI 6) := by
  show oCal 1 (some 99) EJ0_coder_7d493 fI (oishr oIretP) [(0, .ref 2038)] [.ref 2038, .int (nI 6)] hp = _
  rw [cal_eq (sd_38 hp) rfl rfl (chk_rf _ _ _)]
  rfl
theorem si_38 (hp : HP) : EJ0_isLatin1_aae02 [.ref 2038] hp = some true := rfl
theorem sb_38_0 (hp : HP) : EJ1_charAt_3b067 [.ref 3038, .int (nI 0)] hp = some (nI 108) := by
  show oCal 2 none EJ0_checkIndex_df160 fU (oAld 0 (oIld 1 (oSat (oConst (.int 255) (oiand (oi2c (oCretP))))))) [(0, .ref 3038), (1, .int (nI 0))] [.int (nI 6), .int (nI 0)] hp = _
  rw [cal_eq (sj_ck hp (j := nI 0) (n := nI 6) (by decide) (by decide)) rfl rfl (chk_rf _ _ _)]
  rfl
theorem sc_38_0 (hp : HP) : EJ0_charAt_5068e [.ref 2038, .int (nI 0)] hp = some (nI 108) := by
  show oCal 1 (some 99) EJ0_isLatin1_aae02 fZ (oIfeq (kN) (oAld 0 (oSvl (oIld 1 (oCal 2 none EJ1_charAt_3b067 fI (oCretP)))))) [(0, .ref 2038), (1, .int (nI 0))] [.ref 2038] hp = _
  rw [cal_eq (si_38 hp) rfl rfl (chk_rf _ _ _)]
  show oCal 2 none EJ1_charAt_3b067 fI (oCretP) [(0, .ref 2038), (1, .int (nI 0))] [.int (nI 0), .ref 3038] hp = _
  rw [cal_eq (sb_38_0 hp) rfl rfl (chk_rf _ _ _)]
  rfl
theorem sb_38_1 (hp : HP) : EJ1_charAt_3b067 [.ref 3038, .int (nI 1)] hp = some (nI 101) := by
  show oCal 2 none EJ0_checkIndex_df160 fU (oAld 0 (oIld 1 (oSat (oConst (.int 255) (oiand (oi2c (oCretP))))))) [(0, .ref 3038), (1, .int (nI 1))] [.int (nI 6), .int (nI 1)] hp = _
  rw [cal_eq (sj_ck hp (j := nI 1) (n := nI 6) (by decide) (by decide)) rfl rfl (chk_rf _ _ _)]
  rfl
theorem sc_38_1 (hp : HP) : EJ0_charAt_5068e [.ref 2038, .int (nI 1)] hp = some (nI 101) := by
  show oCal 1 (some 99) EJ0_isLatin1_aae02 fZ (oIfeq (kN) (oAld 0 (oSvl (oIld 1 (oCal 2 none EJ1_charAt_3b067 fI (oCretP)))))) [(0, .ref 2038), (1, .int (nI 1))] [.ref 2038] hp = _
  rw [cal_eq (si_38 hp) rfl rfl (chk_rf _ _ _)]
  show oCal 2 none EJ1_charAt_3b067 fI (oCretP) [(0, .ref 2038), (1, .int (nI 1))] [.int (nI 1), .ref 3038] hp = _
  rw [cal_eq (sb_38_1 hp) rfl rfl (chk_rf _ _ _)]
  rfl
theorem sb_38_2 (hp : HP) : EJ1_charAt_3b067 [.ref 3038, .int (nI 2)] hp = some (nI 97) := by
  show oCal 2 none EJ0_checkIndex_df160 fU (oAld 0 (oIld 1 (oSat (oConst (.int 255) (oiand (oi2c (oCretP))))))) [(0, .ref 3038), (1, .int (nI 2))] [.int (nI 6), .int (nI 2)] hp = _
  rw [cal_eq (sj_ck hp (j := nI 2) (n := nI 6) (by decide) (by decide)) rfl rfl (chk_rf _ _ _)]
  rfl
theorem sc_38_2 (hp : HP) : EJ0_charAt_5068e [.ref 2038, .int (nI 2)] hp = some (nI 97) := by
  show oCal 1 (some 99) EJ0_isLatin1_aae02 fZ (oIfeq (kN) (oAld 0 (oSvl (oIld 1 (oCal 2 none EJ1_charAt_3b067 fI (oCretP)))))) [(0, .ref 2038), (1, .int (nI 2))] [.ref 2038] hp = _
  rw [cal_eq (si_38 hp) rfl rfl (chk_rf _ _ _)]
  show oCal 2 none EJ1_charAt_3b067 fI (oCretP) [(0, .ref 2038), (1, .int (nI 2))] [.int (nI 2), .ref 3038] hp = _
  rw [cal_eq (sb_38_2 hp) rfl rfl (chk_rf _ _ _)]
  rfl
theorem sb_38_3 (hp : HP) : EJ1_charAt_3b067 [.ref 3038, .int (nI 3)] hp = some (nI 118) := by
  show oCal 2 none EJ0_checkIndex_df160 fU (oAld 0 (oIld 1 (oSat (oConst (.int 255) (oiand (oi2c (oCretP))))))) [(0, .ref 3038), (1, .int (nI 3))] [.int (nI 6), .int (nI 3)] hp = _
  rw [cal_eq (sj_ck hp (j := nI 3) (n := nI 6) (by decide) (by decide)) rfl rfl (chk_rf _ _ _)]
  rfl
theorem sc_38_3 (hp : HP) : EJ0_charAt_5068e [.ref 2038, .int (nI 3)] hp = some (nI 118) := by
  show oCal 1 (some 99) EJ0_isLatin1_aae02 fZ (oIfeq (kN) (oAld 0 (oSvl (oIld 1 (oCal 2 none EJ1_charAt_3b067 fI (oCretP)))))) [(0, .ref 2038), (1, .int (nI 3))] [.ref 2038] hp = _
  rw [cal_eq (si_38 hp) rfl rfl (chk_rf _ _ _)]
  show oCal 2 none EJ1_charAt_3b067 fI (oCretP) [(0, .ref 2038), (1, .int (nI 3))] [.int (nI 3), .ref 3038] hp = _
  rw [cal_eq (sb_38_3 hp) rfl rfl (chk_rf _ _ _)]
  rfl
theorem sb_38_4 (hp : HP) : EJ1_charAt_3b067 [.ref 3038, .int (nI 4)] hp = some (nI 101) := by
  show oCal 2 none EJ0_checkIndex_df160 fU (oAld 0 (oIld 1 (oSat (oConst (.int 255) (oiand (oi2c (oCretP))))))) [(0, .ref 3038), (1, .int (nI 4))] [.int (nI 6), .int (nI 4)] hp = _
  rw [cal_eq (sj_ck hp (j := nI 4) (n := nI 6) (by decide) (by decide)) rfl rfl (chk_rf _ _ _)]
  rfl
theorem sc_38_4 (hp : HP) : EJ0_charAt_5068e [.ref 2038, .int (nI 4)] hp = some (nI 101) := by
  show oCal 1 (some 99) EJ0_isLatin1_aae02 fZ (oIfeq (kN) (oAld 0 (oSvl (oIld 1 (oCal 2 none EJ1_charAt_3b067 fI (oCretP)))))) [(0, .ref 2038), (1, .int (nI 4))] [.ref 2038] hp = _
  rw [cal_eq (si_38 hp) rfl rfl (chk_rf _ _ _)]
  show oCal 2 none EJ1_charAt_3b067 fI (oCretP) [(0, .ref 2038), (1, .int (nI 4))] [.int (nI 4), .ref 3038] hp = _
  rw [cal_eq (sb_38_4 hp) rfl rfl (chk_rf _ _ _)]
  rfl
theorem sb_38_5 (hp : HP) : EJ1_charAt_3b067 [.ref 3038, .int (nI 5)] hp = some (nI 115) := by
  show oCal 2 none EJ0_checkIndex_df160 fU (oAld 0 (oIld 1 (oSat (oConst (.int 255) (oiand (oi2c (oCretP))))))) [(0, .ref 3038), (1, .int (nI 5))] [.int (nI 6), .int (nI 5)] hp = _
  rw [cal_eq (sj_ck hp (j := nI 5) (n := nI 6) (by decide) (by decide)) rfl rfl (chk_rf _ _ _)]
  rfl
theorem sc_38_5 (hp : HP) : EJ0_charAt_5068e [.ref 2038, .int (nI 5)] hp = some (nI 115) := by
  show oCal 1 (some 99) EJ0_isLatin1_aae02 fZ (oIfeq (kN) (oAld 0 (oSvl (oIld 1 (oCal 2 none EJ1_charAt_3b067 fI (oCretP)))))) [(0, .ref 2038), (1, .int (nI 5))] [.ref 2038] hp = _
  rw [cal_eq (si_38 hp) rfl rfl (chk_rf _ _ _)]
  show oCal 2 none EJ1_charAt_3b067 fI (oCretP) [(0, .ref 2038), (1, .int (nI 5))] [.int (nI 5), .ref 3038] hp = _
  rw [cal_eq (sb_38_5 hp) rfl rfl (chk_rf _ _ _)]
  rfl
theorem sc_38 (hp : HP) : ∀ k, k < 6 → EJ0_charAt_5068e [.ref 2038, .int (nI k)] hp = some (nI (sx_38 k)) := fun k hk => by
  rcases (by omega : k = 0 ∨ k = 1 ∨ k = 2 ∨ k = 3 ∨ k = 4 ∨ k = 5) with rfl | rfl | rfl | rfl | rfl | rfl
  · exact sc_38_0 hp
  · exact sc_38_1 hp
  · exact sc_38_2 hp
  · exact sc_38_3 hp
  · exact sc_38_4 hp
  · exact sc_38_5 hp
