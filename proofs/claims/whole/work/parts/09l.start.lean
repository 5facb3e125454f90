def NF : List Cond := flatC (Jvm.Cond.and given_1 narrow_1)
def strOw : List (String × Nat) := [("MownMaze$Reader", 53), ("MownMaze$Reader", 100), ("MownMaze$Reader", 109), ("MownMaze$Reader", 111), ("MownMaze$Reader", 113), ("MownMaze$Reader", 115), ("MownMaze$Reader", 179), ("MownMaze$Reader", 196), ("MownMaze$Reader", 201), ("MownMaze$Reader", 203), ("MownMaze$Reader", 205), ("MownMaze$Reader", 207), ("MownMaze", 335), ("MownMazeModel", 186), ("MownMazeModel", 225), ("MownMazeModel", 230), ("MownMazeModel", 231), ("MownMazeModel", 233), ("MownMazeModel", 235), ("MownMazeModel", 191), ("MownMazeModel", 195), ("MownMazeModel", 200), ("MownMazeModel", 205), ("MownMazeModel", 210), ("MownMazeModel", 215), ("MownMazeModel", 294), ("MownMazeModel", 220), ("MownMazeModel", 311), ("MownMazeModel", 316), ("MownMazeModel", 318), ("MownMazeModel", 320), ("MownMazeModel", 322), ("MownMazeModel", 324), ("MownMazeModel", 326), ("MownMazeModel", 328), ("MownMazeModel", 330), ("MownMazeModel", 332), ("MownMazeModel", 334), ("MownMazeModel", 336)]
def strTm (i : Nat) : Term := Term.string (strOw.getD i ("", 0)).1 (strOw.getD i ("", 0)).2
def iEx : List Nat := [24, 72, 80, 88, 96, 104, 113, 121, 148, 154, 163, 188, 198, 223, 233, 242, 251, 260, 269, 279, 286, 294, 302, 310, 319, 328, 337, 347, 355, 364, 372, 379, 386, 393, 403, 412, 420, 429, 437]
def iCo : List Nat := [25, 73, 81, 89, 97, 105, 114, 122, 149, 155, 164, 189, 199, 224, 234, 243, 252, 261, 270, 280, 287, 295, 303, 311, 320, 329, 338, 348, 356, 365, 373, 380, 387, 394, 404, 413, 421, 430, 438]
def iAr : List Nat := [26, 74, 82, 90, 98, 106, 115, 123, 150, 156, 165, 190, 200, 225, 235, 244, 253, 262, 271, 281, 288, 296, 304, 312, 321, 330, 339, 349, 357, 366, 374, 381, 388, 395, 405, 414, 422, 431, 439]
def iLe : List Nat := [27, 75, 83, 91, 99, 107, 116, 124, 151, 157, 166, 191, 201, 226, 236, 245, 254, 263, 272, 282, 289, 297, 305, 313, 322, 331, 340, 350, 358, 367, 375, 382, 389, 396, 406, 415, 423, 432, 440]
def iEl : List Nat := [28, 76, 84, 92, 100, 108, 117, 125, 152, 158, 167, 192, 202, 227, 237, 246, 255, 264, 273, 283, 290, 298, 306, 314, 323, 332, 341, 351, 359, 368, 376, 383, 390, 397, 407, 416, 424, 433, 441]
set_option maxRecDepth 100000 in
theorem nf_ex : ∀ i, i < strN → NF[iEx.getD i 0]? = some (Cond.exactly (strTm i) "java/lang/String") := by decide +kernel
set_option maxRecDepth 100000 in
theorem nf_co : ∀ i, i < strN → NF[iCo.getD i 0]? = some (Cond.eq (.field (strTm i) "java/lang/String" "coder" "B") (.int 0)) := by decide +kernel
set_option maxRecDepth 100000 in
theorem nf_ar : ∀ i, i < strN → NF[iAr.getD i 0]? = some (Cond.arrayOf (.field (strTm i) "java/lang/String" "value" "[B") .byte) := by decide +kernel
set_option maxRecDepth 100000 in
theorem nf_le : ∀ i, i < strN → NF[iLe.getD i 0]? = some (Cond.eq (.length (.field (strTm i) "java/lang/String" "value" "[B")) (.int (Int32.ofNat (strLen.getD i 0)))) := by decide +kernel
set_option maxRecDepth 100000 in
theorem nf_el : ∀ i, i < strN → ∀ j, j < strLen.getD i 0 → NF[iEl.getD i 0 + j]? = some (Cond.eq (.elem (.field (strTm i) "java/lang/String" "value" "[B") (.int (Int32.ofNat j))) (.int ((strByt.getD i []).getD j 0))) := by decide +kernel
theorem nf_ln : ∀ i, i < strN → strLen.getD i 0 < 2 ^ 31 := by decide +kernel
theorem vS_of {args : Array Value} {s : State} {A : Nat → Prop} (hn : ∀ c ∈ NF, c.before args s = true) (hA : ∀ a : Nat, a < s.heap.size → ¬ A a) : ∃ adK adV : Nat → Nat, vS adK adV A s s.heap ∧ ∀ i : Nat, i < strN → (strTm i).eval args s none [] s = some (.ref (adK i)) := by
  have h0 : ∀ i : Nat, ∃ q : Nat × Nat, i < strN → (strTm i).eval args s none [] s = some (.ref q.1) ∧ va_O "java/lang/String" q.1 A s s.heap ∧ va_OF "java/lang/String" "coder" "B" (.int 0) q.1 A s s.heap ∧ va_OF "java/lang/String" "value" "[B" (.ref q.2) q.1 A s s.heap ∧ va_T .byte q.2 (strLen.getD i 0) (fun j => .int ((strByt.getD i []).getD j 0)) A s s.heap := by
    intro i
    by_cases hi : i < strN
    · have e1 := hn _ (List.mem_of_getElem? (nf_ex i hi))
      have e2 := hn _ (List.mem_of_getElem? (nf_co i hi))
      have e3 := hn _ (List.mem_of_getElem? (nf_ar i hi))
      have e4 := hn _ (List.mem_of_getElem? (nf_le i hi))
      obtain ⟨a, c, cA, kA, q1, q2, q3, q4, q5, q6, -⟩ := Cond.exactly_spec (args := args) (first := s) (o := none) (s := s) (idx := []) (t := strTm i) (cls := "java/lang/String") e1
      obtain ⟨t, ht, hT⟩ := va_Tof (f := fun j => .int ((strByt.getD i []).getD j 0)) (A := A) (nf_ln i hi) e3 (va_eqt e4) (fun j hj => va_eqt (hn _ (List.mem_of_getElem? (nf_el i hi j hj)))) hA
      exact ⟨(a, t), fun _ => ⟨q1, ⟨cA, q3, q5, by rw [q6]; exact q2, hA a (Array.getElem?_eq_some_iff.mp q3).1⟩, vk_OFof q1 (va_eqt e2) hA, vk_OFof q1 ht hA, hT⟩⟩
    · exact ⟨(0, 0), fun h => absurd h hi⟩
  refine ⟨fun i => (h0 i).choose.1, fun i => (h0 i).choose.2, fun i hi => ?_, fun i hi => ((h0 i).choose_spec hi).1⟩
  exact ((h0 i).choose_spec hi).2
theorem strRows_ok : ∀ q ∈ strRows, ∃ i, i < strN ∧ q.2.2.2 = i ∧ strOw.getD i ("", 0) = (q.1, q.2.1) := by
  intro q hq
  have h : strRows.all (fun q => decide (q.2.2.2 < strN) && (strOw.getD q.2.2.2 ("", 0) == (q.1, q.2.1))) = true := by decide +kernel
  have h2 := List.all_eq_true.mp h q hq
  simp only [Bool.and_eq_true, decide_eq_true_eq, beq_iff_eq] at h2
  exact ⟨q.2.2.2, h2.1, rfl, h2.2⟩
set_option maxRecDepth 20000 in
theorem nt_0 : (Cond.fieldLinkNest "MownMaze$Reader" 125 "MownMaze$Ground" "wide" "I" "MownMaze" : Cond) ∈ tables_1 := tb_1 (List.mem_of_getElem? (i := 157) rfl)
set_option maxRecDepth 20000 in
theorem nt_1 : (Cond.fieldLinkNest "MownMaze$Plan" 109 "MownMaze$Ground" "wide" "I" "MownMaze" : Cond) ∈ tables_1 := tb_1 (List.mem_of_getElem? (i := 158) rfl)
set_option maxRecDepth 20000 in
theorem nt_2 : (Cond.fieldLinkNest "MownMaze$Plan" 87 "MownMaze$Ground" "high" "I" "MownMaze" : Cond) ∈ tables_1 := tb_1 (List.mem_of_getElem? (i := 160) rfl)
set_option maxRecDepth 20000 in
theorem nt_3 : (Cond.fieldLinkNest "MownMaze$Reader" 225 "MownMaze$Ground" "high" "I" "MownMaze" : Cond) ∈ tables_1 := tb_1 (List.mem_of_getElem? (i := 161) rfl)
set_option maxRecDepth 20000 in
theorem nt_4 : (Cond.fieldLinkNest "MownMaze$Plan" 81 "MownMaze$Ground" "count" "I" "MownMaze" : Cond) ∈ tables_1 := tb_1 (List.mem_of_getElem? (i := 163) rfl)
set_option maxRecDepth 20000 in
theorem nt_5 : (Cond.fieldLinkNest "MownMaze" 349 "MownMaze$Ground" "count" "I" "MownMaze" : Cond) ∈ tables_1 := tb_1 (List.mem_of_getElem? (i := 164) rfl)
set_option maxRecDepth 20000 in
theorem nt_6 : (Cond.fieldLinkNest "MownMaze" 402 "MownMaze$Ground" "all" "J" "MownMaze" : Cond) ∈ tables_1 := tb_1 (List.mem_of_getElem? (i := 166) rfl)
set_option maxRecDepth 20000 in
theorem nt_7 : (Cond.fieldLinkNest "MownMaze" 114 "MownMaze$Picture" "mownCells" "J" "MownMaze" : Cond) ∈ tables_1 := tb_1 (List.mem_of_getElem? (i := 191) rfl)
set_option maxRecDepth 20000 in
theorem nt_8 : (Cond.fieldLinkNest "MownMaze" 386 "MownMaze$Picture" "standingCells" "J" "MownMaze" : Cond) ∈ tables_1 := tb_1 (List.mem_of_getElem? (i := 193) rfl)
set_option maxRecDepth 20000 in
theorem nt_9 : (Cond.fieldLinkNest "MownMaze$Plan" 84 "MownMaze$Picture" "lineCount" "I" "MownMaze" : Cond) ∈ tables_1 := tb_1 (List.mem_of_getElem? (i := 195) rfl)
set_option maxRecDepth 20000 in
theorem nt_10 : (Cond.fieldLinkNest "MownMaze$Reader" 136 "MownMaze$Picture" "lineCount" "I" "MownMaze" : Cond) ∈ tables_1 := tb_1 (List.mem_of_getElem? (i := 196) rfl)
set_option maxRecDepth 20000 in
theorem nt_11 : (Cond.fieldLinkNest "MownMaze$Plan" 94 "MownMaze$Walker" "name" "J" "MownMaze" : Cond) ∈ tables_1 := tb_1 (List.mem_of_getElem? (i := 211) rfl)
set_option maxRecDepth 20000 in
theorem nt_12 : (Cond.fieldLinkNest "MownMaze$Walk" 62 "MownMaze$Walker" "kind" "I" "MownMaze" : Cond) ∈ tables_1 := tb_1 (List.mem_of_getElem? (i := 212) rfl)
set_option maxRecDepth 20000 in
theorem nt_13 : (Cond.fieldLinkNest "MownMaze$Plan" 97 "MownMaze$Walker" "kind" "I" "MownMaze" : Cond) ∈ tables_1 := tb_1 (List.mem_of_getElem? (i := 213) rfl)
set_option maxRecDepth 20000 in
theorem nt_14 : (Cond.fieldLinkNest "MownMaze" 359 "MownMaze$Walker" "kind" "I" "MownMaze" : Cond) ∈ tables_1 := tb_1 (List.mem_of_getElem? (i := 214) rfl)
set_option maxRecDepth 20000 in
theorem nt_15 : (Cond.fieldLinkNest "MownMaze$Walk" 38 "MownMaze$Walker" "cell" "I" "MownMaze" : Cond) ∈ tables_1 := tb_1 (List.mem_of_getElem? (i := 215) rfl)
set_option maxRecDepth 20000 in
theorem nt_16 : (Cond.fieldLinkNest "MownMaze$Plan" 100 "MownMaze$Walker" "cell" "I" "MownMaze" : Cond) ∈ tables_1 := tb_1 (List.mem_of_getElem? (i := 216) rfl)
set_option maxRecDepth 20000 in
theorem nt_17 : (Cond.fieldLinkNest "MownMaze$Walk" 45 "MownMaze$Walker" "side" "I" "MownMaze" : Cond) ∈ tables_1 := tb_1 (List.mem_of_getElem? (i := 217) rfl)
set_option maxRecDepth 20000 in
theorem nt_18 : (Cond.fieldLinkNest "MownMaze$Plan" 103 "MownMaze$Walker" "side" "I" "MownMaze" : Cond) ∈ tables_1 := tb_1 (List.mem_of_getElem? (i := 218) rfl)
set_option maxRecDepth 20000 in
theorem nt_19 : (Cond.fieldLinkNest "MownMaze$Walk" 92 "MownMaze$Walker" "leaves" "I" "MownMaze" : Cond) ∈ tables_1 := tb_1 (List.mem_of_getElem? (i := 219) rfl)
set_option maxRecDepth 20000 in
theorem nt_20 : (Cond.fieldLinkNest "MownMaze$Plan" 106 "MownMaze$Walker" "leaves" "I" "MownMaze" : Cond) ∈ tables_1 := tb_1 (List.mem_of_getElem? (i := 220) rfl)
set_option maxRecDepth 20000 in
theorem nt_21 : (Cond.fieldLinkNest "MownMaze$Walk" 65 "MownMaze$Plan" "ground" "LMownMaze$Ground;" "MownMaze" : Cond) ∈ tables_1 := tb_1 (List.mem_of_getElem? (i := 233) rfl)
set_option maxRecDepth 20000 in
theorem nt_22 : (Cond.fieldLinkNest "MownMaze$Reader" 121 "MownMaze$Plan" "ground" "LMownMaze$Ground;" "MownMaze" : Cond) ∈ tables_1 := tb_1 (List.mem_of_getElem? (i := 234) rfl)
set_option maxRecDepth 20000 in
theorem nt_23 : (Cond.fieldLinkNest "MownMaze" 148 "MownMaze$Plan" "ground" "LMownMaze$Ground;" "MownMaze" : Cond) ∈ tables_1 := tb_1 (List.mem_of_getElem? (i := 235) rfl)
set_option maxRecDepth 20000 in
theorem nt_24 : (Cond.fieldLinkNest "MownMaze" 110 "MownMaze$Plan" "rows" "LMownMaze$Picture;" "MownMaze" : Cond) ∈ tables_1 := tb_1 (List.mem_of_getElem? (i := 237) rfl)
set_option maxRecDepth 20000 in
theorem nt_25 : (Cond.fieldLinkNest "MownMaze$Reader" 74 "MownMaze$Plan" "rows" "LMownMaze$Picture;" "MownMaze" : Cond) ∈ tables_1 := tb_1 (List.mem_of_getElem? (i := 238) rfl)
set_option maxRecDepth 20000 in
theorem nt_26 : (Cond.fieldLinkNest "MownMaze$Reader" 82 "MownMaze$Plan" "wants" "LMownMaze$Picture;" "MownMaze" : Cond) ∈ tables_1 := tb_2 (List.mem_of_getElem? (i := 0) rfl)
set_option maxRecDepth 20000 in
theorem nt_27 : (Cond.fieldLinkNest "MownMaze" 380 "MownMaze$Plan" "wants" "LMownMaze$Picture;" "MownMaze" : Cond) ∈ tables_1 := tb_2 (List.mem_of_getElem? (i := 1) rfl)
set_option maxRecDepth 20000 in
theorem nt_28 : (Cond.fieldLinkNest "MownMaze$Reader" 85 "MownMaze$Plan" "moons" "LMownMaze$Picture;" "MownMaze" : Cond) ∈ tables_1 := tb_2 (List.mem_of_getElem? (i := 3) rfl)
set_option maxRecDepth 20000 in
theorem nt_29 : (Cond.fieldLinkNest "MownMaze" 377 "MownMaze$Plan" "moons" "LMownMaze$Picture;" "MownMaze" : Cond) ∈ tables_1 := tb_2 (List.mem_of_getElem? (i := 4) rfl)
set_option maxRecDepth 20000 in
theorem nt_30 : (Cond.fieldLinkNest "MownMaze$Walk" 95 "MownMaze$Plan" "dusk" "I" "MownMaze" : Cond) ∈ tables_1 := tb_2 (List.mem_of_getElem? (i := 10) rfl)
set_option maxRecDepth 20000 in
theorem nt_31 : (Cond.fieldLinkNest "MownMaze" 214 "MownMaze$Plan" "dusk" "I" "MownMaze" : Cond) ∈ tables_1 := tb_2 (List.mem_of_getElem? (i := 11) rfl)
set_option maxRecDepth 20000 in
theorem nt_32 : (Cond.fieldLinkNest "MownMaze" 226 "MownMaze$Plan" "pays" "I" "MownMaze" : Cond) ∈ tables_1 := tb_2 (List.mem_of_getElem? (i := 13) rfl)
set_option maxRecDepth 20000 in
theorem nt_33 : (Cond.fieldLinkNest "MownMaze" 368 "MownMaze$Plan" "shuts" "I" "MownMaze" : Cond) ∈ tables_1 := tb_2 (List.mem_of_getElem? (i := 15) rfl)
set_option maxRecDepth 20000 in
theorem nt_34 : (Cond.fieldLinkNest "MownMaze" 274 "MownMaze$Plan" "gateCount" "I" "MownMaze" : Cond) ∈ tables_1 := tb_2 (List.mem_of_getElem? (i := 17) rfl)
set_option maxRecDepth 20000 in
theorem nt_35 : (Cond.fieldLinkNest "MownMaze$Reader" 152 "MownMaze$Plan" "gateCells" "J" "MownMaze" : Cond) ∈ tables_1 := tb_2 (List.mem_of_getElem? (i := 19) rfl)
set_option maxRecDepth 20000 in
theorem nt_36 : (Cond.fieldLinkNest "MownMaze$Walk" 116 "MownMaze$Plan" "gateCells" "J" "MownMaze" : Cond) ∈ tables_1 := tb_2 (List.mem_of_getElem? (i := 20) rfl)
set_option maxRecDepth 20000 in
theorem nt_37 : (Cond.fieldLinkNest "MownMaze" 264 "MownMaze$Plan" "gateCells" "J" "MownMaze" : Cond) ∈ tables_1 := tb_2 (List.mem_of_getElem? (i := 21) rfl)
set_option maxRecDepth 20000 in
theorem nt_38 : (Cond.fieldLinkNest "MownMaze$Walk" 73 "MownMaze$Plan" "noise" "I" "MownMaze" : Cond) ∈ tables_1 := tb_2 (List.mem_of_getElem? (i := 23) rfl)
set_option maxRecDepth 20000 in
theorem nt_39 : (Cond.fieldLinkNest "MownMaze$Reader" 173 "MownMaze$Plan" "noise" "I" "MownMaze" : Cond) ∈ tables_1 := tb_2 (List.mem_of_getElem? (i := 24) rfl)
set_option maxRecDepth 20000 in
theorem nt_40 : (Cond.fieldLinkNest "MownMaze" 389 "MownMaze$Plan" "heardCount" "I" "MownMaze" : Cond) ∈ tables_1 := tb_2 (List.mem_of_getElem? (i := 26) rfl)
set_option maxRecDepth 20000 in
theorem nt_41 : (Cond.fieldLinkNest "MownMaze" 223 "MownMaze$Plan" "walkerCount" "I" "MownMaze" : Cond) ∈ tables_1 := tb_2 (List.mem_of_getElem? (i := 28) rfl)
set_option maxRecDepth 20000 in
theorem nt_42 : (Cond.fieldLinkNest "MownMazeModel" 166 "MownMazeModel$Meadow" "wide" "I" "MownMazeModel" : Cond) ∈ tables_1 := tb_7 (List.mem_of_getElem? (i := 1) rfl)
set_option maxRecDepth 20000 in
theorem nt_43 : (Cond.fieldLinkNest "MownMazeModel" 174 "MownMazeModel$Meadow" "high" "I" "MownMazeModel" : Cond) ∈ tables_1 := tb_7 (List.mem_of_getElem? (i := 3) rfl)
set_option maxRecDepth 20000 in
theorem nt_44 : (Cond.fieldLinkNest "MownMazeModel" 237 "MownMazeModel$Meadow" "dusk" "I" "MownMazeModel" : Cond) ∈ tables_1 := tb_7 (List.mem_of_getElem? (i := 4) rfl)
set_option maxRecDepth 20000 in
theorem nt_45 : (Cond.fieldLinkNest "MownMazeModel" 239 "MownMazeModel$Meadow" "pays" "I" "MownMazeModel" : Cond) ∈ tables_1 := tb_7 (List.mem_of_getElem? (i := 5) rfl)
set_option maxRecDepth 20000 in
theorem nt_46 : (Cond.fieldLinkNest "MownMazeModel" 241 "MownMazeModel$Meadow" "shuts" "I" "MownMazeModel" : Cond) ∈ tables_1 := tb_7 (List.mem_of_getElem? (i := 6) rfl)
set_option maxRecDepth 20000 in
theorem nt_47 : (Cond.fieldLinkNest "MownMazeModel" 183 "MownMazeModel$Meadow" "rows" "I" "MownMazeModel" : Cond) ∈ tables_1 := tb_7 (List.mem_of_getElem? (i := 7) rfl)
set_option maxRecDepth 20000 in
theorem nt_48 : (Cond.fieldLinkNest "MownMazeModel" 260 "MownMazeModel$Meadow" "wants" "I" "MownMazeModel" : Cond) ∈ tables_1 := tb_7 (List.mem_of_getElem? (i := 8) rfl)
set_option maxRecDepth 20000 in
theorem nt_49 : (Cond.fieldLinkNest "MownMazeModel" 269 "MownMazeModel$Meadow" "moons" "I" "MownMazeModel" : Cond) ∈ tables_1 := tb_7 (List.mem_of_getElem? (i := 9) rfl)
set_option maxRecDepth 20000 in
theorem nt_50 : (Cond.fieldLinkNest "MownMazeModel" 278 "MownMazeModel$Meadow" "gates" "I" "MownMazeModel" : Cond) ∈ tables_1 := tb_7 (List.mem_of_getElem? (i := 10) rfl)
set_option maxRecDepth 20000 in
theorem nt_51 : (Cond.fieldLinkNest "MownMazeModel" 291 "MownMazeModel$Meadow" "heards" "I" "MownMazeModel" : Cond) ∈ tables_1 := tb_7 (List.mem_of_getElem? (i := 11) rfl)
set_option maxRecDepth 20000 in
theorem nt_52 : (Cond.fieldLinkNest "MownMazeModel" 301 "MownMazeModel$Meadow" "walkers" "I" "MownMazeModel" : Cond) ∈ tables_1 := tb_7 (List.mem_of_getElem? (i := 13) rfl)
set_option maxRecDepth 20000 in
theorem nt_53 : (Cond.fieldLinkNest "MownMazeModel" 286 "MownMazeModel$Meadow" "noise" "I" "MownMazeModel" : Cond) ∈ tables_1 := tb_7 (List.mem_of_getElem? (i := 15) rfl)
set_option maxRecDepth 20000 in
theorem nt_54 : (Cond.fieldLinkNest "MownMazeModel" 257 "MownMazeModel$Meadow" "mown" "J" "MownMazeModel" : Cond) ∈ tables_1 := tb_7 (List.mem_of_getElem? (i := 16) rfl)
set_option maxRecDepth 20000 in
theorem nt_55 : (Cond.fieldLinkNest "MownMazeModel" 263 "MownMazeModel$Meadow" "wantMown" "J" "MownMazeModel" : Cond) ∈ tables_1 := tb_7 (List.mem_of_getElem? (i := 17) rfl)
set_option maxRecDepth 20000 in
theorem nt_56 : (Cond.fieldLinkNest "MownMazeModel" 266 "MownMazeModel$Meadow" "wantStand" "J" "MownMazeModel" : Cond) ∈ tables_1 := tb_7 (List.mem_of_getElem? (i := 18) rfl)
set_option maxRecDepth 20000 in
theorem nt_57 : (Cond.fieldLinkNest "MownMazeModel" 272 "MownMazeModel$Meadow" "moonMown" "J" "MownMazeModel" : Cond) ∈ tables_1 := tb_7 (List.mem_of_getElem? (i := 19) rfl)
set_option maxRecDepth 20000 in
theorem nt_58 : (Cond.fieldLinkNest "MownMazeModel" 275 "MownMazeModel$Meadow" "moonStand" "J" "MownMazeModel" : Cond) ∈ tables_1 := tb_7 (List.mem_of_getElem? (i := 20) rfl)
set_option maxRecDepth 20000 in
theorem nt_59 : (Cond.fieldLinkNest "MownMazeModel" 281 "MownMazeModel$Meadow" "gateSet" "J" "MownMazeModel" : Cond) ∈ tables_1 := tb_7 (List.mem_of_getElem? (i := 21) rfl)
set_option maxRecDepth 20000 in
theorem nt_60 : (Cond.fieldLinkNest "MownMazeModel" 284 "MownMazeModel$Meadow" "gate" "[I" "MownMazeModel" : Cond) ∈ tables_1 := tb_7 (List.mem_of_getElem? (i := 23) rfl)
set_option maxRecDepth 20000 in
theorem nt_61 : (Cond.fieldLinkNest "MownMazeModel" 296 "MownMazeModel$Meadow" "heard" "[I" "MownMazeModel" : Cond) ∈ tables_1 := tb_7 (List.mem_of_getElem? (i := 25) rfl)
set_option maxRecDepth 20000 in
theorem nt_62 : (Cond.fieldLinkNest "MownMazeModel" 298 "MownMazeModel$Meadow" "heardFrom" "[I" "MownMazeModel" : Cond) ∈ tables_1 := tb_7 (List.mem_of_getElem? (i := 27) rfl)
set_option maxRecDepth 20000 in
theorem nt_63 : (Cond.fieldLinkNest "MownMazeModel" 338 "MownMazeModel$Meadow" "kind" "[I" "MownMazeModel" : Cond) ∈ tables_1 := tb_7 (List.mem_of_getElem? (i := 29) rfl)
set_option maxRecDepth 20000 in
theorem nt_64 : (Cond.fieldLinkNest "MownMazeModel" 341 "MownMazeModel$Meadow" "start" "[I" "MownMazeModel" : Cond) ∈ tables_1 := tb_7 (List.mem_of_getElem? (i := 31) rfl)
set_option maxRecDepth 20000 in
theorem nt_65 : (Cond.fieldLinkNest "MownMazeModel" 344 "MownMazeModel$Meadow" "faces" "[I" "MownMazeModel" : Cond) ∈ tables_1 := tb_7 (List.mem_of_getElem? (i := 33) rfl)
set_option maxRecDepth 20000 in
theorem nt_66 : (Cond.fieldLinkNest "MownMazeModel" 346 "MownMazeModel$Meadow" "leaves" "[I" "MownMazeModel" : Cond) ∈ tables_1 := tb_7 (List.mem_of_getElem? (i := 35) rfl)
set_option maxRecDepth 20000 in
theorem nt_67 : (Cond.fieldLinkNest "MownMazeModel" 308 "MownMazeModel$Meadow" "name" "[J" "MownMazeModel" : Cond) ∈ tables_1 := tb_7 (List.mem_of_getElem? (i := 37) rfl)
set_option maxRecDepth 20000 in
theorem nt_68 : (Cond.methodLinkNest "MownMaze" 11 ⟨"MownMaze$Tape", "<init>", "()V"⟩ "MownMaze" : Cond) ∈ tables_1 := tb_1 (List.mem_of_getElem? (i := 35) rfl)
set_option maxRecDepth 20000 in
theorem nt_69 : (Cond.methodLinkNest "MownMaze" 32 ⟨"MownMaze$History", "<init>", "()V"⟩ "MownMaze" : Cond) ∈ tables_1 := tb_1 (List.mem_of_getElem? (i := 102) rfl)
set_option maxRecDepth 20000 in
theorem nt_70 : (Cond.methodLinkNest "MownMaze" 39 ⟨"MownMaze$Scythe", "<init>", "()V"⟩ "MownMaze" : Cond) ∈ tables_1 := tb_1 (List.mem_of_getElem? (i := 129) rfl)
set_option maxRecDepth 20000 in
theorem nt_71 : (Cond.methodLinkNest "MownMaze$Plan" 11 ⟨"MownMaze$Ground", "<init>", "()V"⟩ "MownMaze" : Cond) ∈ tables_1 := tb_1 (List.mem_of_getElem? (i := 151) rfl)
set_option maxRecDepth 20000 in
theorem nt_72 : (Cond.methodLinkNest "MownMaze$Plan" 20 ⟨"MownMaze$Picture", "<init>", "()V"⟩ "MownMaze" : Cond) ∈ tables_1 := tb_1 (List.mem_of_getElem? (i := 186) rfl)
set_option maxRecDepth 20000 in
theorem nt_73 : (Cond.methodLinkNest "MownMaze$Plan" 47 ⟨"MownMaze$Walker", "<init>", "()V"⟩ "MownMaze" : Cond) ∈ tables_1 := tb_1 (List.mem_of_getElem? (i := 207) rfl)
set_option maxRecDepth 20000 in
theorem nt_74 : (Cond.methodLinkNest "MownMaze$Ground" 25 ⟨"MownMaze", "bit", "(I)J"⟩ "MownMaze" : Cond) ∈ tables_1 := tb_2 (List.mem_of_getElem? (i := 191) rfl)
set_option maxRecDepth 20000 in
theorem nt_75 : (Cond.methodLinkNest "MownMaze$Picture" 20 ⟨"MownMaze", "bit", "(I)J"⟩ "MownMaze" : Cond) ∈ tables_1 := tb_3 (List.mem_of_getElem? (i := 133) rfl)
set_option maxRecDepth 20000 in
theorem nt_76 : (Cond.methodLinkNest "MownMaze$Reader" 159 ⟨"MownMaze", "isIn", "(JI)Z"⟩ "MownMaze" : Cond) ∈ tables_1 := tb_3 (List.mem_of_getElem? (i := 150) rfl)
set_option maxRecDepth 20000 in
theorem nt_77 : (Cond.methodLinkNest "MownMaze$Plan" 90 ⟨"MownMaze", "bit", "(I)J"⟩ "MownMaze" : Cond) ∈ tables_1 := tb_3 (List.mem_of_getElem? (i := 157) rfl)
set_option maxRecDepth 20000 in
theorem nt_78 : (Cond.methodLinkNest "MownMaze$Ground" 70 ⟨"MownMaze", "isIn", "(JI)Z"⟩ "MownMaze" : Cond) ∈ tables_1 := tb_4 (List.mem_of_getElem? (i := 52) rfl)
set_option maxRecDepth 20000 in
theorem nt_79 : (Cond.methodLinkNest "MownMaze$Walk" 119 ⟨"MownMaze", "isIn", "(JI)Z"⟩ "MownMaze" : Cond) ∈ tables_1 := tb_4 (List.mem_of_getElem? (i := 114) rfl)
set_option maxRecDepth 20000 in
theorem nt_80 : (Cond.methodLinkNest "MownMaze$Walk" 138 ⟨"MownMaze", "bit", "(I)J"⟩ "MownMaze" : Cond) ∈ tables_1 := tb_4 (List.mem_of_getElem? (i := 115) rfl)
set_option maxRecDepth 20000 in
theorem nt_81 : (Cond.methodLinkNest "MownMaze$Walk" 150 ⟨"MownMaze", "draw", "(I)I"⟩ "MownMaze" : Cond) ∈ tables_1 := tb_4 (List.mem_of_getElem? (i := 150) rfl)
set_option maxRecDepth 20000 in
theorem nt_82 : (Cond.methodLinkNest "MownMaze$Scythe" 41 ⟨"MownMaze", "nthCell", "(JI)I"⟩ "MownMaze" : Cond) ∈ tables_1 := tb_5 (List.mem_of_getElem? (i := 46) rfl)
set_option maxRecDepth 20000 in
theorem nt_83 : (Cond.methodLinkNest "MownMaze$Scythe" 45 ⟨"MownMaze", "bit", "(I)J"⟩ "MownMaze" : Cond) ∈ tables_1 := tb_5 (List.mem_of_getElem? (i := 47) rfl)
set_option maxRecDepth 20000 in
theorem nt_84 : (Cond.methodLinkNest "MownMaze$Scythe" 55 ⟨"MownMaze", "isIn", "(JI)Z"⟩ "MownMaze" : Cond) ∈ tables_1 := tb_5 (List.mem_of_getElem? (i := 49) rfl)
set_option maxRecDepth 20000 in
theorem nt_85 : (Cond.methodLinkNest "MownMazeModel" 351 ⟨"MownMazeModel$Meadow", "<init>", "()V"⟩ "MownMazeModel" : Cond) ∈ tables_1 := tb_6 (List.mem_of_getElem? (i := 236) rfl)
theorem nest_tb : ∀ w ∈ nestW, w ∈ tables_1 := (List.forall_mem_cons.mpr ⟨nt_0, (List.forall_mem_cons.mpr ⟨nt_1, (List.forall_mem_cons.mpr ⟨nt_2, (List.forall_mem_cons.mpr ⟨nt_3, (List.forall_mem_cons.mpr ⟨nt_4, (List.forall_mem_cons.mpr ⟨nt_5, (List.forall_mem_cons.mpr ⟨nt_6, (List.forall_mem_cons.mpr ⟨nt_7, (List.forall_mem_cons.mpr ⟨nt_8, (List.forall_mem_cons.mpr ⟨nt_9, (List.forall_mem_cons.mpr ⟨nt_10, (List.forall_mem_cons.mpr ⟨nt_11, (List.forall_mem_cons.mpr ⟨nt_12, (List.forall_mem_cons.mpr ⟨nt_13, (List.forall_mem_cons.mpr ⟨nt_14, (List.forall_mem_cons.mpr ⟨nt_15, (List.forall_mem_cons.mpr ⟨nt_16, (List.forall_mem_cons.mpr ⟨nt_17, (List.forall_mem_cons.mpr ⟨nt_18, (List.forall_mem_cons.mpr ⟨nt_19, (List.forall_mem_cons.mpr ⟨nt_20, (List.forall_mem_cons.mpr ⟨nt_21, (List.forall_mem_cons.mpr ⟨nt_22, (List.forall_mem_cons.mpr ⟨nt_23, (List.forall_mem_cons.mpr ⟨nt_24, (List.forall_mem_cons.mpr ⟨nt_25, (List.forall_mem_cons.mpr ⟨nt_26, (List.forall_mem_cons.mpr ⟨nt_27, (List.forall_mem_cons.mpr ⟨nt_28, (List.forall_mem_cons.mpr ⟨nt_29, (List.forall_mem_cons.mpr ⟨nt_30, (List.forall_mem_cons.mpr ⟨nt_31, (List.forall_mem_cons.mpr ⟨nt_32, (List.forall_mem_cons.mpr ⟨nt_33, (List.forall_mem_cons.mpr ⟨nt_34, (List.forall_mem_cons.mpr ⟨nt_35, (List.forall_mem_cons.mpr ⟨nt_36, (List.forall_mem_cons.mpr ⟨nt_37, (List.forall_mem_cons.mpr ⟨nt_38, (List.forall_mem_cons.mpr ⟨nt_39, (List.forall_mem_cons.mpr ⟨nt_40, (List.forall_mem_cons.mpr ⟨nt_41, (List.forall_mem_cons.mpr ⟨nt_42, (List.forall_mem_cons.mpr ⟨nt_43, (List.forall_mem_cons.mpr ⟨nt_44, (List.forall_mem_cons.mpr ⟨nt_45, (List.forall_mem_cons.mpr ⟨nt_46, (List.forall_mem_cons.mpr ⟨nt_47, (List.forall_mem_cons.mpr ⟨nt_48, (List.forall_mem_cons.mpr ⟨nt_49, (List.forall_mem_cons.mpr ⟨nt_50, (List.forall_mem_cons.mpr ⟨nt_51, (List.forall_mem_cons.mpr ⟨nt_52, (List.forall_mem_cons.mpr ⟨nt_53, (List.forall_mem_cons.mpr ⟨nt_54, (List.forall_mem_cons.mpr ⟨nt_55, (List.forall_mem_cons.mpr ⟨nt_56, (List.forall_mem_cons.mpr ⟨nt_57, (List.forall_mem_cons.mpr ⟨nt_58, (List.forall_mem_cons.mpr ⟨nt_59, (List.forall_mem_cons.mpr ⟨nt_60, (List.forall_mem_cons.mpr ⟨nt_61, (List.forall_mem_cons.mpr ⟨nt_62, (List.forall_mem_cons.mpr ⟨nt_63, (List.forall_mem_cons.mpr ⟨nt_64, (List.forall_mem_cons.mpr ⟨nt_65, (List.forall_mem_cons.mpr ⟨nt_66, (List.forall_mem_cons.mpr ⟨nt_67, (List.forall_mem_cons.mpr ⟨nt_68, (List.forall_mem_cons.mpr ⟨nt_69, (List.forall_mem_cons.mpr ⟨nt_70, (List.forall_mem_cons.mpr ⟨nt_71, (List.forall_mem_cons.mpr ⟨nt_72, (List.forall_mem_cons.mpr ⟨nt_73, (List.forall_mem_cons.mpr ⟨nt_74, (List.forall_mem_cons.mpr ⟨nt_75, (List.forall_mem_cons.mpr ⟨nt_76, (List.forall_mem_cons.mpr ⟨nt_77, (List.forall_mem_cons.mpr ⟨nt_78, (List.forall_mem_cons.mpr ⟨nt_79, (List.forall_mem_cons.mpr ⟨nt_80, (List.forall_mem_cons.mpr ⟨nt_81, (List.forall_mem_cons.mpr ⟨nt_82, (List.forall_mem_cons.mpr ⟨nt_83, (List.forall_mem_cons.mpr ⟨nt_84, (List.forall_mem_cons.mpr ⟨nt_85, (fun _ h => absurd h List.not_mem_nil)⟩)⟩)⟩)⟩)⟩)⟩)⟩)⟩)⟩)⟩)⟩)⟩)⟩)⟩)⟩)⟩)⟩)⟩)⟩)⟩)⟩)⟩)⟩)⟩)⟩)⟩)⟩)⟩)⟩)⟩)⟩)⟩)⟩)⟩)⟩)⟩)⟩)⟩)⟩)⟩)⟩)⟩)⟩)⟩)⟩)⟩)⟩)⟩)⟩)⟩)⟩)⟩)⟩)⟩)⟩)⟩)⟩)⟩)⟩)⟩)⟩)⟩)⟩)⟩)⟩)⟩)⟩)⟩)⟩)⟩)⟩)⟩)⟩)⟩)⟩)⟩)⟩)⟩)⟩)⟩)⟩)⟩)⟩)⟩)⟩)⟩)
set_option maxRecDepth 20000 in
theorem st_0 : Cond.stringRef "MownMaze$Reader" 53 "meadow row want moon gate noise heard walker" ∈ tables_1 := tb_2 (List.mem_of_getElem? (i := 237) rfl)
set_option maxRecDepth 20000 in
theorem st_1 : Cond.stringRef "MownMaze$Reader" 100 "wide" ∈ tables_1 := tb_3 (List.mem_of_getElem? (i := 74) rfl)
set_option maxRecDepth 20000 in
theorem st_2 : Cond.stringRef "MownMaze$Reader" 109 "high" ∈ tables_1 := tb_3 (List.mem_of_getElem? (i := 103) rfl)
set_option maxRecDepth 20000 in
theorem st_3 : Cond.stringRef "MownMaze$Reader" 111 "dusk" ∈ tables_1 := tb_3 (List.mem_of_getElem? (i := 104) rfl)
set_option maxRecDepth 20000 in
theorem st_4 : Cond.stringRef "MownMaze$Reader" 113 "pays" ∈ tables_1 := tb_3 (List.mem_of_getElem? (i := 105) rfl)
set_option maxRecDepth 20000 in
theorem st_5 : Cond.stringRef "MownMaze$Reader" 115 "shuts" ∈ tables_1 := tb_3 (List.mem_of_getElem? (i := 106) rfl)
set_option maxRecDepth 20000 in
theorem st_6 : Cond.stringRef "MownMaze$Reader" 179 "from" ∈ tables_1 := tb_3 (List.mem_of_getElem? (i := 166) rfl)
set_option maxRecDepth 20000 in
theorem st_7 : Cond.stringRef "MownMaze$Reader" 196 "left right once cow lot" ∈ tables_1 := tb_3 (List.mem_of_getElem? (i := 183) rfl)
set_option maxRecDepth 20000 in
theorem st_8 : Cond.stringRef "MownMaze$Reader" 201 "at" ∈ tables_1 := tb_3 (List.mem_of_getElem? (i := 188) rfl)
set_option maxRecDepth 20000 in
theorem st_9 : Cond.stringRef "MownMaze$Reader" 203 "faces" ∈ tables_1 := tb_3 (List.mem_of_getElem? (i := 189) rfl)
set_option maxRecDepth 20000 in
theorem st_10 : Cond.stringRef "MownMaze$Reader" 205 "north east south west" ∈ tables_1 := tb_3 (List.mem_of_getElem? (i := 190) rfl)
set_option maxRecDepth 20000 in
theorem st_11 : Cond.stringRef "MownMaze$Reader" 207 "leaves" ∈ tables_1 := tb_3 (List.mem_of_getElem? (i := 191) rfl)
set_option maxRecDepth 20000 in
theorem st_12 : Cond.stringRef "MownMaze" 335 "there is no such gate" ∈ tables_1 := tb_6 (List.mem_of_getElem? (i := 55) rfl)
set_option maxRecDepth 20000 in
theorem st_13 : Cond.stringRef "MownMazeModel" 186 "meadow" ∈ tables_1 := tb_7 (List.mem_of_getElem? (i := 114) rfl)
set_option maxRecDepth 20000 in
theorem st_14 : Cond.stringRef "MownMazeModel" 225 "wide" ∈ tables_1 := tb_7 (List.mem_of_getElem? (i := 132) rfl)
set_option maxRecDepth 20000 in
theorem st_15 : Cond.stringRef "MownMazeModel" 230 "high" ∈ tables_1 := tb_7 (List.mem_of_getElem? (i := 152) rfl)
set_option maxRecDepth 20000 in
theorem st_16 : Cond.stringRef "MownMazeModel" 231 "dusk" ∈ tables_1 := tb_7 (List.mem_of_getElem? (i := 153) rfl)
set_option maxRecDepth 20000 in
theorem st_17 : Cond.stringRef "MownMazeModel" 233 "pays" ∈ tables_1 := tb_7 (List.mem_of_getElem? (i := 154) rfl)
set_option maxRecDepth 20000 in
theorem st_18 : Cond.stringRef "MownMazeModel" 235 "shuts" ∈ tables_1 := tb_7 (List.mem_of_getElem? (i := 155) rfl)
set_option maxRecDepth 20000 in
theorem st_19 : Cond.stringRef "MownMazeModel" 191 "row" ∈ tables_1 := tb_7 (List.mem_of_getElem? (i := 156) rfl)
set_option maxRecDepth 20000 in
theorem st_20 : Cond.stringRef "MownMazeModel" 195 "want" ∈ tables_1 := tb_7 (List.mem_of_getElem? (i := 169) rfl)
set_option maxRecDepth 20000 in
theorem st_21 : Cond.stringRef "MownMazeModel" 200 "moon" ∈ tables_1 := tb_7 (List.mem_of_getElem? (i := 174) rfl)
set_option maxRecDepth 20000 in
theorem st_22 : Cond.stringRef "MownMazeModel" 205 "gate" ∈ tables_1 := tb_7 (List.mem_of_getElem? (i := 179) rfl)
set_option maxRecDepth 20000 in
theorem st_23 : Cond.stringRef "MownMazeModel" 210 "noise" ∈ tables_1 := tb_7 (List.mem_of_getElem? (i := 191) rfl)
set_option maxRecDepth 20000 in
theorem st_24 : Cond.stringRef "MownMazeModel" 215 "heard" ∈ tables_1 := tb_7 (List.mem_of_getElem? (i := 200) rfl)
set_option maxRecDepth 20000 in
theorem st_25 : Cond.stringRef "MownMazeModel" 294 "from" ∈ tables_1 := tb_7 (List.mem_of_getElem? (i := 205) rfl)
set_option maxRecDepth 20000 in
theorem st_26 : Cond.stringRef "MownMazeModel" 220 "walker" ∈ tables_1 := tb_7 (List.mem_of_getElem? (i := 206) rfl)
set_option maxRecDepth 20000 in
theorem st_27 : Cond.stringRef "MownMazeModel" 311 "left" ∈ tables_1 := tb_7 (List.mem_of_getElem? (i := 215) rfl)
set_option maxRecDepth 20000 in
theorem st_28 : Cond.stringRef "MownMazeModel" 316 "right" ∈ tables_1 := tb_7 (List.mem_of_getElem? (i := 220) rfl)
set_option maxRecDepth 20000 in
theorem st_29 : Cond.stringRef "MownMazeModel" 318 "once" ∈ tables_1 := tb_7 (List.mem_of_getElem? (i := 221) rfl)
set_option maxRecDepth 20000 in
theorem st_30 : Cond.stringRef "MownMazeModel" 320 "cow" ∈ tables_1 := tb_7 (List.mem_of_getElem? (i := 222) rfl)
set_option maxRecDepth 20000 in
theorem st_31 : Cond.stringRef "MownMazeModel" 322 "lot" ∈ tables_1 := tb_7 (List.mem_of_getElem? (i := 223) rfl)
set_option maxRecDepth 20000 in
theorem st_32 : Cond.stringRef "MownMazeModel" 324 "at" ∈ tables_1 := tb_7 (List.mem_of_getElem? (i := 224) rfl)
set_option maxRecDepth 20000 in
theorem st_33 : Cond.stringRef "MownMazeModel" 326 "faces" ∈ tables_1 := tb_7 (List.mem_of_getElem? (i := 225) rfl)
set_option maxRecDepth 20000 in
theorem st_34 : Cond.stringRef "MownMazeModel" 328 "north" ∈ tables_1 := tb_7 (List.mem_of_getElem? (i := 226) rfl)
set_option maxRecDepth 20000 in
theorem st_35 : Cond.stringRef "MownMazeModel" 330 "east" ∈ tables_1 := tb_7 (List.mem_of_getElem? (i := 227) rfl)
set_option maxRecDepth 20000 in
theorem st_36 : Cond.stringRef "MownMazeModel" 332 "south" ∈ tables_1 := tb_7 (List.mem_of_getElem? (i := 228) rfl)
set_option maxRecDepth 20000 in
theorem st_37 : Cond.stringRef "MownMazeModel" 334 "west" ∈ tables_1 := tb_7 (List.mem_of_getElem? (i := 229) rfl)
set_option maxRecDepth 20000 in
theorem st_38 : Cond.stringRef "MownMazeModel" 336 "leaves" ∈ tables_1 := tb_7 (List.mem_of_getElem? (i := 230) rfl)
theorem str_tb : ∀ q ∈ strRows, Cond.stringRef q.1 q.2.1 q.2.2.1 ∈ tables_1 := (List.forall_mem_cons.mpr ⟨st_0, (List.forall_mem_cons.mpr ⟨st_1, (List.forall_mem_cons.mpr ⟨st_2, (List.forall_mem_cons.mpr ⟨st_3, (List.forall_mem_cons.mpr ⟨st_4, (List.forall_mem_cons.mpr ⟨st_5, (List.forall_mem_cons.mpr ⟨st_6, (List.forall_mem_cons.mpr ⟨st_7, (List.forall_mem_cons.mpr ⟨st_8, (List.forall_mem_cons.mpr ⟨st_9, (List.forall_mem_cons.mpr ⟨st_10, (List.forall_mem_cons.mpr ⟨st_11, (List.forall_mem_cons.mpr ⟨st_12, (List.forall_mem_cons.mpr ⟨st_13, (List.forall_mem_cons.mpr ⟨st_14, (List.forall_mem_cons.mpr ⟨st_15, (List.forall_mem_cons.mpr ⟨st_16, (List.forall_mem_cons.mpr ⟨st_17, (List.forall_mem_cons.mpr ⟨st_18, (List.forall_mem_cons.mpr ⟨st_19, (List.forall_mem_cons.mpr ⟨st_20, (List.forall_mem_cons.mpr ⟨st_21, (List.forall_mem_cons.mpr ⟨st_22, (List.forall_mem_cons.mpr ⟨st_23, (List.forall_mem_cons.mpr ⟨st_24, (List.forall_mem_cons.mpr ⟨st_25, (List.forall_mem_cons.mpr ⟨st_26, (List.forall_mem_cons.mpr ⟨st_27, (List.forall_mem_cons.mpr ⟨st_28, (List.forall_mem_cons.mpr ⟨st_29, (List.forall_mem_cons.mpr ⟨st_30, (List.forall_mem_cons.mpr ⟨st_31, (List.forall_mem_cons.mpr ⟨st_32, (List.forall_mem_cons.mpr ⟨st_33, (List.forall_mem_cons.mpr ⟨st_34, (List.forall_mem_cons.mpr ⟨st_35, (List.forall_mem_cons.mpr ⟨st_36, (List.forall_mem_cons.mpr ⟨st_37, (List.forall_mem_cons.mpr ⟨st_38, (fun _ h => absurd h List.not_mem_nil)⟩)⟩)⟩)⟩)⟩)⟩)⟩)⟩)⟩)⟩)⟩)⟩)⟩)⟩)⟩)⟩)⟩)⟩)⟩)⟩)⟩)⟩)⟩)⟩)⟩)⟩)⟩)⟩)⟩)⟩)⟩)⟩)⟩)⟩)⟩)⟩)⟩)⟩)⟩)
set_option maxRecDepth 20000 in
theorem ls_cs : (Cond.laysStatic "java/lang/String" "COMPACT_STRINGS" "Z" : Cond) ∈ tables_1 := tb_3 (List.mem_of_getElem? (i := 11) rfl)
set_option maxRecDepth 20000 in
theorem ls_sf : (Cond.laysStatic "jdk/internal/util/Preconditions" "SIOOBE_FORMATTER" "Ljava/util/function/BiFunction;" : Cond) ∈ tables_1 := tb_3 (List.mem_of_getElem? (i := 27) rfl)
set_option maxRecDepth 20000 in
theorem ao_w : (Cond.arrayOver (.object "MownMaze$Walker") : Cond) ∈ tables_1 := tb_1 (List.mem_of_getElem? (i := 205) rfl)
set_option maxRecDepth 20000 in
theorem nf_cs : Cond.eq (.static "java/lang/String" "COMPACT_STRINGS" "Z") (.int 1) ∈ NF := List.mem_of_getElem? (i := 4) (by decide +kernel)
set_option maxRecDepth 20000 in
theorem nf_sf : Cond.isRef (.static "jdk/internal/util/Preconditions" "SIOOBE_FORMATTER" "Ljava/util/function/BiFunction;") ∈ NF := List.mem_of_getElem? (i := 5) (by decide +kernel)
theorem WS_tb {w : Cond} (h : w ∈ WS) : w ∈ lw_tbl := (List.mem_filter.mp h).1
theorem nest_on {w : Cond} (h : isNest w = true) : w.onTables = true := by cases w <;> first | rfl | cases h
theorem GS_start {args : Array Value} {s : State} (hts : ∀ w ∈ lw_tbl, w.before args s = true) (hgv : (Jvm.Cond.and given_1 narrow_1).before args s = true) : ∃ (D : va_G) (cy ad : Nat → Nat), GS D cy (fun q => s.heap.size ≤ q) ad s s.heap := by
  have hws : ∀ w ∈ WS, w.before args s = true := fun w h => hts w (WS_tb h)
  have htb : ∀ w ∈ tables_1, w.before args s = true := fun w h => hts w (List.mem_append_right _ h)
  have hn : ∀ c ∈ NF, c.before args s = true := flat_of_before _ hgv
  have hA : ∀ a : Nat, a < s.heap.size → ¬ (fun q : Nat => s.heap.size ≤ q) a := fun a h => Nat.not_le.mpr h
  obtain ⟨c0, iS0, hKn0⟩ := u_known (C := RX0) (T := TX0) (N := 7) (n := 7) hws inX0 (hws _ tw_150)
  obtain ⟨c1, iS1, hKn1⟩ := u_known (C := RX1) (T := TX1) (N := 6) (n := 6) hws inX1 (hws _ tw_101)
  obtain ⟨c2, iS2, hKn2⟩ := u_known (C := RX2) (T := TX2) (N := 3) (n := 3) hws inX2 (hws _ tw_185)
  obtain ⟨c3, iS3, hKn3⟩ := u_known (C := RX3) (T := TX3) (N := 16) (n := 16) hws inX3 (hws _ tw_144)
  obtain ⟨c4, iS4, hKn4⟩ := u_known (C := RX4) (T := TX4) (N := 6) (n := 6) hws inX4 (hws _ tw_48)
  obtain ⟨c5, iS5, hKn5⟩ := u_known (C := RX5) (T := TX5) (N := 3) (n := 3) hws inX5 (hws _ tw_128)
  obtain ⟨c6, iS6, hKn6⟩ := u_known (C := RX6) (T := TX6) (N := 2) (n := 2) hws inX6 (hws _ tw_34)
  obtain ⟨c7, iS7, hKn7⟩ := u_known (C := RX7) (T := TX7) (N := 7) (n := 7) hws inX7 (hws _ tw_50)
  obtain ⟨c8, iS8, hKn8⟩ := u_known (C := RX8) (T := TX8) (N := 12) (n := 12) hws inX8 (hws _ tw_303)
  obtain ⟨c9, iS9, hKn9⟩ := u_known (C := RX9) (T := TX9) (N := 5) (n := 5) hws inX9 (hws _ tw_206)
  obtain ⟨c10, iS10, hKn10⟩ := u_known (C := RX10) (T := TX10) (N := 15) (n := 15) hws inX10 (hws _ tw_26)
  obtain ⟨c11, iS11, hKn11⟩ := u_known (C := RX11) (T := TX11) (N := 26) (n := 26) hws inX11 (hws _ tw_1435)
  obtain ⟨c12, iS12, hKn12⟩ := u_known (C := RX12) (T := TX12) (N := 43) (n := 43) hws inX12 (hws _ tw_1282)
  obtain ⟨dC, dI, hKc⟩ : ∃ (dC : Nat → ClassId) (dI : Nat → Nat → Nat), ∀ (k : Nat) (q : vw_C), vwCl[k]? = some q → u_Kn s q.1 q.2.1 q.2.2 (dC k) (dI k) := by
    refine ⟨fun k => if k = 0 then c0 else if k = 1 then c1 else if k = 2 then c2 else if k = 3 then c3 else if k = 4 then c4 else if k = 5 then c5 else if k = 6 then c6 else if k = 7 then c7 else if k = 8 then c8 else if k = 9 then c9 else if k = 10 then c10 else if k = 11 then c11 else c12, fun k => if k = 0 then iS0 else if k = 1 then iS1 else if k = 2 then iS2 else if k = 3 then iS3 else if k = 4 then iS4 else if k = 5 then iS5 else if k = 6 then iS6 else if k = 7 then iS7 else if k = 8 then iS8 else if k = 9 then iS9 else if k = 10 then iS10 else if k = 11 then iS11 else iS12, ?_⟩
    intro k q hq
    match k, hq with
    | 0, hq => cases hq; exact hKn0
    | 1, hq => cases hq; exact hKn1
    | 2, hq => cases hq; exact hKn2
    | 3, hq => cases hq; exact hKn3
    | 4, hq => cases hq; exact hKn4
    | 5, hq => cases hq; exact hKn5
    | 6, hq => cases hq; exact hKn6
    | 7, hq => cases hq; exact hKn7
    | 8, hq => cases hq; exact hKn8
    | 9, hq => cases hq; exact hKn9
    | 10, hq => cases hq; exact hKn10
    | 11, hq => cases hq; exact hKn11
    | 12, hq => cases hq; exact hKn12
    | k + 13, hq => simp [vwCl] at hq
  obtain ⟨adK, adV, hS, hE⟩ := vS_of (A := fun q : Nat => s.heap.size ≤ q) hn hA
  obtain ⟨b0, kb, compb, b1, b2, b3⟩ := Cond.arrayClass_spec (type := .byte) (hws _ tw_46)
  obtain ⟨i0, ki, compi, i1, i2, i3⟩ := Cond.arrayClass_spec (type := .int) (hws _ tw_126)
  obtain ⟨j0, kj, compj, j1, j2, j3⟩ := Cond.arrayClass_spec (type := .long) (hws _ tw_125)
  obtain ⟨compw, w0, kw, w1, w2, w3, w4, w5⟩ := Cond.arrayOver_spec (htb _ ao_w)
  have hZ : va_Z "java/lang/String" "COMPACT_STRINGS" "Z" (.int 1) (fun q => s.heap.size ≤ q) s s.heap := va_Zof (htb _ ls_cs) (hws _ tw_14) (va_eqt (hn _ nf_cs)) hA
  have hY := va_Zqof (htb _ ls_sf) (hws _ tw_16) (hn _ nf_sf) hA
  obtain ⟨ft, hft⟩ : ∃ ft : Nat, va_Z "jdk/internal/util/Preconditions" "SIOOBE_FORMATTER" "Ljava/util/function/BiFunction;" .null (fun q => s.heap.size ≤ q) s s.heap ∨ va_Z "jdk/internal/util/Preconditions" "SIOOBE_FORMATTER" "Ljava/util/function/BiFunction;" (.ref ft) (fun q => s.heap.size ≤ q) s s.heap := by
    rcases hY with h | ⟨t, h⟩
    · exact ⟨0, Or.inl h⟩
    · exact ⟨t, Or.inr h⟩
  refine ⟨(dC, dI), fun k => if k = 0 then b0 else if k = 1 then i0 else if k = 2 then j0 else w0, fun n => if n < 3000 then adK (n - 2000) else if n < 4000 then adV (n - 3000) else ft, ⟨hKc, ?_⟩, ?_, ?_, ?_, ?_, hZ, hft⟩
  · intro k q hq
    match k, hq with
    | 0, hq => cases hq; exact ⟨fun n z => ⟨fun k h => (by cases h), kb, b2, compb, b3⟩, b1⟩
    | 1, hq => cases hq; exact ⟨fun n z => ⟨fun k h => (by cases h), ki, i2, compi, i3⟩, i1⟩
    | 2, hq => cases hq; exact ⟨fun n z => ⟨fun k h => (by cases h), kj, j2, compj, j3⟩, j1⟩
    | 3, hq => cases hq; exact ⟨fun n z => ⟨fun k h => (by cases h), kw, w3, compw, w4⟩, kw, compw, w3, w4, w1, w5⟩
    | k + 4, hq => simp [tysOf] at hq
  · intro w hw
    exact va_Nw.of (nest_on (List.all_eq_true.mp nest_all w hw)) (htb w (nest_tb w hw))
  · exact ⟨b1, i1, j1, w5, va_AO.of (htb _ ao_w)⟩
  · intro i hi
    have hs : strN = 39 := rfl
    rw [hs] at hi
    have e1 : (if 2000 + i < 3000 then adK (2000 + i - 2000) else if 2000 + i < 4000 then adV (2000 + i - 3000) else ft) = adK i := by rw [if_pos (by omega), show 2000 + i - 2000 = i by omega]
    have e2 : (if 3000 + i < 3000 then adK (3000 + i - 2000) else if 3000 + i < 4000 then adV (3000 + i - 3000) else ft) = adV i := by rw [if_neg (by omega), if_pos (by omega), show 3000 + i - 3000 = i by omega]
    simp only [e1, e2]
    exact hS i (by rw [hs]; exact hi)
  · intro q hq
    obtain ⟨i, hi, h1, h2⟩ := strRows_ok q hq
    have hs : strN = 39 := rfl
    rw [hs] at hi
    have e1 : (if 2000 + q.2.2.2 < 3000 then adK (2000 + q.2.2.2 - 2000) else if 2000 + q.2.2.2 < 4000 then adV (2000 + q.2.2.2 - 3000) else ft) = adK i := by rw [h1, if_pos (by omega), show 2000 + i - 2000 = i by omega]
    have e3 := hE i (by rw [hs]; exact hi)
    unfold strTm at e3
    rw [h2] at e3
    simp only [e1]
    exact vk_R.of (A := args) (by first | exact htb _ (str_tb q hq) | exact va_tabs rfl rfl (htb _ (str_tb q hq))) e3
