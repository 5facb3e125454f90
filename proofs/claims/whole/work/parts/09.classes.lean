theorem FU_ex : ∃ n : Nat, 10000 ≤ n := ⟨10000, Nat.le_refl _⟩
noncomputable def FU : Nat := FU_ex.choose
theorem FU_ge : 10000 ≤ FU := FU_ex.choose_spec
set_option maxRecDepth 20000 in
theorem inX0 : ∀ w ∈ u_ws RX0 TX0 7, w ∈ WS := (List.forall_mem_cons.mpr ⟨tw_169, (List.forall_mem_cons.mpr ⟨tw_171, (List.forall_mem_cons.mpr ⟨tw_173, (List.forall_mem_cons.mpr ⟨tw_175, (List.forall_mem_cons.mpr ⟨tw_177, (List.forall_mem_cons.mpr ⟨tw_179, (List.forall_mem_cons.mpr ⟨tw_181, (fun _ h => absurd h List.not_mem_nil)⟩)⟩)⟩)⟩)⟩)⟩)⟩)
theorem clX0 : CL 0 RX0 TX0 7 tyX0 := ⟨rfl, inX0, tyX0_ok, nmX0⟩
set_option maxRecDepth 20000 in
theorem inX1 : ∀ w ∈ u_ws RX1 TX1 6, w ∈ WS := (List.forall_mem_cons.mpr ⟨tw_112, (List.forall_mem_cons.mpr ⟨tw_114, (List.forall_mem_cons.mpr ⟨tw_116, (List.forall_mem_cons.mpr ⟨tw_118, (List.forall_mem_cons.mpr ⟨tw_120, (List.forall_mem_cons.mpr ⟨tw_122, (fun _ h => absurd h List.not_mem_nil)⟩)⟩)⟩)⟩)⟩)⟩)
theorem clX1 : CL 1 RX1 TX1 6 tyX1 := ⟨rfl, inX1, tyX1_ok, nmX1⟩
set_option maxRecDepth 20000 in
theorem inX2 : ∀ w ∈ u_ws RX2 TX2 3, w ∈ WS := (List.forall_mem_cons.mpr ⟨tw_197, (List.forall_mem_cons.mpr ⟨tw_199, (List.forall_mem_cons.mpr ⟨tw_201, (fun _ h => absurd h List.not_mem_nil)⟩)⟩)⟩)
theorem clX2 : CL 2 RX2 TX2 3 tyX2 := ⟨rfl, inX2, tyX2_ok, nmX2⟩
set_option maxRecDepth 20000 in
theorem inX3 : ∀ w ∈ u_ws RX3 TX3 16, w ∈ WS := (List.forall_mem_cons.mpr ⟨tw_269, (List.forall_mem_cons.mpr ⟨tw_271, (List.forall_mem_cons.mpr ⟨tw_273, (List.forall_mem_cons.mpr ⟨tw_275, (List.forall_mem_cons.mpr ⟨tw_277, (List.forall_mem_cons.mpr ⟨tw_279, (List.forall_mem_cons.mpr ⟨tw_281, (List.forall_mem_cons.mpr ⟨tw_283, (List.forall_mem_cons.mpr ⟨tw_285, (List.forall_mem_cons.mpr ⟨tw_287, (List.forall_mem_cons.mpr ⟨tw_289, (List.forall_mem_cons.mpr ⟨tw_291, (List.forall_mem_cons.mpr ⟨tw_293, (List.forall_mem_cons.mpr ⟨tw_295, (List.forall_mem_cons.mpr ⟨tw_297, (List.forall_mem_cons.mpr ⟨tw_299, (fun _ h => absurd h List.not_mem_nil)⟩)⟩)⟩)⟩)⟩)⟩)⟩)⟩)⟩)⟩)⟩)⟩)⟩)⟩)⟩)⟩)
theorem clX3 : CL 3 RX3 TX3 16 tyX3 := ⟨rfl, inX3, tyX3_ok, nmX3⟩
set_option maxRecDepth 20000 in
theorem inX4 : ∀ w ∈ u_ws RX4 TX4 6, w ∈ WS := (List.forall_mem_cons.mpr ⟨tw_87, (List.forall_mem_cons.mpr ⟨tw_89, (List.forall_mem_cons.mpr ⟨tw_91, (List.forall_mem_cons.mpr ⟨tw_93, (List.forall_mem_cons.mpr ⟨tw_95, (List.forall_mem_cons.mpr ⟨tw_97, (fun _ h => absurd h List.not_mem_nil)⟩)⟩)⟩)⟩)⟩)⟩)
theorem clX4 : CL 4 RX4 TX4 6 tyX4 := ⟨rfl, inX4, tyX4_ok, nmX4⟩
set_option maxRecDepth 20000 in
theorem inX5 : ∀ w ∈ u_ws RX5 TX5 3, w ∈ WS := (List.forall_mem_cons.mpr ⟨tw_136, (List.forall_mem_cons.mpr ⟨tw_138, (List.forall_mem_cons.mpr ⟨tw_140, (fun _ h => absurd h List.not_mem_nil)⟩)⟩)⟩)
theorem clX5 : CL 5 RX5 TX5 3 tyX5 := ⟨rfl, inX5, tyX5_ok, nmX5⟩
set_option maxRecDepth 20000 in
theorem inX6 : ∀ w ∈ u_ws RX6 TX6 2, w ∈ WS := (List.forall_mem_cons.mpr ⟨tw_41, (List.forall_mem_cons.mpr ⟨tw_43, (fun _ h => absurd h List.not_mem_nil)⟩)⟩)
theorem clX6 : CL 6 RX6 TX6 2 tyX6 := ⟨rfl, inX6, tyX6_ok, nmX6⟩
set_option maxRecDepth 20000 in
theorem inX7 : ∀ w ∈ u_ws RX7 TX7 7, w ∈ WS := (List.forall_mem_cons.mpr ⟨tw_62, (List.forall_mem_cons.mpr ⟨tw_64, (List.forall_mem_cons.mpr ⟨tw_66, (List.forall_mem_cons.mpr ⟨tw_68, (List.forall_mem_cons.mpr ⟨tw_70, (List.forall_mem_cons.mpr ⟨tw_72, (List.forall_mem_cons.mpr ⟨tw_74, (fun _ h => absurd h List.not_mem_nil)⟩)⟩)⟩)⟩)⟩)⟩)⟩)
theorem clX7 : CL 7 RX7 TX7 7 tyX7 := ⟨rfl, inX7, tyX7_ok, nmX7⟩
set_option maxRecDepth 20000 in
theorem inX8 : ∀ w ∈ u_ws RX8 TX8 12, w ∈ WS := (List.forall_mem_cons.mpr ⟨tw_324, (List.forall_mem_cons.mpr ⟨tw_326, (List.forall_mem_cons.mpr ⟨tw_328, (List.forall_mem_cons.mpr ⟨tw_330, (List.forall_mem_cons.mpr ⟨tw_332, (List.forall_mem_cons.mpr ⟨tw_334, (List.forall_mem_cons.mpr ⟨tw_336, (List.forall_mem_cons.mpr ⟨tw_338, (List.forall_mem_cons.mpr ⟨tw_340, (List.forall_mem_cons.mpr ⟨tw_342, (List.forall_mem_cons.mpr ⟨tw_344, (List.forall_mem_cons.mpr ⟨tw_346, (fun _ h => absurd h List.not_mem_nil)⟩)⟩)⟩)⟩)⟩)⟩)⟩)⟩)⟩)⟩)⟩)⟩)
theorem clX8 : CL 8 RX8 TX8 12 tyX8 := ⟨rfl, inX8, tyX8_ok, nmX8⟩
set_option maxRecDepth 20000 in
theorem inX9 : ∀ w ∈ u_ws RX9 TX9 5, w ∈ WS := (List.forall_mem_cons.mpr ⟨tw_221, (List.forall_mem_cons.mpr ⟨tw_223, (List.forall_mem_cons.mpr ⟨tw_225, (List.forall_mem_cons.mpr ⟨tw_227, (List.forall_mem_cons.mpr ⟨tw_229, (fun _ h => absurd h List.not_mem_nil)⟩)⟩)⟩)⟩)⟩)
theorem clX9 : CL 9 RX9 TX9 5 tyX9 := ⟨rfl, inX9, tyX9_ok, nmX9⟩
set_option maxRecDepth 20000 in
theorem inX10 : ∀ w ∈ u_ws RX10 TX10 15, w ∈ WS := (List.forall_mem_cons.mpr ⟨tw_364, (List.forall_mem_cons.mpr ⟨tw_366, (List.forall_mem_cons.mpr ⟨tw_368, (List.forall_mem_cons.mpr ⟨tw_370, (List.forall_mem_cons.mpr ⟨tw_372, (List.forall_mem_cons.mpr ⟨tw_374, (List.forall_mem_cons.mpr ⟨tw_376, (List.forall_mem_cons.mpr ⟨tw_378, (List.forall_mem_cons.mpr ⟨tw_380, (List.forall_mem_cons.mpr ⟨tw_382, (List.forall_mem_cons.mpr ⟨tw_384, (List.forall_mem_cons.mpr ⟨tw_386, (List.forall_mem_cons.mpr ⟨tw_388, (List.forall_mem_cons.mpr ⟨tw_390, (List.forall_mem_cons.mpr ⟨tw_392, (fun _ h => absurd h List.not_mem_nil)⟩)⟩)⟩)⟩)⟩)⟩)⟩)⟩)⟩)⟩)⟩)⟩)⟩)⟩)⟩)
theorem clX10 : CL 10 RX10 TX10 15 tyX10 := ⟨rfl, inX10, tyX10_ok, nmX10⟩
set_option maxRecDepth 20000 in
theorem inX11 : ∀ w ∈ u_ws RX11 TX11 26, w ∈ WS := (List.forall_mem_cons.mpr ⟨tw_1478, (List.forall_mem_cons.mpr ⟨tw_1480, (List.forall_mem_cons.mpr ⟨tw_1482, (List.forall_mem_cons.mpr ⟨tw_1484, (List.forall_mem_cons.mpr ⟨tw_1486, (List.forall_mem_cons.mpr ⟨tw_1488, (List.forall_mem_cons.mpr ⟨tw_1490, (List.forall_mem_cons.mpr ⟨tw_1492, (List.forall_mem_cons.mpr ⟨tw_1494, (List.forall_mem_cons.mpr ⟨tw_1496, (List.forall_mem_cons.mpr ⟨tw_1498, (List.forall_mem_cons.mpr ⟨tw_1500, (List.forall_mem_cons.mpr ⟨tw_1502, (List.forall_mem_cons.mpr ⟨tw_1504, (List.forall_mem_cons.mpr ⟨tw_1506, (List.forall_mem_cons.mpr ⟨tw_1508, (List.forall_mem_cons.mpr ⟨tw_1510, (List.forall_mem_cons.mpr ⟨tw_1512, (List.forall_mem_cons.mpr ⟨tw_1514, (List.forall_mem_cons.mpr ⟨tw_1516, (List.forall_mem_cons.mpr ⟨tw_1518, (List.forall_mem_cons.mpr ⟨tw_1520, (List.forall_mem_cons.mpr ⟨tw_1522, (List.forall_mem_cons.mpr ⟨tw_1524, (List.forall_mem_cons.mpr ⟨tw_1526, (List.forall_mem_cons.mpr ⟨tw_1528, (fun _ h => absurd h List.not_mem_nil)⟩)⟩)⟩)⟩)⟩)⟩)⟩)⟩)⟩)⟩)⟩)⟩)⟩)⟩)⟩)⟩)⟩)⟩)⟩)⟩)⟩)⟩)⟩)⟩)⟩)⟩)
theorem clX11 : CL 11 RX11 TX11 26 tyX11 := ⟨rfl, inX11, tyX11_ok, nmX11⟩
set_option maxRecDepth 20000 in
theorem inX12 : ∀ w ∈ u_ws RX12 TX12 43, w ∈ WS := (List.forall_mem_cons.mpr ⟨tw_1331, (List.forall_mem_cons.mpr ⟨tw_1333, (List.forall_mem_cons.mpr ⟨tw_1335, (List.forall_mem_cons.mpr ⟨tw_1337, (List.forall_mem_cons.mpr ⟨tw_1339, (List.forall_mem_cons.mpr ⟨tw_1341, (List.forall_mem_cons.mpr ⟨tw_1343, (List.forall_mem_cons.mpr ⟨tw_1345, (List.forall_mem_cons.mpr ⟨tw_1347, (List.forall_mem_cons.mpr ⟨tw_1349, (List.forall_mem_cons.mpr ⟨tw_1351, (List.forall_mem_cons.mpr ⟨tw_1353, (List.forall_mem_cons.mpr ⟨tw_1355, (List.forall_mem_cons.mpr ⟨tw_1357, (List.forall_mem_cons.mpr ⟨tw_1359, (List.forall_mem_cons.mpr ⟨tw_1361, (List.forall_mem_cons.mpr ⟨tw_1363, (List.forall_mem_cons.mpr ⟨tw_1365, (List.forall_mem_cons.mpr ⟨tw_1367, (List.forall_mem_cons.mpr ⟨tw_1369, (List.forall_mem_cons.mpr ⟨tw_1371, (List.forall_mem_cons.mpr ⟨tw_1373, (List.forall_mem_cons.mpr ⟨tw_1375, (List.forall_mem_cons.mpr ⟨tw_1377, (List.forall_mem_cons.mpr ⟨tw_1379, (List.forall_mem_cons.mpr ⟨tw_1381, (List.forall_mem_cons.mpr ⟨tw_1383, (List.forall_mem_cons.mpr ⟨tw_1385, (List.forall_mem_cons.mpr ⟨tw_1387, (List.forall_mem_cons.mpr ⟨tw_1389, (List.forall_mem_cons.mpr ⟨tw_1391, (List.forall_mem_cons.mpr ⟨tw_1393, (List.forall_mem_cons.mpr ⟨tw_1395, (List.forall_mem_cons.mpr ⟨tw_1397, (List.forall_mem_cons.mpr ⟨tw_1399, (List.forall_mem_cons.mpr ⟨tw_1401, (List.forall_mem_cons.mpr ⟨tw_1403, (List.forall_mem_cons.mpr ⟨tw_1405, (List.forall_mem_cons.mpr ⟨tw_1407, (List.forall_mem_cons.mpr ⟨tw_1409, (List.forall_mem_cons.mpr ⟨tw_1411, (List.forall_mem_cons.mpr ⟨tw_1413, (List.forall_mem_cons.mpr ⟨tw_1415, (fun _ h => absurd h List.not_mem_nil)⟩)⟩)⟩)⟩)⟩)⟩)⟩)⟩)⟩)⟩)⟩)⟩)⟩)⟩)⟩)⟩)⟩)⟩)⟩)⟩)⟩)⟩)⟩)⟩)⟩)⟩)⟩)⟩)⟩)⟩)⟩)⟩)⟩)⟩)⟩)⟩)⟩)⟩)⟩)⟩)⟩)⟩)⟩)
theorem clX12 : CL 12 RX12 TX12 43 tyX12 := ⟨rfl, inX12, tyX12_ok, nmX12⟩
theorem nw_0 : (Cond.fieldLinkNest "MownMaze$Reader" 125 "MownMaze$Ground" "wide" "I" "MownMaze" : Cond) ∈ nestW := List.mem_of_getElem? (i := 0) rfl
theorem nw_1 : (Cond.fieldLinkNest "MownMaze$Plan" 109 "MownMaze$Ground" "wide" "I" "MownMaze" : Cond) ∈ nestW := List.mem_of_getElem? (i := 1) rfl
theorem nw_2 : (Cond.fieldLinkNest "MownMaze$Plan" 87 "MownMaze$Ground" "high" "I" "MownMaze" : Cond) ∈ nestW := List.mem_of_getElem? (i := 2) rfl
theorem nw_3 : (Cond.fieldLinkNest "MownMaze$Reader" 225 "MownMaze$Ground" "high" "I" "MownMaze" : Cond) ∈ nestW := List.mem_of_getElem? (i := 3) rfl
theorem nw_4 : (Cond.fieldLinkNest "MownMaze$Plan" 81 "MownMaze$Ground" "count" "I" "MownMaze" : Cond) ∈ nestW := List.mem_of_getElem? (i := 4) rfl
theorem nw_5 : (Cond.fieldLinkNest "MownMaze" 349 "MownMaze$Ground" "count" "I" "MownMaze" : Cond) ∈ nestW := List.mem_of_getElem? (i := 5) rfl
theorem nw_6 : (Cond.fieldLinkNest "MownMaze" 402 "MownMaze$Ground" "all" "J" "MownMaze" : Cond) ∈ nestW := List.mem_of_getElem? (i := 6) rfl
theorem nw_7 : (Cond.fieldLinkNest "MownMaze" 114 "MownMaze$Picture" "mownCells" "J" "MownMaze" : Cond) ∈ nestW := List.mem_of_getElem? (i := 7) rfl
theorem nw_8 : (Cond.fieldLinkNest "MownMaze" 386 "MownMaze$Picture" "standingCells" "J" "MownMaze" : Cond) ∈ nestW := List.mem_of_getElem? (i := 8) rfl
theorem nw_9 : (Cond.fieldLinkNest "MownMaze$Plan" 84 "MownMaze$Picture" "lineCount" "I" "MownMaze" : Cond) ∈ nestW := List.mem_of_getElem? (i := 9) rfl
theorem nw_10 : (Cond.fieldLinkNest "MownMaze$Reader" 136 "MownMaze$Picture" "lineCount" "I" "MownMaze" : Cond) ∈ nestW := List.mem_of_getElem? (i := 10) rfl
theorem nw_11 : (Cond.fieldLinkNest "MownMaze$Plan" 94 "MownMaze$Walker" "name" "J" "MownMaze" : Cond) ∈ nestW := List.mem_of_getElem? (i := 11) rfl
theorem nw_12 : (Cond.fieldLinkNest "MownMaze$Walk" 62 "MownMaze$Walker" "kind" "I" "MownMaze" : Cond) ∈ nestW := List.mem_of_getElem? (i := 12) rfl
theorem nw_13 : (Cond.fieldLinkNest "MownMaze$Plan" 97 "MownMaze$Walker" "kind" "I" "MownMaze" : Cond) ∈ nestW := List.mem_of_getElem? (i := 13) rfl
theorem nw_14 : (Cond.fieldLinkNest "MownMaze" 359 "MownMaze$Walker" "kind" "I" "MownMaze" : Cond) ∈ nestW := List.mem_of_getElem? (i := 14) rfl
theorem nw_15 : (Cond.fieldLinkNest "MownMaze$Walk" 38 "MownMaze$Walker" "cell" "I" "MownMaze" : Cond) ∈ nestW := List.mem_of_getElem? (i := 15) rfl
theorem nw_16 : (Cond.fieldLinkNest "MownMaze$Plan" 100 "MownMaze$Walker" "cell" "I" "MownMaze" : Cond) ∈ nestW := List.mem_of_getElem? (i := 16) rfl
theorem nw_17 : (Cond.fieldLinkNest "MownMaze$Walk" 45 "MownMaze$Walker" "side" "I" "MownMaze" : Cond) ∈ nestW := List.mem_of_getElem? (i := 17) rfl
theorem nw_18 : (Cond.fieldLinkNest "MownMaze$Plan" 103 "MownMaze$Walker" "side" "I" "MownMaze" : Cond) ∈ nestW := List.mem_of_getElem? (i := 18) rfl
theorem nw_19 : (Cond.fieldLinkNest "MownMaze$Walk" 92 "MownMaze$Walker" "leaves" "I" "MownMaze" : Cond) ∈ nestW := List.mem_of_getElem? (i := 19) rfl
theorem nw_20 : (Cond.fieldLinkNest "MownMaze$Plan" 106 "MownMaze$Walker" "leaves" "I" "MownMaze" : Cond) ∈ nestW := List.mem_of_getElem? (i := 20) rfl
theorem nw_21 : (Cond.fieldLinkNest "MownMaze$Walk" 65 "MownMaze$Plan" "ground" "LMownMaze$Ground;" "MownMaze" : Cond) ∈ nestW := List.mem_of_getElem? (i := 21) rfl
theorem nw_22 : (Cond.fieldLinkNest "MownMaze$Reader" 121 "MownMaze$Plan" "ground" "LMownMaze$Ground;" "MownMaze" : Cond) ∈ nestW := List.mem_of_getElem? (i := 22) rfl
theorem nw_23 : (Cond.fieldLinkNest "MownMaze" 148 "MownMaze$Plan" "ground" "LMownMaze$Ground;" "MownMaze" : Cond) ∈ nestW := List.mem_of_getElem? (i := 23) rfl
theorem nw_24 : (Cond.fieldLinkNest "MownMaze" 110 "MownMaze$Plan" "rows" "LMownMaze$Picture;" "MownMaze" : Cond) ∈ nestW := List.mem_of_getElem? (i := 24) rfl
theorem nw_25 : (Cond.fieldLinkNest "MownMaze$Reader" 74 "MownMaze$Plan" "rows" "LMownMaze$Picture;" "MownMaze" : Cond) ∈ nestW := List.mem_of_getElem? (i := 25) rfl
theorem nw_26 : (Cond.fieldLinkNest "MownMaze$Reader" 82 "MownMaze$Plan" "wants" "LMownMaze$Picture;" "MownMaze" : Cond) ∈ nestW := List.mem_of_getElem? (i := 26) rfl
theorem nw_27 : (Cond.fieldLinkNest "MownMaze" 380 "MownMaze$Plan" "wants" "LMownMaze$Picture;" "MownMaze" : Cond) ∈ nestW := List.mem_of_getElem? (i := 27) rfl
theorem nw_28 : (Cond.fieldLinkNest "MownMaze$Reader" 85 "MownMaze$Plan" "moons" "LMownMaze$Picture;" "MownMaze" : Cond) ∈ nestW := List.mem_of_getElem? (i := 28) rfl
theorem nw_29 : (Cond.fieldLinkNest "MownMaze" 377 "MownMaze$Plan" "moons" "LMownMaze$Picture;" "MownMaze" : Cond) ∈ nestW := List.mem_of_getElem? (i := 29) rfl
theorem nw_30 : (Cond.fieldLinkNest "MownMaze$Walk" 95 "MownMaze$Plan" "dusk" "I" "MownMaze" : Cond) ∈ nestW := List.mem_of_getElem? (i := 30) rfl
theorem nw_31 : (Cond.fieldLinkNest "MownMaze" 214 "MownMaze$Plan" "dusk" "I" "MownMaze" : Cond) ∈ nestW := List.mem_of_getElem? (i := 31) rfl
theorem nw_32 : (Cond.fieldLinkNest "MownMaze" 226 "MownMaze$Plan" "pays" "I" "MownMaze" : Cond) ∈ nestW := List.mem_of_getElem? (i := 32) rfl
theorem nw_33 : (Cond.fieldLinkNest "MownMaze" 368 "MownMaze$Plan" "shuts" "I" "MownMaze" : Cond) ∈ nestW := List.mem_of_getElem? (i := 33) rfl
theorem nw_34 : (Cond.fieldLinkNest "MownMaze" 274 "MownMaze$Plan" "gateCount" "I" "MownMaze" : Cond) ∈ nestW := List.mem_of_getElem? (i := 34) rfl
theorem nw_35 : (Cond.fieldLinkNest "MownMaze$Reader" 152 "MownMaze$Plan" "gateCells" "J" "MownMaze" : Cond) ∈ nestW := List.mem_of_getElem? (i := 35) rfl
theorem nw_36 : (Cond.fieldLinkNest "MownMaze$Walk" 116 "MownMaze$Plan" "gateCells" "J" "MownMaze" : Cond) ∈ nestW := List.mem_of_getElem? (i := 36) rfl
theorem nw_37 : (Cond.fieldLinkNest "MownMaze" 264 "MownMaze$Plan" "gateCells" "J" "MownMaze" : Cond) ∈ nestW := List.mem_of_getElem? (i := 37) rfl
theorem nw_38 : (Cond.fieldLinkNest "MownMaze$Walk" 73 "MownMaze$Plan" "noise" "I" "MownMaze" : Cond) ∈ nestW := List.mem_of_getElem? (i := 38) rfl
theorem nw_39 : (Cond.fieldLinkNest "MownMaze$Reader" 173 "MownMaze$Plan" "noise" "I" "MownMaze" : Cond) ∈ nestW := List.mem_of_getElem? (i := 39) rfl
theorem nw_40 : (Cond.fieldLinkNest "MownMaze" 389 "MownMaze$Plan" "heardCount" "I" "MownMaze" : Cond) ∈ nestW := List.mem_of_getElem? (i := 40) rfl
theorem nw_41 : (Cond.fieldLinkNest "MownMaze" 223 "MownMaze$Plan" "walkerCount" "I" "MownMaze" : Cond) ∈ nestW := List.mem_of_getElem? (i := 41) rfl
theorem nw_42 : (Cond.fieldLinkNest "MownMazeModel" 166 "MownMazeModel$Meadow" "wide" "I" "MownMazeModel" : Cond) ∈ nestW := List.mem_of_getElem? (i := 42) rfl
theorem nw_43 : (Cond.fieldLinkNest "MownMazeModel" 174 "MownMazeModel$Meadow" "high" "I" "MownMazeModel" : Cond) ∈ nestW := List.mem_of_getElem? (i := 43) rfl
theorem nw_44 : (Cond.fieldLinkNest "MownMazeModel" 237 "MownMazeModel$Meadow" "dusk" "I" "MownMazeModel" : Cond) ∈ nestW := List.mem_of_getElem? (i := 44) rfl
theorem nw_45 : (Cond.fieldLinkNest "MownMazeModel" 239 "MownMazeModel$Meadow" "pays" "I" "MownMazeModel" : Cond) ∈ nestW := List.mem_of_getElem? (i := 45) rfl
theorem nw_46 : (Cond.fieldLinkNest "MownMazeModel" 241 "MownMazeModel$Meadow" "shuts" "I" "MownMazeModel" : Cond) ∈ nestW := List.mem_of_getElem? (i := 46) rfl
theorem nw_47 : (Cond.fieldLinkNest "MownMazeModel" 183 "MownMazeModel$Meadow" "rows" "I" "MownMazeModel" : Cond) ∈ nestW := List.mem_of_getElem? (i := 47) rfl
theorem nw_48 : (Cond.fieldLinkNest "MownMazeModel" 260 "MownMazeModel$Meadow" "wants" "I" "MownMazeModel" : Cond) ∈ nestW := List.mem_of_getElem? (i := 48) rfl
theorem nw_49 : (Cond.fieldLinkNest "MownMazeModel" 269 "MownMazeModel$Meadow" "moons" "I" "MownMazeModel" : Cond) ∈ nestW := List.mem_of_getElem? (i := 49) rfl
theorem nw_50 : (Cond.fieldLinkNest "MownMazeModel" 278 "MownMazeModel$Meadow" "gates" "I" "MownMazeModel" : Cond) ∈ nestW := List.mem_of_getElem? (i := 50) rfl
theorem nw_51 : (Cond.fieldLinkNest "MownMazeModel" 291 "MownMazeModel$Meadow" "heards" "I" "MownMazeModel" : Cond) ∈ nestW := List.mem_of_getElem? (i := 51) rfl
theorem nw_52 : (Cond.fieldLinkNest "MownMazeModel" 301 "MownMazeModel$Meadow" "walkers" "I" "MownMazeModel" : Cond) ∈ nestW := List.mem_of_getElem? (i := 52) rfl
theorem nw_53 : (Cond.fieldLinkNest "MownMazeModel" 286 "MownMazeModel$Meadow" "noise" "I" "MownMazeModel" : Cond) ∈ nestW := List.mem_of_getElem? (i := 53) rfl
theorem nw_54 : (Cond.fieldLinkNest "MownMazeModel" 257 "MownMazeModel$Meadow" "mown" "J" "MownMazeModel" : Cond) ∈ nestW := List.mem_of_getElem? (i := 54) rfl
theorem nw_55 : (Cond.fieldLinkNest "MownMazeModel" 263 "MownMazeModel$Meadow" "wantMown" "J" "MownMazeModel" : Cond) ∈ nestW := List.mem_of_getElem? (i := 55) rfl
theorem nw_56 : (Cond.fieldLinkNest "MownMazeModel" 266 "MownMazeModel$Meadow" "wantStand" "J" "MownMazeModel" : Cond) ∈ nestW := List.mem_of_getElem? (i := 56) rfl
theorem nw_57 : (Cond.fieldLinkNest "MownMazeModel" 272 "MownMazeModel$Meadow" "moonMown" "J" "MownMazeModel" : Cond) ∈ nestW := List.mem_of_getElem? (i := 57) rfl
theorem nw_58 : (Cond.fieldLinkNest "MownMazeModel" 275 "MownMazeModel$Meadow" "moonStand" "J" "MownMazeModel" : Cond) ∈ nestW := List.mem_of_getElem? (i := 58) rfl
theorem nw_59 : (Cond.fieldLinkNest "MownMazeModel" 281 "MownMazeModel$Meadow" "gateSet" "J" "MownMazeModel" : Cond) ∈ nestW := List.mem_of_getElem? (i := 59) rfl
theorem nw_60 : (Cond.fieldLinkNest "MownMazeModel" 284 "MownMazeModel$Meadow" "gate" "[I" "MownMazeModel" : Cond) ∈ nestW := List.mem_of_getElem? (i := 60) rfl
theorem nw_61 : (Cond.fieldLinkNest "MownMazeModel" 296 "MownMazeModel$Meadow" "heard" "[I" "MownMazeModel" : Cond) ∈ nestW := List.mem_of_getElem? (i := 61) rfl
theorem nw_62 : (Cond.fieldLinkNest "MownMazeModel" 298 "MownMazeModel$Meadow" "heardFrom" "[I" "MownMazeModel" : Cond) ∈ nestW := List.mem_of_getElem? (i := 62) rfl
theorem nw_63 : (Cond.fieldLinkNest "MownMazeModel" 338 "MownMazeModel$Meadow" "kind" "[I" "MownMazeModel" : Cond) ∈ nestW := List.mem_of_getElem? (i := 63) rfl
theorem nw_64 : (Cond.fieldLinkNest "MownMazeModel" 341 "MownMazeModel$Meadow" "start" "[I" "MownMazeModel" : Cond) ∈ nestW := List.mem_of_getElem? (i := 64) rfl
theorem nw_65 : (Cond.fieldLinkNest "MownMazeModel" 344 "MownMazeModel$Meadow" "faces" "[I" "MownMazeModel" : Cond) ∈ nestW := List.mem_of_getElem? (i := 65) rfl
theorem nw_66 : (Cond.fieldLinkNest "MownMazeModel" 346 "MownMazeModel$Meadow" "leaves" "[I" "MownMazeModel" : Cond) ∈ nestW := List.mem_of_getElem? (i := 66) rfl
theorem nw_67 : (Cond.fieldLinkNest "MownMazeModel" 308 "MownMazeModel$Meadow" "name" "[J" "MownMazeModel" : Cond) ∈ nestW := List.mem_of_getElem? (i := 67) rfl
theorem nw_68 : (Cond.methodLinkNest "MownMaze" 11 ⟨"MownMaze$Tape", "<init>", "()V"⟩ "MownMaze" : Cond) ∈ nestW := List.mem_of_getElem? (i := 68) rfl
theorem nw_69 : (Cond.methodLinkNest "MownMaze" 32 ⟨"MownMaze$History", "<init>", "()V"⟩ "MownMaze" : Cond) ∈ nestW := List.mem_of_getElem? (i := 69) rfl
theorem nw_70 : (Cond.methodLinkNest "MownMaze" 39 ⟨"MownMaze$Scythe", "<init>", "()V"⟩ "MownMaze" : Cond) ∈ nestW := List.mem_of_getElem? (i := 70) rfl
theorem nw_71 : (Cond.methodLinkNest "MownMaze$Plan" 11 ⟨"MownMaze$Ground", "<init>", "()V"⟩ "MownMaze" : Cond) ∈ nestW := List.mem_of_getElem? (i := 71) rfl
theorem nw_72 : (Cond.methodLinkNest "MownMaze$Plan" 20 ⟨"MownMaze$Picture", "<init>", "()V"⟩ "MownMaze" : Cond) ∈ nestW := List.mem_of_getElem? (i := 72) rfl
theorem nw_73 : (Cond.methodLinkNest "MownMaze$Plan" 47 ⟨"MownMaze$Walker", "<init>", "()V"⟩ "MownMaze" : Cond) ∈ nestW := List.mem_of_getElem? (i := 73) rfl
theorem nw_74 : (Cond.methodLinkNest "MownMaze$Ground" 25 ⟨"MownMaze", "bit", "(I)J"⟩ "MownMaze" : Cond) ∈ nestW := List.mem_of_getElem? (i := 74) rfl
theorem nw_75 : (Cond.methodLinkNest "MownMaze$Picture" 20 ⟨"MownMaze", "bit", "(I)J"⟩ "MownMaze" : Cond) ∈ nestW := List.mem_of_getElem? (i := 75) rfl
theorem nw_76 : (Cond.methodLinkNest "MownMaze$Reader" 159 ⟨"MownMaze", "isIn", "(JI)Z"⟩ "MownMaze" : Cond) ∈ nestW := List.mem_of_getElem? (i := 76) rfl
theorem nw_77 : (Cond.methodLinkNest "MownMaze$Plan" 90 ⟨"MownMaze", "bit", "(I)J"⟩ "MownMaze" : Cond) ∈ nestW := List.mem_of_getElem? (i := 77) rfl
theorem nw_78 : (Cond.methodLinkNest "MownMaze$Ground" 70 ⟨"MownMaze", "isIn", "(JI)Z"⟩ "MownMaze" : Cond) ∈ nestW := List.mem_of_getElem? (i := 78) rfl
theorem nw_79 : (Cond.methodLinkNest "MownMaze$Walk" 119 ⟨"MownMaze", "isIn", "(JI)Z"⟩ "MownMaze" : Cond) ∈ nestW := List.mem_of_getElem? (i := 79) rfl
theorem nw_80 : (Cond.methodLinkNest "MownMaze$Walk" 138 ⟨"MownMaze", "bit", "(I)J"⟩ "MownMaze" : Cond) ∈ nestW := List.mem_of_getElem? (i := 80) rfl
theorem nw_81 : (Cond.methodLinkNest "MownMaze$Walk" 150 ⟨"MownMaze", "draw", "(I)I"⟩ "MownMaze" : Cond) ∈ nestW := List.mem_of_getElem? (i := 81) rfl
theorem nw_82 : (Cond.methodLinkNest "MownMaze$Scythe" 41 ⟨"MownMaze", "nthCell", "(JI)I"⟩ "MownMaze" : Cond) ∈ nestW := List.mem_of_getElem? (i := 82) rfl
theorem nw_83 : (Cond.methodLinkNest "MownMaze$Scythe" 45 ⟨"MownMaze", "bit", "(I)J"⟩ "MownMaze" : Cond) ∈ nestW := List.mem_of_getElem? (i := 83) rfl
theorem nw_84 : (Cond.methodLinkNest "MownMaze$Scythe" 55 ⟨"MownMaze", "isIn", "(JI)Z"⟩ "MownMaze" : Cond) ∈ nestW := List.mem_of_getElem? (i := 84) rfl
theorem nw_85 : (Cond.methodLinkNest "MownMazeModel" 351 ⟨"MownMazeModel$Meadow", "<init>", "()V"⟩ "MownMazeModel" : Cond) ∈ nestW := List.mem_of_getElem? (i := 85) rfl
theorem sr_MownMaze_Reader_53 : ("MownMaze$Reader", 53, "meadow row want moon gate noise heard walker", 0) ∈ strRows := List.mem_of_getElem? (i := 0) rfl
theorem sr_MownMaze_Reader_100 : ("MownMaze$Reader", 100, "wide", 1) ∈ strRows := List.mem_of_getElem? (i := 1) rfl
theorem sr_MownMaze_Reader_109 : ("MownMaze$Reader", 109, "high", 2) ∈ strRows := List.mem_of_getElem? (i := 2) rfl
theorem sr_MownMaze_Reader_111 : ("MownMaze$Reader", 111, "dusk", 3) ∈ strRows := List.mem_of_getElem? (i := 3) rfl
theorem sr_MownMaze_Reader_113 : ("MownMaze$Reader", 113, "pays", 4) ∈ strRows := List.mem_of_getElem? (i := 4) rfl
theorem sr_MownMaze_Reader_115 : ("MownMaze$Reader", 115, "shuts", 5) ∈ strRows := List.mem_of_getElem? (i := 5) rfl
theorem sr_MownMaze_Reader_179 : ("MownMaze$Reader", 179, "from", 6) ∈ strRows := List.mem_of_getElem? (i := 6) rfl
theorem sr_MownMaze_Reader_196 : ("MownMaze$Reader", 196, "left right once cow lot", 7) ∈ strRows := List.mem_of_getElem? (i := 7) rfl
theorem sr_MownMaze_Reader_201 : ("MownMaze$Reader", 201, "at", 8) ∈ strRows := List.mem_of_getElem? (i := 8) rfl
theorem sr_MownMaze_Reader_203 : ("MownMaze$Reader", 203, "faces", 9) ∈ strRows := List.mem_of_getElem? (i := 9) rfl
theorem sr_MownMaze_Reader_205 : ("MownMaze$Reader", 205, "north east south west", 10) ∈ strRows := List.mem_of_getElem? (i := 10) rfl
theorem sr_MownMaze_Reader_207 : ("MownMaze$Reader", 207, "leaves", 11) ∈ strRows := List.mem_of_getElem? (i := 11) rfl
theorem sr_MownMaze_335 : ("MownMaze", 335, "there is no such gate", 12) ∈ strRows := List.mem_of_getElem? (i := 12) rfl
theorem sr_MownMazeModel_186 : ("MownMazeModel", 186, "meadow", 13) ∈ strRows := List.mem_of_getElem? (i := 13) rfl
theorem sr_MownMazeModel_225 : ("MownMazeModel", 225, "wide", 14) ∈ strRows := List.mem_of_getElem? (i := 14) rfl
theorem sr_MownMazeModel_230 : ("MownMazeModel", 230, "high", 15) ∈ strRows := List.mem_of_getElem? (i := 15) rfl
theorem sr_MownMazeModel_231 : ("MownMazeModel", 231, "dusk", 16) ∈ strRows := List.mem_of_getElem? (i := 16) rfl
theorem sr_MownMazeModel_233 : ("MownMazeModel", 233, "pays", 17) ∈ strRows := List.mem_of_getElem? (i := 17) rfl
theorem sr_MownMazeModel_235 : ("MownMazeModel", 235, "shuts", 18) ∈ strRows := List.mem_of_getElem? (i := 18) rfl
theorem sr_MownMazeModel_191 : ("MownMazeModel", 191, "row", 19) ∈ strRows := List.mem_of_getElem? (i := 19) rfl
theorem sr_MownMazeModel_195 : ("MownMazeModel", 195, "want", 20) ∈ strRows := List.mem_of_getElem? (i := 20) rfl
theorem sr_MownMazeModel_200 : ("MownMazeModel", 200, "moon", 21) ∈ strRows := List.mem_of_getElem? (i := 21) rfl
theorem sr_MownMazeModel_205 : ("MownMazeModel", 205, "gate", 22) ∈ strRows := List.mem_of_getElem? (i := 22) rfl
theorem sr_MownMazeModel_210 : ("MownMazeModel", 210, "noise", 23) ∈ strRows := List.mem_of_getElem? (i := 23) rfl
theorem sr_MownMazeModel_215 : ("MownMazeModel", 215, "heard", 24) ∈ strRows := List.mem_of_getElem? (i := 24) rfl
theorem sr_MownMazeModel_294 : ("MownMazeModel", 294, "from", 25) ∈ strRows := List.mem_of_getElem? (i := 25) rfl
theorem sr_MownMazeModel_220 : ("MownMazeModel", 220, "walker", 26) ∈ strRows := List.mem_of_getElem? (i := 26) rfl
theorem sr_MownMazeModel_311 : ("MownMazeModel", 311, "left", 27) ∈ strRows := List.mem_of_getElem? (i := 27) rfl
theorem sr_MownMazeModel_316 : ("MownMazeModel", 316, "right", 28) ∈ strRows := List.mem_of_getElem? (i := 28) rfl
theorem sr_MownMazeModel_318 : ("MownMazeModel", 318, "once", 29) ∈ strRows := List.mem_of_getElem? (i := 29) rfl
theorem sr_MownMazeModel_320 : ("MownMazeModel", 320, "cow", 30) ∈ strRows := List.mem_of_getElem? (i := 30) rfl
theorem sr_MownMazeModel_322 : ("MownMazeModel", 322, "lot", 31) ∈ strRows := List.mem_of_getElem? (i := 31) rfl
theorem sr_MownMazeModel_324 : ("MownMazeModel", 324, "at", 32) ∈ strRows := List.mem_of_getElem? (i := 32) rfl
theorem sr_MownMazeModel_326 : ("MownMazeModel", 326, "faces", 33) ∈ strRows := List.mem_of_getElem? (i := 33) rfl
theorem sr_MownMazeModel_328 : ("MownMazeModel", 328, "north", 34) ∈ strRows := List.mem_of_getElem? (i := 34) rfl
theorem sr_MownMazeModel_330 : ("MownMazeModel", 330, "east", 35) ∈ strRows := List.mem_of_getElem? (i := 35) rfl
theorem sr_MownMazeModel_332 : ("MownMazeModel", 332, "south", 36) ∈ strRows := List.mem_of_getElem? (i := 36) rfl
theorem sr_MownMazeModel_334 : ("MownMazeModel", 334, "west", 37) ∈ strRows := List.mem_of_getElem? (i := 37) rfl
theorem sr_MownMazeModel_336 : ("MownMazeModel", 336, "leaves", 38) ∈ strRows := List.mem_of_getElem? (i := 38) rfl
