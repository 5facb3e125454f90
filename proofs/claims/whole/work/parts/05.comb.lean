def nestW : List Cond := [.fieldLinkNest "MownMaze$Reader" 125 "MownMaze$Ground" "wide" "I" "MownMaze",
  .fieldLinkNest "MownMaze$Plan" 109 "MownMaze$Ground" "wide" "I" "MownMaze",
  .fieldLinkNest "MownMaze$Plan" 87 "MownMaze$Ground" "high" "I" "MownMaze",
  .fieldLinkNest "MownMaze$Reader" 225 "MownMaze$Ground" "high" "I" "MownMaze",
  .fieldLinkNest "MownMaze$Plan" 81 "MownMaze$Ground" "count" "I" "MownMaze",
  .fieldLinkNest "MownMaze" 349 "MownMaze$Ground" "count" "I" "MownMaze",
  .fieldLinkNest "MownMaze" 402 "MownMaze$Ground" "all" "J" "MownMaze",
  .fieldLinkNest "MownMaze" 114 "MownMaze$Picture" "mownCells" "J" "MownMaze",
  .fieldLinkNest "MownMaze" 386 "MownMaze$Picture" "standingCells" "J" "MownMaze",
  .fieldLinkNest "MownMaze$Plan" 84 "MownMaze$Picture" "lineCount" "I" "MownMaze",
  .fieldLinkNest "MownMaze$Reader" 136 "MownMaze$Picture" "lineCount" "I" "MownMaze",
  .fieldLinkNest "MownMaze$Plan" 94 "MownMaze$Walker" "name" "J" "MownMaze",
  .fieldLinkNest "MownMaze$Walk" 62 "MownMaze$Walker" "kind" "I" "MownMaze",
  .fieldLinkNest "MownMaze$Plan" 97 "MownMaze$Walker" "kind" "I" "MownMaze",
  .fieldLinkNest "MownMaze" 359 "MownMaze$Walker" "kind" "I" "MownMaze",
  .fieldLinkNest "MownMaze$Walk" 38 "MownMaze$Walker" "cell" "I" "MownMaze",
  .fieldLinkNest "MownMaze$Plan" 100 "MownMaze$Walker" "cell" "I" "MownMaze",
  .fieldLinkNest "MownMaze$Walk" 45 "MownMaze$Walker" "side" "I" "MownMaze",
  .fieldLinkNest "MownMaze$Plan" 103 "MownMaze$Walker" "side" "I" "MownMaze",
  .fieldLinkNest "MownMaze$Walk" 92 "MownMaze$Walker" "leaves" "I" "MownMaze",
  .fieldLinkNest "MownMaze$Plan" 106 "MownMaze$Walker" "leaves" "I" "MownMaze",
  .fieldLinkNest "MownMaze$Walk" 65 "MownMaze$Plan" "ground" "LMownMaze$Ground;" "MownMaze",
  .fieldLinkNest "MownMaze$Reader" 121 "MownMaze$Plan" "ground" "LMownMaze$Ground;" "MownMaze",
  .fieldLinkNest "MownMaze" 148 "MownMaze$Plan" "ground" "LMownMaze$Ground;" "MownMaze",
  .fieldLinkNest "MownMaze" 110 "MownMaze$Plan" "rows" "LMownMaze$Picture;" "MownMaze",
  .fieldLinkNest "MownMaze$Reader" 74 "MownMaze$Plan" "rows" "LMownMaze$Picture;" "MownMaze",
  .fieldLinkNest "MownMaze$Reader" 82 "MownMaze$Plan" "wants" "LMownMaze$Picture;" "MownMaze",
  .fieldLinkNest "MownMaze" 380 "MownMaze$Plan" "wants" "LMownMaze$Picture;" "MownMaze",
  .fieldLinkNest "MownMaze$Reader" 85 "MownMaze$Plan" "moons" "LMownMaze$Picture;" "MownMaze",
  .fieldLinkNest "MownMaze" 377 "MownMaze$Plan" "moons" "LMownMaze$Picture;" "MownMaze",
  .fieldLinkNest "MownMaze$Walk" 95 "MownMaze$Plan" "dusk" "I" "MownMaze",
  .fieldLinkNest "MownMaze" 214 "MownMaze$Plan" "dusk" "I" "MownMaze",
  .fieldLinkNest "MownMaze" 226 "MownMaze$Plan" "pays" "I" "MownMaze",
  .fieldLinkNest "MownMaze" 368 "MownMaze$Plan" "shuts" "I" "MownMaze",
  .fieldLinkNest "MownMaze" 274 "MownMaze$Plan" "gateCount" "I" "MownMaze",
  .fieldLinkNest "MownMaze$Reader" 152 "MownMaze$Plan" "gateCells" "J" "MownMaze",
  .fieldLinkNest "MownMaze$Walk" 116 "MownMaze$Plan" "gateCells" "J" "MownMaze",
  .fieldLinkNest "MownMaze" 264 "MownMaze$Plan" "gateCells" "J" "MownMaze",
  .fieldLinkNest "MownMaze$Walk" 73 "MownMaze$Plan" "noise" "I" "MownMaze",
  .fieldLinkNest "MownMaze$Reader" 173 "MownMaze$Plan" "noise" "I" "MownMaze",
  .fieldLinkNest "MownMaze" 389 "MownMaze$Plan" "heardCount" "I" "MownMaze",
  .fieldLinkNest "MownMaze" 223 "MownMaze$Plan" "walkerCount" "I" "MownMaze",
  .fieldLinkNest "MownMazeModel" 166 "MownMazeModel$Meadow" "wide" "I" "MownMazeModel",
  .fieldLinkNest "MownMazeModel" 174 "MownMazeModel$Meadow" "high" "I" "MownMazeModel",
  .fieldLinkNest "MownMazeModel" 237 "MownMazeModel$Meadow" "dusk" "I" "MownMazeModel",
  .fieldLinkNest "MownMazeModel" 239 "MownMazeModel$Meadow" "pays" "I" "MownMazeModel",
  .fieldLinkNest "MownMazeModel" 241 "MownMazeModel$Meadow" "shuts" "I" "MownMazeModel",
  .fieldLinkNest "MownMazeModel" 183 "MownMazeModel$Meadow" "rows" "I" "MownMazeModel",
  .fieldLinkNest "MownMazeModel" 260 "MownMazeModel$Meadow" "wants" "I" "MownMazeModel",
  .fieldLinkNest "MownMazeModel" 269 "MownMazeModel$Meadow" "moons" "I" "MownMazeModel",
  .fieldLinkNest "MownMazeModel" 278 "MownMazeModel$Meadow" "gates" "I" "MownMazeModel",
  .fieldLinkNest "MownMazeModel" 291 "MownMazeModel$Meadow" "heards" "I" "MownMazeModel",
  .fieldLinkNest "MownMazeModel" 301 "MownMazeModel$Meadow" "walkers" "I" "MownMazeModel",
  .fieldLinkNest "MownMazeModel" 286 "MownMazeModel$Meadow" "noise" "I" "MownMazeModel",
  .fieldLinkNest "MownMazeModel" 257 "MownMazeModel$Meadow" "mown" "J" "MownMazeModel",
  .fieldLinkNest "MownMazeModel" 263 "MownMazeModel$Meadow" "wantMown" "J" "MownMazeModel",
  .fieldLinkNest "MownMazeModel" 266 "MownMazeModel$Meadow" "wantStand" "J" "MownMazeModel",
  .fieldLinkNest "MownMazeModel" 272 "MownMazeModel$Meadow" "moonMown" "J" "MownMazeModel",
  .fieldLinkNest "MownMazeModel" 275 "MownMazeModel$Meadow" "moonStand" "J" "MownMazeModel",
  .fieldLinkNest "MownMazeModel" 281 "MownMazeModel$Meadow" "gateSet" "J" "MownMazeModel",
  .fieldLinkNest "MownMazeModel" 284 "MownMazeModel$Meadow" "gate" "[I" "MownMazeModel",
  .fieldLinkNest "MownMazeModel" 296 "MownMazeModel$Meadow" "heard" "[I" "MownMazeModel",
  .fieldLinkNest "MownMazeModel" 298 "MownMazeModel$Meadow" "heardFrom" "[I" "MownMazeModel",
  .fieldLinkNest "MownMazeModel" 338 "MownMazeModel$Meadow" "kind" "[I" "MownMazeModel",
  .fieldLinkNest "MownMazeModel" 341 "MownMazeModel$Meadow" "start" "[I" "MownMazeModel",
  .fieldLinkNest "MownMazeModel" 344 "MownMazeModel$Meadow" "faces" "[I" "MownMazeModel",
  .fieldLinkNest "MownMazeModel" 346 "MownMazeModel$Meadow" "leaves" "[I" "MownMazeModel",
  .fieldLinkNest "MownMazeModel" 308 "MownMazeModel$Meadow" "name" "[J" "MownMazeModel",
  .methodLinkNest "MownMaze" 11 ⟨"MownMaze$Tape", "<init>", "()V"⟩ "MownMaze",
  .methodLinkNest "MownMaze" 32 ⟨"MownMaze$History", "<init>", "()V"⟩ "MownMaze",
  .methodLinkNest "MownMaze" 39 ⟨"MownMaze$Scythe", "<init>", "()V"⟩ "MownMaze",
  .methodLinkNest "MownMaze$Plan" 11 ⟨"MownMaze$Ground", "<init>", "()V"⟩ "MownMaze",
  .methodLinkNest "MownMaze$Plan" 20 ⟨"MownMaze$Picture", "<init>", "()V"⟩ "MownMaze",
  .methodLinkNest "MownMaze$Plan" 47 ⟨"MownMaze$Walker", "<init>", "()V"⟩ "MownMaze",
  .methodLinkNest "MownMaze$Ground" 25 ⟨"MownMaze", "bit", "(I)J"⟩ "MownMaze",
  .methodLinkNest "MownMaze$Picture" 20 ⟨"MownMaze", "bit", "(I)J"⟩ "MownMaze",
  .methodLinkNest "MownMaze$Reader" 159 ⟨"MownMaze", "isIn", "(JI)Z"⟩ "MownMaze",
  .methodLinkNest "MownMaze$Plan" 90 ⟨"MownMaze", "bit", "(I)J"⟩ "MownMaze",
  .methodLinkNest "MownMaze$Ground" 70 ⟨"MownMaze", "isIn", "(JI)Z"⟩ "MownMaze",
  .methodLinkNest "MownMaze$Walk" 119 ⟨"MownMaze", "isIn", "(JI)Z"⟩ "MownMaze",
  .methodLinkNest "MownMaze$Walk" 138 ⟨"MownMaze", "bit", "(I)J"⟩ "MownMaze",
  .methodLinkNest "MownMaze$Walk" 150 ⟨"MownMaze", "draw", "(I)I"⟩ "MownMaze",
  .methodLinkNest "MownMaze$Scythe" 41 ⟨"MownMaze", "nthCell", "(JI)I"⟩ "MownMaze",
  .methodLinkNest "MownMaze$Scythe" 45 ⟨"MownMaze", "bit", "(I)J"⟩ "MownMaze",
  .methodLinkNest "MownMaze$Scythe" 55 ⟨"MownMaze", "isIn", "(JI)Z"⟩ "MownMaze",
  .methodLinkNest "MownMazeModel" 351 ⟨"MownMazeModel$Meadow", "<init>", "()V"⟩ "MownMazeModel"]
def strN : Nat := 39
def strLen : List Nat := [44, 4, 4, 4, 4, 5, 4, 23, 2, 5, 21, 6, 21, 6, 4, 4, 4, 4, 5, 3, 4, 4, 4, 5, 5, 4, 6, 4, 5, 4, 3, 3, 2, 5, 5, 4, 5, 4, 6]
def strByt : List (List Int32) := [[109, 101, 97, 100, 111, 119, 32, 114, 111, 119, 32, 119, 97, 110, 116, 32, 109, 111, 111, 110, 32, 103, 97, 116, 101, 32, 110, 111, 105, 115, 101, 32, 104, 101, 97, 114, 100, 32, 119, 97, 108, 107, 101, 114],
  [119, 105, 100, 101],
  [104, 105, 103, 104],
  [100, 117, 115, 107],
  [112, 97, 121, 115],
  [115, 104, 117, 116, 115],
  [102, 114, 111, 109],
  [108, 101, 102, 116, 32, 114, 105, 103, 104, 116, 32, 111, 110, 99, 101, 32, 99, 111, 119, 32, 108, 111, 116],
  [97, 116],
  [102, 97, 99, 101, 115],
  [110, 111, 114, 116, 104, 32, 101, 97, 115, 116, 32, 115, 111, 117, 116, 104, 32, 119, 101, 115, 116],
  [108, 101, 97, 118, 101, 115],
  [116, 104, 101, 114, 101, 32, 105, 115, 32, 110, 111, 32, 115, 117, 99, 104, 32, 103, 97, 116, 101],
  [109, 101, 97, 100, 111, 119],
  [119, 105, 100, 101],
  [104, 105, 103, 104],
  [100, 117, 115, 107],
  [112, 97, 121, 115],
  [115, 104, 117, 116, 115],
  [114, 111, 119],
  [119, 97, 110, 116],
  [109, 111, 111, 110],
  [103, 97, 116, 101],
  [110, 111, 105, 115, 101],
  [104, 101, 97, 114, 100],
  [102, 114, 111, 109],
  [119, 97, 108, 107, 101, 114],
  [108, 101, 102, 116],
  [114, 105, 103, 104, 116],
  [111, 110, 99, 101],
  [99, 111, 119],
  [108, 111, 116],
  [97, 116],
  [102, 97, 99, 101, 115],
  [110, 111, 114, 116, 104],
  [101, 97, 115, 116],
  [115, 111, 117, 116, 104],
  [119, 101, 115, 116],
  [108, 101, 97, 118, 101, 115]]
def strRows : List (String × Nat × String × Nat) := [("MownMaze$Reader", 53, "meadow row want moon gate noise heard walker", 0),
  ("MownMaze$Reader", 100, "wide", 1),
  ("MownMaze$Reader", 109, "high", 2),
  ("MownMaze$Reader", 111, "dusk", 3),
  ("MownMaze$Reader", 113, "pays", 4),
  ("MownMaze$Reader", 115, "shuts", 5),
  ("MownMaze$Reader", 179, "from", 6),
  ("MownMaze$Reader", 196, "left right once cow lot", 7),
  ("MownMaze$Reader", 201, "at", 8),
  ("MownMaze$Reader", 203, "faces", 9),
  ("MownMaze$Reader", 205, "north east south west", 10),
  ("MownMaze$Reader", 207, "leaves", 11),
  ("MownMaze", 335, "there is no such gate", 12),
  ("MownMazeModel", 186, "meadow", 13),
  ("MownMazeModel", 225, "wide", 14),
  ("MownMazeModel", 230, "high", 15),
  ("MownMazeModel", 231, "dusk", 16),
  ("MownMazeModel", 233, "pays", 17),
  ("MownMazeModel", 235, "shuts", 18),
  ("MownMazeModel", 191, "row", 19),
  ("MownMazeModel", 195, "want", 20),
  ("MownMazeModel", 200, "moon", 21),
  ("MownMazeModel", 205, "gate", 22),
  ("MownMazeModel", 210, "noise", 23),
  ("MownMazeModel", 215, "heard", 24),
  ("MownMazeModel", 294, "from", 25),
  ("MownMazeModel", 220, "walker", 26),
  ("MownMazeModel", 311, "left", 27),
  ("MownMazeModel", 316, "right", 28),
  ("MownMazeModel", 318, "once", 29),
  ("MownMazeModel", 320, "cow", 30),
  ("MownMazeModel", 322, "lot", 31),
  ("MownMazeModel", 324, "at", 32),
  ("MownMazeModel", 326, "faces", 33),
  ("MownMazeModel", 328, "north", 34),
  ("MownMazeModel", 330, "east", 35),
  ("MownMazeModel", 332, "south", 36),
  ("MownMazeModel", 334, "west", 37),
  ("MownMazeModel", 336, "leaves", 38)]
/-! Cells by places, and a method's body as a function of numbers: the machine goes as the function says. -/
abbrev AE : Type := (Nat × vp_A) ⊕ (Nat × List Value)
abbrev HP : Type := List AE
abbrev LV : Type := List (Nat × Value)
abbrev KT (β : Type) : Type := LV → List Value → HP → Option β
def rv (ad : Nat → Nat) (v : Value) : Value := match v with
  | .ref a => .ref (ad a)
  | v => v
def re (cy : Nat → ClassId) (ad : Nat → Nat) (x : AE) : va_E := match x with
  | .inl (k, n, .inr (.inr (.inr (.inr f)))) => .inl (cy k, n, .inr (.inr (.inr (.inr (fun j => if j < n then (f j).map ad else none)))))
  | .inl (k, a) => .inl (cy k, a)
  | .inr (c, fs) => .inr (c, fs.map (rv ad))
def wd (cy : Nat → ClassId) (ad : Nat → Nat) (hp : HP) : va_W := hp.mapIdx (fun i x => (ad i, re cy ad x))
def rl (ad : Nat → Nat) (lv : LV) : LV := lv.map (fun q => (q.1, rv ad q.2))
theorem rv_cat (ad : Nat → Nat) (v : Value) : (rv ad v).category = v.category := by cases v <;> rfl
theorem rv_catsum (ad : Nat → Nat) (st : List Value) : ((st.map (rv ad)).map fun v => v.category).sum = (st.map fun v => v.category).sum := by
  rw [List.map_map]
  congr 1
  exact List.map_congr_left (fun v _ => rv_cat ad v)
theorem wd_at {cy : Nat → ClassId} {ad : Nat → Nat} {hp : HP} (a : Nat) {x : AE} (h : hp[a]? = some x) : (wd cy ad hp)[a]? = some (ad a, re cy ad x) := by
  simp [wd, List.getElem?_mapIdx, h]
theorem wd_set {cy : Nat → ClassId} {ad : Nat → Nat} (hp : HP) (a : Nat) (x : AE) : wd cy ad (hp.set a x) = (wd cy ad hp).set a (ad a, re cy ad x) := by
  apply List.ext_getElem?
  intro i
  simp only [wd, List.getElem?_mapIdx, List.getElem?_set, List.length_mapIdx]
  by_cases h : a = i
  · subst h
    by_cases h2 : a < hp.length
    · simp [h2]
    · simp [h2]
  · simp [h]
theorem wd_app {cy : Nat → ClassId} {ad : Nat → Nat} (hp : HP) (x : AE) : wd cy ad (hp ++ [x]) = wd cy ad hp ++ [(ad hp.length, re cy ad x)] := by
  simp [wd, List.mapIdx_append]
theorem wd_len {cy : Nat → ClassId} {ad : Nat → Nat} (hp : HP) : (wd cy ad hp).length = hp.length := by simp [wd]
/-- what a body may lean on: the name, the bytes, the places of its numbers, what it gives back, its words, its room -/
abbrev MX : Type := MethodName × ByteArray × Nat × Option FieldType × List Cond × Room
def Cx (X : MX) (p : Program) (s : State) (m : MethodId) (args : Array Value) (meth : Method) (c : Code) : Prop :=
  p.tables.exec = Jvm.exec ∧ c.code = X.2.1 ∧ meth.sig.returnType = X.2.2.2.1 ∧ c.maxLocals = X.2.2.1 ∧ s.vm.findClass X.1.cls = some m.cls ∧ (∀ w ∈ WS, w.before args s = true) ∧ meth.locks = false ∧ meth.name = X.1.name
abbrev tysOf (cy : Nat → ClassId) : List (ClassId × FieldType) := [(cy 0, .byte), (cy 1, .int), (cy 2, .long), (cy 3, .object "MownMaze$Walker")]
def cyOK (cy : Nat → ClassId) (U : State) : Prop := U.vm.findClass "[B" = some (cy 0) ∧ U.vm.findClass "[I" = some (cy 1) ∧ U.vm.findClass "[J" = some (cy 2) ∧ U.vm.findClass "[LMownMaze$Walker;" = some (cy 3) ∧ va_AO "MownMaze$Walker" U
def vS (adK adV : Nat → Nat) (A : Nat → Prop) (U : State) (H : Heap) : Prop := ∀ i : Nat, i < strN → va_O "java/lang/String" (adK i) A U H ∧ va_OF "java/lang/String" "coder" "B" (.int 0) (adK i) A U H ∧ va_OF "java/lang/String" "value" "[B" (.ref (adV i)) (adK i) A U H ∧ va_T .byte (adV i) (strLen.getD i 0) (fun j => .int ((strByt.getD i []).getD j 0)) A U H
theorem vS.moved {adK adV : Nat → Nat} {A : Nat → Prop} {u U : State} {H : Heap} (hvm : u.vm.Alike U.vm) (h : vS adK adV A u H) : vS adK adV A U H :=
  fun i hi => ⟨va_O.moved hvm (h i hi).1, va_OF.moved hvm (h i hi).2.1, va_OF.moved hvm (h i hi).2.2.1, va_T.moved hvm (h i hi).2.2.2⟩
theorem vS.kept {adK adV : Nat → Nat} {A : Nat → Prop} {U : State} {H H1 : Heap} (h : vS adK adV A U H) (hq : ∀ a : Nat, a < H.size → ¬ A a → H1[a]? = H[a]?) : vS adK adV A U H1 :=
  fun i hi => ⟨(h i hi).1.kept hq, (h i hi).2.1.kept hq, (h i hi).2.2.1.kept hq, (h i hi).2.2.2.kept hq⟩
theorem vS.narrow {adK adV : Nat → Nat} {A B : Nat → Prop} {U : State} {H : Heap} (h : vS adK adV A U H) (hAB : ∀ q, B q → A q) : vS adK adV B U H :=
  fun i hi => ⟨(h i hi).1.narrow hAB, (h i hi).2.1.narrow hAB, (h i hi).2.2.1.narrow hAB, (h i hi).2.2.2.narrow hAB⟩
def ST (A : Nat → Prop) (ad : Nat → Nat) (U : State) (H : Heap) : Prop :=
  vS (fun i => ad (2000 + i)) (fun i => ad (3000 + i)) A U H ∧ (∀ q ∈ strRows, vk_R q.1 q.2.1 q.2.2.1 (ad (2000 + q.2.2.2)) U) ∧ va_Z "java/lang/String" "COMPACT_STRINGS" "Z" (.int 1) A U H ∧ (va_Z "jdk/internal/util/Preconditions" "SIOOBE_FORMATTER" "Ljava/util/function/BiFunction;" .null A U H ∨ va_Z "jdk/internal/util/Preconditions" "SIOOBE_FORMATTER" "Ljava/util/function/BiFunction;" (.ref (ad 4000)) A U H)
def GS (D : va_G) (cy : Nat → ClassId) (A : Nat → Prop) (ad : Nat → Nat) (U : State) (H : Heap) : Prop :=
  va_K D vwCl (tysOf cy) U ∧ (∀ w ∈ nestW, va_Nw w U) ∧ cyOK cy U ∧ ST A ad U H
/-- how a body ends: what it gives back, and the cells behind it -/
def QF (D : va_G) (cy : Nat → ClassId) (A : Nat → Prop) (ad0 : Nat → Nat) (n0 : Nat) (o : Option Value × HP) : Array Value → State → Outcome → State → Prop := fun _ st oc t =>
  ∃ ad1 : Nat → Nat, n0 ≤ o.2.length ∧ o.2.length ≤ 2000 ∧ (∀ n, (n < n0 ∨ o.2.length ≤ n) → ad1 n = ad0 n) ∧ oc = .returned (o.1.map (rv ad1)) ∧ va_P D vwCl (wd cy ad1 o.2) t.heap ∧ va_D A (wd cy ad1 o.2) ∧ va_F A st t
/-- the state of a body at some place of it -/
def Sd (X : MX) (mc ms : Nat) (p : Program) (s : State) (m : MethodId) (args : Array Value) (meth : Method) (c : Code) (D : va_G) (cy : Nat → ClassId) (A : Nat → Prop) (ad0 : Nat → Nat) (n0 mcT msT : Nat) (ad : Nat → Nat) (H : Heap) (locs : List Loc) (cells slots : Nat) (hp : HP) : Prop :=
  Cx X p s m args meth c ∧ GS D cy A ad0 s s.heap ∧ (∀ q, s.heap.size ≤ q → A q) ∧ n0 ≤ hp.length ∧ hp.length ≤ 2000 ∧ (∀ n, (n < n0 ∨ hp.length ≤ n) → ad n = ad0 n) ∧ va_P D vwCl (wd cy ad hp) H ∧ va_D A (wd cy ad hp) ∧ va_S A s.heap H locs ∧ cells + mc ≤ mcT ∧ slots + ms ≤ msT ∧ mcT ≤ X.2.2.2.2.2.cells ∧ msT ≤ X.2.2.2.2.2.slots
def Snd {β : Type} (X : MX) (fin : β → HP → Option Value × HP) (pc : Nat) (k : KT β) (mc ms : Nat) : Prop :=
  ∀ (p : Program) (l : Launch) (e : Env) (s : State) (m : MethodId) (args : Array Value) (below : List Frame) (meth : Method) (c : Code) (D : va_G) (cy : Nat → ClassId) (A : Nat → Prop) (ad0 : Nat → Nat) (n0 mcT msT : Nat) (ad : Nat → Nat) (H : Heap) (locs : List Loc) (cells slots : Nat) (lv : LV) (st : List Value) (hp : HP) (out : β) (lsA : Array Slot),
    Sd X mc ms p s m args meth c D cy A ad0 n0 mcT msT ad H locs cells slots hp → k lv st hp = some out → lv_has lsA X.2.2.1 (rl ad lv) →
    W p l e X.2.2.2.2.2 s m args below meth c H locs cells slots (MQ below (QF D cy A ad0 n0 (fin out hp)) args s mcT msT A) (F0 m pc lsA (st.map (rv ad)))
/-- a row that leaves cells and places of numbers as they are -/
theorem Snd.row {β : Type} {X : MX} {fin : β → HP → Option Value × HP} {pc pc2 : Nat} {k k2 : KT β} {mc ms : Nat} (h : Snd X fin pc2 k2 mc ms)
    (hk : ∀ (lv : LV) (st : List Value) (hp : HP) (out : β), k lv st hp = some out → ∃ st2 : List Value, k2 lv st2 hp = some out ∧
      ∀ (p : Program) (l : Launch) (e : Env) (s : State) (m : MethodId) (args : Array Value) (below : List Frame) (meth : Method) (c : Code) (H : Heap) (locs : List Loc) (cells slots : Nat) (Q : State → Prop) (ad : Nat → Nat) (lsA : Array Slot),
        Cx X p s m args meth c → lv_has lsA X.2.2.1 (rl ad lv) → W p l e X.2.2.2.2.2 s m args below meth c H locs cells slots Q (F0 m pc2 lsA (st2.map (rv ad))) → W p l e X.2.2.2.2.2 s m args below meth c H locs cells slots Q (F0 m pc lsA (st.map (rv ad)))) :
    Snd X fin pc k mc ms := by
  intro p l e s m args below meth c D cy A ad0 n0 mcT msT ad H locs cells slots lv st hp out lsA hs ho hl
  obtain ⟨st2, h2, hw⟩ := hk lv st hp out ho
  exact hw p l e s m args below meth c H locs cells slots _ ad lsA hs.1 hl (h p l e s m args below meth c D cy A ad0 n0 mcT msT ad H locs cells slots lv st2 hp out lsA hs h2 hl)
/-- a row that writes one of the places of numbers -/
theorem Snd.rowS {β : Type} {X : MX} {fin : β → HP → Option Value × HP} {pc pc2 : Nat} {k k2 : KT β} {mc ms : Nat} (h : Snd X fin pc2 k2 mc ms)
    (hk : ∀ (lv : LV) (st : List Value) (hp : HP) (out : β), k lv st hp = some out → ∃ (lv2 : LV) (st2 : List Value), k2 lv2 st2 hp = some out ∧
      ∀ (p : Program) (l : Launch) (e : Env) (s : State) (m : MethodId) (args : Array Value) (below : List Frame) (meth : Method) (c : Code) (H : Heap) (locs : List Loc) (cells slots : Nat) (Q : State → Prop) (ad : Nat → Nat) (lsA : Array Slot),
        Cx X p s m args meth c → lv_has lsA X.2.2.1 (rl ad lv) → (∀ lsB : Array Slot, lv_has lsB X.2.2.1 (rl ad lv2) → W p l e X.2.2.2.2.2 s m args below meth c H locs cells slots Q (F0 m pc2 lsB (st2.map (rv ad)))) → W p l e X.2.2.2.2.2 s m args below meth c H locs cells slots Q (F0 m pc lsA (st.map (rv ad)))) :
    Snd X fin pc k mc ms := by
  intro p l e s m args below meth c D cy A ad0 n0 mcT msT ad H locs cells slots lv st hp out lsA hs ho hl
  obtain ⟨lv2, st2, h2, hw⟩ := hk lv st hp out ho
  exact hw p l e s m args below meth c H locs cells slots _ ad lsA hs.1 hl (fun lsB hB => h p l e s m args below meth c D cy A ad0 n0 mcT msT ad H locs cells slots lv2 st2 hp out lsB hs h2 hB)
/-- a row that looks at a cell -/
theorem Snd.rowH {β : Type} {X : MX} {fin : β → HP → Option Value × HP} {pc pc2 : Nat} {k k2 : KT β} {mc ms : Nat} (h : Snd X fin pc2 k2 mc ms)
    (hk : ∀ (lv : LV) (st : List Value) (hp : HP) (out : β), k lv st hp = some out → ∃ st2 : List Value, k2 lv st2 hp = some out ∧
      ∀ (p : Program) (l : Launch) (e : Env) (s : State) (m : MethodId) (args : Array Value) (below : List Frame) (meth : Method) (c : Code) (D : va_G) (cy : Nat → ClassId) (A : Nat → Prop) (H : Heap) (locs : List Loc) (cells slots : Nat) (Q : State → Prop) (ad0 ad : Nat → Nat) (lsA : Array Slot),
        Cx X p s m args meth c → GS D cy A ad0 s s.heap → va_P D vwCl (wd cy ad hp) H → W p l e X.2.2.2.2.2 s m args below meth c H locs cells slots Q (F0 m pc2 lsA (st2.map (rv ad))) → W p l e X.2.2.2.2.2 s m args below meth c H locs cells slots Q (F0 m pc lsA (st.map (rv ad)))) :
    Snd X fin pc k mc ms := by
  intro p l e s m args below meth c D cy A ad0 n0 mcT msT ad H locs cells slots lv st hp out lsA hs ho hl
  obtain ⟨st2, h2, hw⟩ := hk lv st hp out ho
  exact hw p l e s m args below meth c D cy A H locs cells slots _ ad0 ad lsA hs.1 hs.2.1 hs.2.2.2.2.2.2.1 (h p l e s m args below meth c D cy A ad0 n0 mcT msT ad H locs cells slots lv st2 hp out lsA hs h2 hl)
theorem Sd.put {X : MX} {mc ms : Nat} {p : Program} {s : State} {m : MethodId} {args : Array Value} {meth : Method} {c : Code} {D : va_G} {cy : Nat → ClassId} {A : Nat → Prop} {ad0 : Nat → Nat} {n0 mcT msT : Nat} {ad : Nat → Nat} {H H1 : Heap} {locs locs1 : List Loc} {cells slots : Nat} {hp hp1 : HP}
    (h : Sd X mc ms p s m args meth c D cy A ad0 n0 mcT msT ad H locs cells slots hp) (hlen : hp1.length = hp.length) (hP : va_P D vwCl (wd cy ad hp1) H1) (hD : va_D A (wd cy ad hp1)) (hS : va_S A s.heap H1 locs1) : Sd X mc ms p s m args meth c D cy A ad0 n0 mcT msT ad H1 locs1 cells slots hp1 := by
  obtain ⟨a1, a2, a3, a4, a5, a6, -, -, -, b1, b2, b3, b4⟩ := h
  exact ⟨a1, a2, a3, by rw [hlen]; exact a4, by rw [hlen]; exact a5, by rw [hlen]; exact a6, hP, hD, hS, b1, b2, b3, b4⟩
theorem Snd.more {β : Type} {X : MX} {fin : β → HP → Option Value × HP} {pc : Nat} {k : KT β} {mc ms mc2 ms2 : Nat} (h : Snd X fin pc k mc ms) (h1 : mc ≤ mc2) (h2 : ms ≤ ms2) : Snd X fin pc k mc2 ms2 := by
  intro p l e s m args below meth c D cy A ad0 n0 mcT msT ad H locs cells slots lv st hp out lsA hs ho hl
  obtain ⟨a1, a2, a3, a4, a5, a6, a7, a8, a9, b1, b2, b3, b4⟩ := hs
  exact h p l e s m args below meth c D cy A ad0 n0 mcT msT ad H locs cells slots lv st hp out lsA ⟨a1, a2, a3, a4, a5, a6, a7, a8, a9, by omega, by omega, b3, b4⟩ ho hl
/-- nothing to say: the function has no answer -/
def kN {β : Type} : KT β := fun _ _ _ => none
theorem s_none {β : Type} {X : MX} {fin : β → HP → Option Value × HP} {pc : Nat} {mc ms : Nat} : Snd (β := β) X fin pc kN mc ms := by
  intro p l e s m args below meth c D cy A ad0 n0 mcT msT ad H locs cells slots lv st hp out lsA hs ho hl
  cases ho
/-- a loop, so many times at most -/
def lp {β : Type} (body : KT β → KT β) : Nat → KT β
  | 0 => kN
  | n + 1 => body (lp body n)
theorem s_lp {β : Type} {X : MX} {fin : β → HP → Option Value × HP} {pc : Nat} {body : KT β → KT β} {mc ms : Nat} (h : ∀ k : KT β, Snd X fin pc k mc ms → Snd X fin pc (body k) mc ms) (n : Nat) : Snd X fin pc (lp body n) mc ms := by
  induction n with
  | zero => exact s_none
  | succ n ih => exact h _ ih
def lk (lv : LV) (i : Nat) : Option Value := (lv.find? (fun q => q.1 == i)).map (fun q => q.2)
theorem lk_mem {lv : LV} {i : Nat} {v : Value} (h : lk lv i = some v) : (i, v) ∈ lv := by
  unfold lk at h
  cases hf : lv.find? (fun q => q.1 == i) with
  | none => rw [hf] at h; cases h
  | some q =>
    rw [hf] at h
    have h1 := List.mem_of_find?_eq_some hf
    have h2 := List.find?_some hf
    simp only [beq_iff_eq] at h2
    obtain ⟨q1, q2⟩ := q
    simp only [Option.map_some, Option.some.injEq] at h
    subst h2; subst h
    exact h1
theorem lk_at {ad : Nat → Nat} {lsA : Array Slot} {nL : Nat} {lv : LV} (hl : lv_has lsA nL (rl ad lv)) {i : Nat} {v : Value} (h : lk lv i = some v) : lsA[i]? = some (.val (rv ad v)) :=
  hl.2.2 (i, rv ad v) (List.mem_map.mpr ⟨(i, v), lk_mem h, rfl⟩)
/-- keep these places of numbers alone -/
def oPick {β : Type} (is : List Nat) (k : KT β) : KT β := fun lv st hp => k (is.filterMap (fun i => (lk lv i).map (fun v => (i, v)))) st hp
theorem s_pick {β : Type} {X : MX} {fin : β → HP → Option Value × HP} {pc : Nat} {k : KT β} {mc ms : Nat} {is : List Nat} (h : Snd X fin pc k mc ms) : Snd X fin pc (oPick is k) mc ms := by
  intro p l e s m args below meth c D cy A ad0 n0 mcT msT ad H locs cells slots lv st hp out lsA hs ho hl
  refine h p l e s m args below meth c D cy A ad0 n0 mcT msT ad H locs cells slots _ st hp out lsA hs ho ⟨hl.1, hl.2.1, ?_⟩
  intro q hq
  obtain ⟨q0, hq0, rfl⟩ := List.mem_map.mp hq
  obtain ⟨i, -, hi⟩ := List.mem_filterMap.mp hq0
  cases hv : lk lv i with
  | none => rw [hv] at hi; cases hi
  | some v =>
    rw [hv] at hi
    cases hi
    exact lk_at hl hv
def stI (lv : LV) (i : Nat) (v : Value) : LV := (i, v) :: lv.filter (fun q => !(q.1 == i) && !(q.1 + 1 == i && q.2.category == 2))
def stL (lv : LV) (i : Nat) (v : Value) : LV := (i, v) :: lv.filter (fun q => !(q.1 == i) && (!(q.1 == i + 1) && !(q.1 + 1 == i && q.2.category == 2)))
theorem stI_rl (ad : Nat → Nat) (lv : LV) (i : Nat) (v : Value) : (i, rv ad v) :: (rl ad lv).filter (fun q => !(q.1 == i) && !(q.1 + 1 == i && q.2.category == 2)) = rl ad (stI lv i v) := by
  simp only [rl, stI, List.map_cons, List.filter_map]
  congr 2
  apply List.filter_congr
  intro q _
  simp [rv_cat]
theorem stL_rl (ad : Nat → Nat) (lv : LV) (i : Nat) (v : Value) : (i, rv ad v) :: (rl ad lv).filter (fun q => !(q.1 == i) && (!(q.1 == i + 1) && !(q.1 + 1 == i && q.2.category == 2))) = rl ad (stL lv i v) := by
  simp only [rl, stL, List.map_cons, List.filter_map]
  congr 2
  apply List.filter_congr
  intro q _
  simp [rv_cat]
